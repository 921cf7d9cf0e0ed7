/-! drift: a STEP by another air than the AIRS' -/
def Ea (g h : Nat → Nat) : Prop := ∀ j, ¬ (32 ≤ j ∧ j < 38) → h j = g j
theorem Ea.rf {g : Nat → Nat} : Ea g g := fun _ _ => rfl
theorem ea_up {g h : Nat → Nat} (e : Ea g h) {k v : Nat} : Ea (up g k v) (up h k v) := by
  intro j hj
  by_cases q : j = k
  · subst q; rw [up_k, up_k]
  · rw [up_o q, up_o q]; exact e j hj
theorem ea_upr {g h : Nat → Nat} (e : Ea g h) {k v : Nat} (hk : 32 ≤ k ∧ k < 38) : Ea g (up h k v) := by
  intro j hj
  rw [up_o (by omega)]
  exact e j hj
theorem ea_told1 {g h : Nat → Nat} (e : Ea g h) {l : Nat} (hl : l < 3) (ha : g (4 * l + 1) < 20) : Ea (told1 g l) (told1 h l) := by
  unfold told1
  rw [e (4 * l + 3) (by omega), e (4 * l + 2) (by omega), e (4 * l + 1) (by omega), e (43 + 20 * l + g (4 * l + 1)) (by omega)]
  exact ea_up (ea_up e)
theorem ea_told {nl ns T : Nat} {g h : Nat → Nat} (hW : WF nl ns T g) (e : Ea g h) : ∀ {l : Nat}, l ≤ nl → Ea (told g l) (told h l)
  | 0, _ => e
  | l + 1, hl => ea_told1 (ea_told hW e (l := l) (by omega)) (by have := hW.1; omega) ((hW.told (l := l) (by omega)).2.2.2.1 l (by omega)).2.1
theorem ea_take1 {q r : Nat × (Nat → Nat)} {i l : Nat} (hi : i < 4) (hl : l < 3) (h1 : r.1 = q.1) (e : Ea q.2 r.2) (ha : q.2 (12 + 2 * i) < 20) : (take1 r i l).1 = (take1 q i l).1 ∧ Ea (take1 q i l).2 (take1 r i l).2 := by
  unfold take1
  dsimp only
  rw [h1, e (12 + 2 * i) (by omega), e (43 + 20 * l + q.2 (12 + 2 * i)) (by omega), e (20 + 3 * i + l) (by omega)]
  exact ⟨rfl, ea_up (ea_up e)⟩
theorem ea_takeL {nl ns T : Nat} {q r : Nat × (Nat → Nat)} (hW : WF nl ns T q.2) {i : Nat} (hi : i < ns) (h1 : r.1 = q.1) (e : Ea q.2 r.2) : ∀ {l : Nat}, l ≤ nl → (takeL i r l).1 = (takeL i q l).1 ∧ Ea (takeL i q l).2 (takeL i r l).2
  | 0, _ => ⟨h1, e⟩
  | l + 1, hl => by
    obtain ⟨a, b⟩ := ea_takeL hW hi h1 e (l := l) (by omega)
    exact ea_take1 (by have := hW.2.1; omega) (by have := hW.1; omega) a b ((hW.takeL hi (l := l) (by omega)).2.2.2.2.1 i hi).1
theorem ea_takeS {nl ns T : Nat} {g h : Nat → Nat} (hW : WF nl ns T g) (e : Ea g h) : ∀ {i : Nat}, i ≤ ns → Ea (takeS nl g i) (takeS nl h i)
  | 0, _ => e
  | i + 1, hi => by
    have e2 := ea_takeS hW e (i := i) (by omega)
    have hm := hW.2.1
    exact (ea_takeL (q := (takeS nl g i (13 + 2 * i), takeS nl g i)) (r := (takeS nl h i (13 + 2 * i), takeS nl h i)) (hW.takeS (i := i) (by omega)) (by omega) (e2 _ (by omega)) e2 (Nat.le_refl _)).2
theorem ea_tt {nl ns T : Nat} {g h : Nat → Nat} (hW : WF nl ns T g) (e : Ea g h) : Ea (tt nl ns g) (tt nl ns h) := ea_takeS (hW.told (Nat.le_refl _)) (ea_told hW e (Nat.le_refl _)) (Nat.le_refl _)
theorem ea_drift1 {w : Nat} {g h : Nat → Nat} (e : Ea g h) {l : Nat} (hl : l < 3) : Ea (drift1 w g l) (drift1 w h l) := by
  intro j hj
  by_cases h1 : 43 + 20 * l ≤ j ∧ j < 43 + 20 * l + 20
  · obtain ⟨x, rfl⟩ : ∃ x, j = 43 + 20 * l + x := ⟨j - (43 + 20 * l), by omega⟩
    rw [drift1_c (by omega), drift1_c (by omega), e (4 * l) (by omega), e (43 + 20 * l + x) (by omega)]
    by_cases hp : prv x w < 20
    · rw [if_pos hp, if_pos hp, e (43 + 20 * l + prv x w) (by omega)]
    · rw [if_neg hp, if_neg hp]
  · by_cases h2 : j = 103 + l
    · subst h2
      rw [drift1_l hl, drift1_l hl, e (103 + l) (by omega), e (4 * l) (by omega), sm_cong (fun c hc => by rw [e (43 + 20 * l + c) (by omega)])]
    · rw [drift1_o (by omega) h2, drift1_o (by omega) h2]; exact e j hj
theorem ea_driftA {w : Nat} {g h : Nat → Nat} (e : Ea g h) : ∀ {l : Nat}, l ≤ 3 → Ea (driftA w g l) (driftA w h l)
  | 0, _ => e
  | l + 1, hl => ea_drift1 (ea_driftA e (l := l) (by omega)) (by omega)
theorem ea_stp {nl ns T w : Nat} {g h : Nat → Nat} (hW : WF nl ns T g) (e : Ea g h) : Ea (stp nl ns w g) (stp nl ns w h) := by
  have e1 := ea_tt hW e
  unfold stp
  rw [e 42 (by omega)]
  refine ea_up ?_
  unfold blown
  by_cases h0 : w = 0
  · rw [if_pos h0, if_pos h0]; exact e1
  · rw [if_neg h0, if_neg h0]; exact ea_driftA e1 hW.1
theorem sh_eq (x : Int32) : ((x.toUInt32 >>> ((nI 16).toUInt32 &&& Int32.toUInt32 31)).toInt32 &&& nI 32767) = ((x >>> (nI 16 &&& 31)) &&& nI 32767) := by
  apply Int32.toBitVec_inj.mp
  have h1 : ((nI 16).toUInt32 &&& Int32.toUInt32 31) = 16 := by decide
  have h2 : (nI 16 &&& 31) = 16 := by decide
  rw [h1, h2]
  ext i hi
  have hb : (nI 32767).toBitVec.getLsbD i = decide (i < 15) := by
    have : ∀ i, i < 32 → (nI 32767).toBitVec.getLsbD i = decide (i < 15) := by decide
    exact this i hi
  by_cases h : i < 15
  · simp only [Int32.toBitVec_and, BitVec.getElem_and]
    congr 1
    show (x.toBitVec >>> (16 : Nat))[i] = (BitVec.sshiftRight x.toBitVec 16)[i]
    rw [BitVec.getElem_ushiftRight, BitVec.getElem_sshiftRight]
    rw [dif_pos (by omega)]
    rw [BitVec.getLsbD_eq_getElem (by omega)]
  · rw [← BitVec.getLsbD_eq_getElem, ← BitVec.getLsbD_eq_getElem]
    simp only [Int32.toBitVec_and, BitVec.getLsbD_and, hb]
    simp [h]
/-- the WAY that a turned seed gives -/
def dw (x : Int32) : Nat := (x >>> (nI 16 &&& 31)).toBitVec.toNat % 2 ^ 15 % 5
theorem dw_eq (x : Int32) : ((x >>> (nI 16 &&& 31)) &&& nI 32767) - ((x >>> (nI 16 &&& 31)) &&& nI 32767) / nI 5 * nI 5 = nI (dw x) := by
  rw [pk_and (x >>> (nI 16 &&& 31)) (m := nI 32767) 15 (by decide), pk_rem (by have := Nat.mod_lt ((x >>> (nI 16 &&& 31)).toBitVec.toNat) (show 0 < 2 ^ 15 by decide); omega) (by decide) (by decide)]
  rfl
theorem dw_lt (x : Int32) : dw x < 5 := Nat.mod_lt _ (by decide)
def sd (x : Int32) : Nat → Int32
  | 0 => x
  | k + 1 => sd x k * nI 1103515245 + nI 12345
def dgo (nl ns : Nat) (x : Int32) (g : Nat → Nat) : Nat → Nat → Nat
  | 0 => g
  | k + 1 => stp nl ns (dw (sd x (k + 1))) (dgo nl ns x g k)
def rgo (nl ns : Nat) (x : Int32) (g : Nat → Nat) : Nat → Nat → Nat
  | 0 => g
  | k + 1 => stp nl ns (dw (sd x (k + 1))) (up (rgo nl ns x g k) (32 + rgo nl ns x g k 42 % 6) (dw (sd x (k + 1))))
theorem dgo_WF {nl ns T : Nat} {x : Int32} {g : Nat → Nat} (h : WF nl ns T g) : ∀ {k : Nat}, g 42 + k ≤ 2000 → WF nl ns T (dgo nl ns x g k) ∧ dgo nl ns x g k 42 = g 42 + k
  | 0, _ => ⟨h, rfl⟩
  | k + 1, hk => by
    obtain ⟨h1, h2⟩ := dgo_WF (x := x) h (k := k) (by omega)
    exact ⟨h1.stp (dw_lt _) (by omega), by show stp _ _ _ _ 42 = _; rw [stp_42, h2]; omega⟩
theorem rgo_WF {nl ns T : Nat} {x : Int32} {g : Nat → Nat} (h : WF nl ns T g) : ∀ {k : Nat}, g 42 + k ≤ 2000 → WF nl ns T (rgo nl ns x g k) ∧ rgo nl ns x g k 42 = g 42 + k
  | 0, _ => ⟨h, rfl⟩
  | k + 1, hk => by
    obtain ⟨h1, h2⟩ := rgo_WF (x := x) h (k := k) (by omega)
    have hd := dw_lt (sd x (k + 1))
    have hW := wf_way h1 (l := rgo nl ns x g k 42 % 6) (v := dw (sd x (k + 1))) (Nat.mod_lt _ (by decide)) (by omega)
    refine ⟨hW.stp hd (by rw [up_o (by omega)]; omega), ?_⟩
    show stp _ _ _ _ 42 = _
    rw [stp_42, up_o (by omega), h2]
    omega
theorem ea_go {nl ns T : Nat} {x : Int32} {g : Nat → Nat} (h : WF nl ns T g) : ∀ {k : Nat}, g 42 + k ≤ 2000 → Ea (dgo nl ns x g k) (rgo nl ns x g k)
  | 0, _ => Ea.rf
  | k + 1, hk => ea_stp (dgo_WF h (k := k) (by omega)).1 (ea_upr (ea_go h (k := k) (by omega)) (by omega))
theorem dgo_hd {nl ns T : Nat} {x : Int32} {g : Nat → Nat} (h : WF nl ns T g) : ∀ {k : Nat}, g 42 + k ≤ 2000 → sm (hd (dgo nl ns x g k)) 3 = sm (hd g) 3 + sm (fun j => tk nl ns (dgo nl ns x g j)) k
  | 0, _ => rfl
  | k + 1, hk => by
    have h1 := dgo_hd (x := x) h (k := k) (by omega)
    have h2 := stp_hd (w := dw (sd x (k + 1))) (dgo_WF (x := x) h (k := k) (by omega)).1
    show sm (hd (stp nl ns (dw (sd x (k + 1))) (dgo nl ns x g k))) 3 = sm (hd g) 3 + (sm (fun j => tk nl ns (dgo nl ns x g j)) k + tk nl ns (dgo nl ns x g k))
    omega
def dfin (nl ns : Nat) (x : Int32) (g : Nat → Nat) (k w : Nat) : Int32 := if w = 0 then nI (sm (fun j => tk nl ns (dgo nl ns x g j)) k) else nI (sm (fun l => dgo nl ns x g k (103 + l)) 3) - nI (sm (fun l => g (103 + l)) 3)
theorem op_drift : Op3 f_X6_drift f_X7_drift Good := by
  intro n s x b c hn hG
  obtain ⟨-, nl, ns, g, hG⟩ := hG
  have hnl := hG.2.1.1
  have hns := hG.2.1.2.1
  have h42 := hG.2.2.1
  rcases rng1 b (60 + 1) with ⟨k, hk0, hk, hk2, rfl⟩ | hb
  · rcases rng c (1 + 1) with ⟨w, hw, hw2, rfl⟩ | hc
    · by_cases hz : nl = 0
      · refine qs (-2) hn hG ?_ ?_
        · unfold f_X6_drift
          rw [g_win1 hk0 (by omega) (by decide), cl_s, if1', g_win (by omega) (by decide), cl_s, if1, (R1 hG.1).1, hz, if0]
        · unfold f_X7_drift
          rw [g7_win1 hk0 (by omega) (by decide), cl_s, if1', g7_part (by omega), cl_s, if1, hG.2.2.2.2.2.1, hz, if0]
      · have hnz : ¬ nI nl = 0 := fun q => hz ((nI_e0 (by omega)).mp q)
        refine qy (dfin nl ns x g k w) hn hG ?_ (fun s' h' => ?_)
        · obtain ⟨s1, a1, a2, a3⟩ := c_copy hG Sm.rf
          obtain ⟨t, h1, h2⟩ := lp_inv (body := fun q : Int32 × Int32 × Int32 × St => f_X6_drift_L54 (nI k) (nI w) q.1 q.2.1 q.2.2.1 q.2.2.2) (fun j q => q.1 = nI (sm (fun j => tk nl ns (dgo nl ns x g j)) j) ∧ q.2.1 = sd x j ∧ q.2.2.1 = nI j ∧ RR q.2.2.2 14 nl ns (dgo nl ns x g j) ∧ Sm s q.2.2.2 14 13) (fun t => t.1 = dfin nl ns x g k w ∧ Sm s t.2 14 13) k (fun j q hj hq => by
            obtain ⟨x1, y1, z1, s3⟩ := q
            obtain ⟨q0, q1, q2, q3, q4⟩ := hq
            dsimp only at q0 q1 q2 q3 q4 ⊢
            subst q0; subst q1; subst q2
            obtain ⟨w1, w2⟩ := dgo_WF (x := x) hG.2.1 (k := j) (by omega)
            obtain ⟨s4, c1, c2, c3⟩ := b_pass isR14 q3 w1 (dw_lt (sd x (j + 1)))
            unfold f_X6_drift_L54
            rw [if_neg (nI_ge hj (by omega)), bd_s, sh_eq, dw_eq]
            change ∃ q2, cl (f_X2_pass 14 (nI (dw (sd x (j + 1)))) s3) _ = _ ∧ _
            rw [c1, cl_s, bd_s, nI_add, nI_add]
            exact ⟨_, rfl, rfl, rfl, rfl, c2, q4.tr c3⟩) (fun q hq => by
            obtain ⟨x1, y1, z1, s3⟩ := q
            obtain ⟨q0, q1, q2, q3, q4⟩ := hq
            dsimp only at q0 q1 q2 q3 q4 ⊢
            subst q0; subst q1; subst q2
            obtain ⟨w1, w2⟩ := dgo_WF (x := x) hG.2.1 (k := k) (by omega)
            unfold f_X6_drift_L54 dfin
            rw [if_pos (nI_le (Nat.le_refl _) (by omega))]
            by_cases hw0 : w = 0
            · subst hw0
              rw [if0, if_pos rfl]
              exact ⟨_, rfl, rfl, q4⟩
            · rw [if_pos (fun q => hw0 ((nI_e0 hw2).mp q)), if_neg hw0, b_sumOfLives isR14 q3 hnl (by decide) (f := fun l => dgo nl ns x g k (103 + l)) (fun l hl => (q3.2.2.2.2.1 l (by omega)).1), cl_s, b_sumOfLives isR1 (hG.1.sm q4 (by omega)) hnl (by decide) (f := fun l => g (103 + l)) (fun l hl => ((R1 (hG.1.sm q4 (by omega))).2.2.2.2.1 l (by omega)).1), cl_s, wf_slo w1, wf_slo hG.2.1]
              exact ⟨_, rfl, rfl, q4⟩) (q := (nI 0, x, nI 0, s1)) ⟨rfl, rfl, rfl, a2, a3⟩ (Fu_lt (by omega))
          obtain ⟨x1, s3⟩ := t
          obtain ⟨h3a, h3⟩ := h2
          dsimp only at h3a
          refine ⟨s3, ?_, h3.qf⟩
          unfold f_X6_drift
          rw [g_win1 hk0 (by omega) (by decide), cl_s, if1', g_win (by omega) (by decide), cl_s, if1, (R1 hG.1).1, if_pos hnz, a1, cl_s, h1, h3a]
        · obtain ⟨s1, a1, a2, a3⟩ := r_start h' Sn.rf
          obtain ⟨t, h1, h2⟩ := lp_inv (body := fun q : Int32 × Int32 × St => f_X7_drift_L53 (nI k) (nI w) (nI (sm (hd g) 3)) (nI (sm (fun l => g (103 + l)) 3)) q.1 q.2.1 q.2.2) (fun j q => q.1 = sd x j ∧ q.2.1 = nI j ∧ NR q.2.2 nl ns (rgo nl ns x g j) ∧ Sn s' q.2.2) (fun t => t.1 = dfin nl ns x g k w ∧ Sn s' t.2) k (fun j q hj hq => by
            obtain ⟨y1, z1, s3⟩ := q
            obtain ⟨q1, q2, q3, q4⟩ := hq
            dsimp only at q1 q2 q3 q4 ⊢
            subst q1; subst q2
            obtain ⟨w1, w2⟩ := rgo_WF (x := x) hG.2.1 (k := j) (by omega)
            have hd := dw_lt (sd x (j + 1))
            have hW := wf_way w1 (l := rgo nl ns x g j 42 % 6) (v := dw (sd x (j + 1))) (Nat.mod_lt _ (by decide)) (by omega)
            obtain ⟨s4, c1, c2, c3⟩ := b7_step (q3.wi (k := 32 + rgo nl ns x g j 42 % 6) (v := dw (sd x (j + 1)))) hW
            have ew : wy (up (rgo nl ns x g j) (32 + rgo nl ns x g j 42 % 6) (dw (sd x (j + 1)))) = dw (sd x (j + 1)) := by
              unfold wy
              rw [up_o (j := 42) (by omega), up_k]
            rw [ew] at c2
            unfold f_X7_drift_L53
            rw [if_neg (nI_ge hj (by omega)), bd_s, if_pos (ib191 (by decide)), nI_clamp (by decide), q3.2.2 42 (by decide), pk_rem (by omega) (by decide) (by decide), nI_add 32 _, if_pos (ib191 (by omega)), bd_s, nI_clamp (by omega), dw_eq]
            change ∃ q2, cl (f_X7_stepGoes (nI 0) (wI s3 191 (32 + rgo nl ns x g j 42 % 6) (nI (dw (sd x (j + 1)))))) _ = _ ∧ _
            rw [c1, cl_s, nI_add]
            exact ⟨_, rfl, rfl, rfl, c2, (q4.tr Sn.wi).tr c3⟩) (fun q hq => by
            obtain ⟨y1, z1, s3⟩ := q
            obtain ⟨q1, q2, q3, q4⟩ := hq
            dsimp only at q1 q2 q3 q4 ⊢
            subst q1; subst q2
            have ea := ea_go (x := x) hG.2.1 (k := k) (by omega)
            have e1 : sm (hd (rgo nl ns x g k)) 3 = sm (hd (dgo nl ns x g k)) 3 := hdA_has (fun j h1 h2 => ea j (by omega))
            have e2 : sm (fun l => rgo nl ns x g k (103 + l)) 3 = sm (fun l => dgo nl ns x g k (103 + l)) 3 := sm_cong (fun l hl => ea _ (by omega))
            have e3 := dgo_hd (x := x) hG.2.1 (k := k) (by omega)
            unfold f_X7_drift_L53 dfin
            rw [if_pos (nI_le (Nat.le_refl _) (by omega))]
            by_cases hw0 : w = 0
            · subst hw0
              rw [if0, if_pos rfl, b7_allHad q3, cl_s, e1, e3, pk_sub (by omega), Nat.add_sub_cancel_left]
              exact ⟨_, rfl, rfl, q4⟩
            · rw [if_pos (fun q => hw0 ((nI_e0 hw2).mp q)), if_neg hw0, b7_allLost q3, cl_s, e2]
              exact ⟨_, rfl, rfl, q4⟩) (q := (x, nI 0, s1)) ⟨rfl, rfl, a2, a3⟩ (Fu_lt (by omega))
          obtain ⟨x1, s3⟩ := t
          obtain ⟨h3a, h3⟩ := h2
          dsimp only at h3a
          refine ⟨s3, ?_, h3.qf⟩
          unfold f_X7_drift
          rw [g7_win1 hk0 (by omega) (by decide), cl_s, if1', g7_part (by omega), cl_s, if1, h'.2.2.2.2.2.1, if_pos hnz, a1, cl_s, b7_allHad a2, cl_s, b7_allLost a2, cl_s, h1, h3a]
    · refine qs (-1) hn hG ?_ ?_
      · unfold f_X6_drift
        rw [g_win1 hk0 (by omega) (by decide), cl_s, if1', g_win_n hc (by decide), cl_s, if0]
      · unfold f_X7_drift
        rw [g7_win1 hk0 (by omega) (by decide), cl_s, if1', g7_part_n hc, cl_s, if0]
  · refine qs (-1) hn hG ?_ ?_
    · unfold f_X6_drift
      rw [g_win1_n hb (by decide), cl_s, if0']
    · unfold f_X7_drift
      rw [g7_win1_n hb (by decide), cl_s, if0']

theorem b_mvc {s : St} {r nl ns T w l c k rest : Nat} {h : Nat → Nat} (v2 : Int32) (hr : isR r) (hR : RR s r nl ns h) (hW : WF nl ns T h) (hl : l < nl) (hc : c < 20) (hw : w < 5) (hw0 : 0 < w) (hre : h (43 + 20 * l + c) ≤ rest) (hre2 : rest ≤ 20000) (hk : k < 20) : ∃ s2, f_X2_carry_J68 r (nI w) v2 (nI l) (nI rest) (nI k) (nI c) s = some (Sum.inl (nI (rest - h (43 + 20 * l + c)), nI (k + 1), s2)) ∧ RR s2 r nl ns (mv1 w l c h) ∧ Sm s s2 r 13 := by
  have hn := hW.1
  have hm := hW.2.1
  have hT := hW.T
  have hk3 := (hW.2.2.2.1 l hl).1
  have e0 := (hR.2.2.2.1 l hl).1
  have e4 := (hR.2.2.2.2.1 l (by omega))
  have hal := hW.al (l := l) (by omega)
  have hlo := hW.lost (l := l) (by omega)
  have hcl := hW.cell (l := l) (c := c) (by omega) hc
  have hml := mv_le (h (4 * l)) (h (43 + 20 * l + c))
  have hcal : h (43 + 20 * l + c) ≤ al h l := sm_one (f := fun c => h (43 + 20 * l + c)) hc
  have e5 : ∀ x, x < 20 → s.1 (r + 7) (20 * l + x) = nI (h (43 + 20 * l + x)) := by
    intro x hx
    rw [hR.2.2.2.2.2.1 (20 * l + x) (by omega), show 43 + (20 * l + x) = 43 + 20 * l + x by omega]
  have idx : ∀ x : Nat, nI l * nI 20 + nI x = nI (20 * l + x) := by
    intro x
    rw [pk_mul, nI_add, Nat.mul_comm]
  have stay : mv (h (4 * l)) (h (43 + 20 * l + c)) = 0 → ∃ s2, f_X2_carry_J104 r (nI w) v2 (nI l) (nI rest) (nI k) (nI c) (nI (h (43 + 20 * l + c))) (nI 0) s = some (Sum.inl (nI (rest - h (43 + 20 * l + c)), nI (k + 1), s2)) ∧ RR s2 r nl ns (mv1 w l c h) ∧ Sm s s2 r 13 := by
    intro hz
    refine ⟨s, ?_, by rw [mv1_m hz]; exact hR, Sm.rf⟩
    unfold f_X2_carry_J104
    rw [bd_s, if_pos (by decide), pk_sub hre, nI_add]
  unfold f_X2_carry_J68
  rw [if_pos hr.1, idx, hr.2.2.2.2.2.2.2.1, if_pos (inb_t (by omega) (by decide)), bd_s, nI_clamp (by omega), e5 c hc]
  by_cases hz : h (43 + 20 * l + c) = 0
  · rw [if_pos ((nI_le0 (by omega)).mpr hz)]
    exact stay (by rw [hz]; exact Nat.le_zero.mp (mv_le _ _))
  · rw [if_neg (fun q => hz ((nI_le0 (by omega)).mp q)), hr.2.1, if_pos (inb_t (by omega) (by decide)), nI_clamp (by omega), e0, b_moved hk3 (by omega), cl_s]
    by_cases hz2 : mv (h (4 * l)) (h (43 + 20 * l + c)) = 0
    · rw [hz2]; exact stay hz2
    · unfold f_X2_carry_J104
      rw [bd_s, if_neg (fun q => hz2 ((nI_le0 (by omega)).mp q)), if_pos hr.1, idx, hr.2.2.2.2.2.2.2.1, if_pos (inb_t (by omega) (by decide)), bd_s, nI_clamp (by omega), e5 c hc, pk_sub hml, b_beside hc hw hw0, cl_s, pk_sub hre, nI_add]
      have hnl := nxt_le w hw c hc
      unfold nx f_X2_give
      by_cases e : nxt c w = 20
      · rw [if_pos e, if_neg (by decide), if_pos hr.1, hr.2.2.2.2.2.1, if_pos (inb_t (by omega) (by decide)), bd_s, hr.2.2.2.2.2.2.1, if_pos (inb_t (by omega) (by decide)), bd_s, cl_s]
        simp only [nI_clamp (show l < 2 ^ 31 by omega)]
        simp (disch := omega) only [wI_1o]
        rw [e4.1, e4.2, nI_add, pk_sub (Nat.le_trans hml hcal)]
        refine ⟨_, rfl, ?_, ((Sm.wi (by omega) (by omega)).tr (Sm.wi (by omega) (by omega))).tr (Sm.wi (by omega) (by omega))⟩
        have hkp := mv1_kp (h := h) (l := l) (by omega) hc hw
        have ha := mv1_al (h := h) (l := l) (by omega) hc hw hw0
        rw [if_pos e] at ha
        refine hR.chg hn hm hkp ?_ ?_ ?_ ?_ ?_ ?_ ?_ ?_ (fun q hq => ?_) (fun q hq => ?_) (fun j hj => ?_) (fun j hj => ?_)
        iterate 8 (simp (disch := omega) only [wI_1o])
        · simp (disch := omega) only [wI_1o]
          unfold mv1
          rw [if_pos e, up_o (by omega), up_o (by omega)]
          exact (hR.2.2.2.1 q hq).2.2.2
        · have hq2 := hR.2.2.2.2.1 q hq
          by_cases hql : q = l
          · subst hql
            rw [wI_at, wI_1o (by omega), wI_at]
            constructor
            · unfold mv1
              rw [if_pos e, up_k]
            · refine congrArg nI ?_
              omega
          · simp (disch := omega) only [wI_1o, wI_ne hql]
            rw [mv1_ao (by omega) hq hql hc hw]
            refine ⟨?_, hq2.2⟩
            unfold mv1
            rw [if_pos e, up_o (by omega), up_o (by omega)]
            exact hq2.1
        · simp (disch := omega) only [wI_1o]
          unfold mv1
          rw [if_pos e, up_o (by omega)]
          by_cases hjc : j = 20 * l + c
          · subst hjc
            rw [wI_at, show 43 + (20 * l + c) = 43 + 20 * l + c by omega, up_k]
          · rw [wI_ne hjc, up_o (by omega)]
            exact hR.2.2.2.2.2.1 j hj
        · simp (disch := omega) only [wI_1o]
          unfold mv1
          rw [if_pos e, up_o (by omega), up_o (by omega)]
          exact hR.2.2.2.2.2.2.2.1 j hj
      · have hne := hnl.2 hw0
        rw [if_neg e, if_pos (nI_pos' (by omega)), if_pos hr.1, idx, hr.2.2.2.2.2.2.2.1, if_pos (inb_t (by omega) (by decide)), bd_s, cl_s, nI_clamp (by omega), wI_ne (by omega), e5 _ (by omega), nI_add]
        refine ⟨_, rfl, ?_, (Sm.wi (by omega) (by omega)).tr (Sm.wi (by omega) (by omega))⟩
        have hkp := mv1_kp (h := h) (l := l) (by omega) hc hw
        have ha := mv1_al (h := h) (l := l) (by omega) hc hw hw0
        rw [if_neg e] at ha
        refine hR.chg hn hm hkp ?_ ?_ ?_ ?_ ?_ ?_ ?_ ?_ (fun q hq => ?_) (fun q hq => ?_) (fun j hj => ?_) (fun j hj => ?_)
        iterate 8 (simp (disch := omega) only [wI_1o])
        · simp (disch := omega) only [wI_1o]
          unfold mv1
          rw [if_neg e, up_o (by omega), up_o (by omega)]
          exact (hR.2.2.2.1 q hq).2.2.2
        · have hq2 := hR.2.2.2.2.1 q hq
          simp (disch := omega) only [wI_1o]
          constructor
          · unfold mv1
            rw [if_neg e, up_o (by omega), up_o (by omega)]
            exact hq2.1
          · rw [hq2.2]
            refine congrArg nI ?_
            by_cases hql : q = l
            · subst hql; omega
            · rw [mv1_ao (by omega) hq hql hc hw]
        · unfold mv1
          rw [if_neg e]
          by_cases hjn : j = 20 * l + nxt c w
          · subst hjn
            rw [wI_at, show 43 + (20 * l + nxt c w) = 43 + 20 * l + nxt c w by omega, up_k]
          · rw [wI_ne hjn, up_o (by omega)]
            by_cases hjc : j = 20 * l + c
            · subst hjc
              rw [wI_at, show 43 + (20 * l + c) = 43 + 20 * l + c by omega, up_k]
            · rw [wI_ne hjc, up_o (by omega)]
              exact hR.2.2.2.2.2.1 j hj
        · simp (disch := omega) only [wI_1o]
          unfold mv1
          rw [if_neg e, up_o (by omega), up_o (by omega)]
          exact hR.2.2.2.2.2.2.2.1 j hj
theorem b_carL {s : St} {r nl ns T w l : Nat} {g : Nat → Nat} (v2 : Int32) (hv : v2 = if w = 1 ∨ w = 3 then nI 1 else nI 0) (hr : isR r) (hR : RR s r nl ns g) (hW : WF nl ns T g) (hl : l < nl) (hw : w < 5) (hw0 : 0 < w) : ∃ s2, f_X2_carry_L23 r (nI w) v2 (nI l) s = some (Sum.inl (nI (l + 1), s2)) ∧ RR s2 r nl ns (drift1 w g l) ∧ Sm s s2 r 13 := by
  have hn := hW.1
  have hT := hW.T
  have hal := hW.al (l := l) (by omega)
  have hso := sm_ord (fun c => g (43 + 20 * l + c)) w
  have hmo : ∀ k, k ≤ 20 → sm (fun k => g (43 + 20 * l + ord w k)) k ≤ al g l := fun k hk => Nat.le_trans (sm_mono hk) (Nat.le_of_eq hso)
  obtain ⟨t, k1, k2⟩ := lp_brk (body := fun q : Int32 × Int32 × St => f_X2_carry_L42 r (nI w) v2 (nI l) q.1 q.2.1 q.2.2) (fun k q => q.1 = nI (al g l - sm (fun k => g (43 + 20 * l + ord w k)) k) ∧ q.2.1 = nI k ∧ RR q.2.2 r nl ns (dks w l g k) ∧ Sm s q.2.2 r 13) (fun t => ∃ s2, t = Sum.inl (nI (l + 1), s2) ∧ RR s2 r nl ns (drift1 w g l) ∧ Sm s s2 r 13) 20 (fun k q hk hq => by
    obtain ⟨x, y, s3⟩ := q
    obtain ⟨q1, q2, q3, q4⟩ := hq
    dsimp only at q1 q2 q3 q4 ⊢
    subst q1; subst q2
    have hmk := hmo k (by omega)
    unfold f_X2_carry_L42
    rw [if_neg (nI_ge hk (by decide))]
    by_cases h0 : al g l - sm (fun k => g (43 + 20 * l + ord w k)) k = 0
    · right
      rw [if_pos (by rw [h0]; decide), nI_add]
      refine ⟨_, rfl, s3, rfl, ?_, q4⟩
      rw [← dks_drift (by omega) hw hw0, ← dks_rest (by omega) hw hw0 (by omega) (show sm (fun k => g (43 + 20 * l + ord w k)) k = al g l by omega)]
      exact q3
    · left
      rw [if_neg (fun q => h0 ((nI_le0 (by omega)).mp q))]
      have hmk1 := hmo (k + 1) (by omega)
      have hs1 : sm (fun k => g (43 + 20 * l + ord w k)) (k + 1) = sm (fun k => g (43 + 20 * l + ord w k)) k + g (43 + 20 * l + ord w k) := rfl
      have hwt := dks_wait (g := g) (l := l) (w := w) (k := k) (by omega) hw hw0 hk
      obtain ⟨s4, j1, j2, j3⟩ := b_mvc (T := T) (k := k) (rest := al g l - sm (fun k => g (43 + 20 * l + ord w k)) k) v2 hr q3 (dks_WF hW hl hw hw0 (by omega)) hl (ord_lt hk) hw hw0 (by rw [hwt]; omega) (by omega) hk
      rw [hwt] at j1
      refine ⟨(nI (al g l - sm (fun k => g (43 + 20 * l + ord w k)) k - g (43 + 20 * l + ord w k)), nI (k + 1), s4), ?_, by rw [hs1]; refine congrArg nI ?_; omega, rfl, j2, q4.tr j3⟩
      rw [hv]
      by_cases hd : w = 1 ∨ w = 3
      · rw [if_pos hd, if_neg (by decide), pk_sub (by omega)]
        rw [hv, if_pos hd] at j1
        unfold ord at j1 ⊢
        simp only [if_pos hd] at j1 ⊢
        exact j1
      · rw [if_neg hd, if_pos (by decide)]
        rw [hv, if_neg hd] at j1
        unfold ord at j1 ⊢
        simp only [if_neg hd] at j1 ⊢
        exact j1) (fun q hq => by
    obtain ⟨x, y, s3⟩ := q
    obtain ⟨q1, q2, q3, q4⟩ := hq
    dsimp only at q1 q2 q3 q4 ⊢
    subst q1; subst q2
    unfold f_X2_carry_L42
    rw [if_pos (by decide), nI_add]
    exact ⟨_, rfl, s3, rfl, by rw [← dks_drift (by omega) hw hw0]; exact q3, q4⟩) (q := (nI (al g l), nI 0, s)) ⟨rfl, rfl, hR, Sm.rf⟩ (Fu_lt (by omega))
  obtain ⟨s2, rfl, k3, k4⟩ := k2
  refine ⟨s2, ?_, k3, k4⟩
  unfold f_X2_carry_L23
  rw [if_pos hr.1, hR.1, if_neg (nI_ge hl (by omega)), hr.2.2.2.2.2.2.1, if_pos (inb_t (by omega) (by decide)), bd_s, nI_clamp (by omega), (hR.2.2.2.2.1 l (by omega)).2]
  exact k1
theorem b_carA {s : St} {r nl ns T w : Nat} {g : Nat → Nat} (v2 : Int32) (hv : v2 = if w = 1 ∨ w = 3 then nI 1 else nI 0) (hr : isR r) (hR : RR s r nl ns g) (hW : WF nl ns T g) (hw : w < 5) (hw0 : 0 < w) : ∃ s2, lp (fun q : Int32 × St => f_X2_carry_L23 r (nI w) v2 q.1 q.2) Fu (nI 0, s) = some ((), s2) ∧ RR s2 r nl ns (driftA w g nl) ∧ Sm s s2 r 13 := by
  have hn := hW.1
  obtain ⟨t, h1, h2⟩ := lp_inv (body := fun q : Int32 × St => f_X2_carry_L23 r (nI w) v2 q.1 q.2) (fun l q => q.1 = nI l ∧ RR q.2 r nl ns (driftA w g l) ∧ Sm s q.2 r 13) (fun t => RR t.2 r nl ns (driftA w g nl) ∧ Sm s t.2 r 13) nl (fun l q hl hq => by
    obtain ⟨q1, q2, q3⟩ := hq
    obtain ⟨s2, k1, k2, k3⟩ := b_carL v2 hv hr q2 (hW.driftA hw hw0 (by omega)) hl hw hw0
    exact ⟨(nI (l + 1), s2), by rw [q1]; exact k1, rfl, k2, q3.tr k3⟩) (fun q hq => by
    obtain ⟨q1, q2, q3⟩ := hq
    refine ⟨((), q.2), ?_, q2, q3⟩
    unfold f_X2_carry_L23
    rw [if_pos hr.1, q1, q2.1, if_pos (nI_le (Nat.le_refl _) (by omega))]) (q := (nI 0, s)) ⟨rfl, hR, Sm.rf⟩ (Fu_lt (by omega))
  exact ⟨t.2, h1, h2⟩
theorem b_carry {s : St} {r nl ns T w : Nat} {g : Nat → Nat} (hr : isR r) (hR : RR s r nl ns g) (hW : WF nl ns T g) (hw : w < 5) : ∃ s2, f_X2_carry r (nI w) s = some ((), s2) ∧ RR s2 r nl ns (blown nl w g) ∧ Sm s s2 r 13 := by
  unfold f_X2_carry blown
  rcases (show w = 0 ∨ w = 1 ∨ w = 2 ∨ w = 3 ∨ w = 4 by omega) with rfl | rfl | rfl | rfl | rfl
  · exact ⟨s, rfl, hR, Sm.rf⟩
  · obtain ⟨s2, k1, k2⟩ := b_carA (w := 1) (nI 1) rfl hr hR hW (by decide) (by decide)
    exact ⟨s2, k1, k2⟩
  · obtain ⟨s2, k1, k2⟩ := b_carA (w := 2) (nI 0) rfl hr hR hW (by decide) (by decide)
    exact ⟨s2, k1, k2⟩
  · obtain ⟨s2, k1, k2⟩ := b_carA (w := 3) (nI 1) rfl hr hR hW (by decide) (by decide)
    exact ⟨s2, k1, k2⟩
  · obtain ⟨s2, k1, k2⟩ := b_carA (w := 4) (nI 0) rfl hr hR hW (by decide) (by decide)
    exact ⟨s2, k1, k2⟩
theorem RR.step {s : St} {r nl ns : Nat} {g : Nat → Nat} (h : RR s r nl ns g) (hn : nl ≤ 3) (hm : ns ≤ 4) {v : Nat} : RR (wI s r 2 (nI v)) r nl ns (up g 42 v) := by
  obtain ⟨q0, q1, q2, q3, q4, q5, q6, q7, q8, q9⟩ := h
  refine ⟨by rw [wI_ne (by decide)]; exact q0, by rw [wI_ne (by decide)]; exact q1, by rw [wI_at, up_k], fun l hl => ?_, fun l hl => ?_, fun j hj => ?_, fun i hi => ?_, fun j hj => ?_, fun k hk => ?_, fun y hy => ?_⟩
  · simp (disch := omega) only [wI_1o, up_o]; exact q3 l hl
  · simp (disch := omega) only [wI_1o, up_o, al_out]; exact q4 l hl
  · simp (disch := omega) only [wI_1o, up_o]; exact q5 j hj
  · simp (disch := omega) only [wI_1o, up_o]; exact q6 i hi
  · simp (disch := omega) only [wI_1o, up_o]; exact q7 j hj
  · simp (disch := omega) only [wI_1o, up_o]; exact q8 k hk
  · simp (disch := omega) only [wI_1o, up_o]; exact q9 y hy
/-- what SITTERS take in a STEP -/
def tk (nl ns : Nat) (g : Nat → Nat) : Nat := sm (tkn nl (told g nl)) ns
theorem b_pass {s : St} {r nl ns T w : Nat} {g : Nat → Nat} (hr : isR r) (hR : RR s r nl ns g) (hW : WF nl ns T g) (hw : w < 5) : ∃ s2, f_X2_pass r (nI w) s = some (nI (tk nl ns g), s2) ∧ RR s2 r nl ns (stp nl ns w g) ∧ Sm s s2 r 13 := by
  obtain ⟨s1, a1, a2, a3⟩ := b_tellAll hr hR hW
  obtain ⟨s2, c1, c2, c3⟩ := b_takeAll hr a2 (hW.told (Nat.le_refl _))
  obtain ⟨s3, d1, d2, d3⟩ := b_carry hr c2 ((hW.told (Nat.le_refl _)).takeS (Nat.le_refl _)) hw
  have hkp : blown nl w (tt nl ns g) 42 = g 42 := (tt_kp hW).tr (blown_kp hW.tt hw) 42 (by omega)
  refine ⟨wI s3 r 2 (nI (g 42 + 1)), ?_, d2.step hW.1 hW.2.1, ((a3.tr c3).tr d3).tr (Sm.wi (by omega) (by omega))⟩
  unfold f_X2_pass
  rw [if_pos hr.1, a1, cl_s, c1, cl_s, d1, cl_s, bd_s, d2.2.2.1, nI_add]
  rw [show blown nl w (takeS nl (told g nl) ns) 42 = g 42 from hkp]
  rfl
/-- n STEPS by the AIRS -/
def stn (nl ns : Nat) (g : Nat → Nat) : Nat → Nat → Nat
  | 0 => g
  | k + 1 => stp nl ns (wy (stn nl ns g k)) (stn nl ns g k)
theorem stn_WF {nl ns T : Nat} {g : Nat → Nat} (h : WF nl ns T g) : ∀ {k : Nat}, g 42 + k ≤ 2000 → WF nl ns T (stn nl ns g k) ∧ stn nl ns g k 42 = g 42 + k
  | 0, _ => ⟨h, rfl⟩
  | k + 1, hk => by
    obtain ⟨h1, h2⟩ := stn_WF h (k := k) (by omega)
    exact ⟨h1.stp (wy_lt h1) (by omega), by show stp _ _ _ _ 42 = _; rw [stp_42, h2]; omega⟩
theorem stn_kp {nl ns T : Nat} {g : Nat → Nat} (h : WF nl ns T g) {j : Nat} (hj : (j < 12 ∧ j % 4 ≠ 3) ∨ (12 ≤ j ∧ j < 20) ∨ (32 ≤ j ∧ j < 42) ∨ 106 ≤ j) : ∀ {k : Nat}, g 42 + k ≤ 2000 → stn nl ns g k j = g j
  | 0, _ => rfl
  | k + 1, hk => by
    obtain ⟨h1, h2⟩ := stn_WF h (k := k) (by omega)
    show stp _ _ _ _ j = _
    rw [stp_kp h1 (wy_lt h1) hj]
    exact stn_kp h hj (k := k) (by omega)
/-- nothing is LEFT, nothing is IN CELLS -/
def ovr (nl : Nat) (g : Nat → Nat) : Prop := (∀ l, l < nl → g (4 * l + 3) = 0) ∧ ∀ j, j < 60 → g (43 + j) = 0
theorem ovr_iff {nl ns T : Nat} {g : Nat → Nat} (h : WF nl ns T g) : (sm (al g) nl = 0 ∧ sm (fun l => g (4 * l + 3)) nl = 0) ↔ ovr nl g := by
  have hn := h.1
  constructor
  · rintro ⟨h1, h2⟩
    refine ⟨fun l hl => sm_all0 h2 l hl, fun j hj => ?_⟩
    have ha : al g (j / 20) = 0 := by
      by_cases hl : j / 20 < nl
      · exact sm_all0 h1 _ hl
      · have := h.2.2.2.2.2.2.2.2.2.1 (j / 20) (by omega) (by omega)
        unfold tot at this
        omega
    have := sm_all0 (f := fun c => g (43 + 20 * (j / 20) + c)) ha (j % 20) (by omega)
    rwa [show 43 + 20 * (j / 20) + j % 20 = 43 + j by omega] at this
  · rintro ⟨h1, h2⟩
    refine ⟨sm_zero (fun l hl => sm_zero (fun c hc => ?_)), sm_zero (fun l hl => h1 l hl)⟩
    have := h2 (20 * l + c) (by omega)
    rwa [show 43 + (20 * l + c) = 43 + 20 * l + c by omega] at this
theorem ovr_told {nl ns T : Nat} {g : Nat → Nat} (h : ovr nl g) (hW : WF nl ns T g) : ∀ {l : Nat}, l ≤ nl → told g l = g
  | 0, _ => rfl
  | l + 1, hl => by
    show told1 (told g l) l = g
    rw [ovr_told h hW (l := l) (by omega)]
    unfold told1
    rw [h.1 l (by omega), Nat.min_zero, Nat.sub_zero]
    have e := up_same (g := g) (k := 4 * l + 3)
    rw [h.1 l (by omega)] at e
    rw [e]
    exact up_same
theorem ovr_takeL {nl ns T : Nat} {g : Nat → Nat} (h : ovr nl g) (hW : WF nl ns T g) {i sl : Nat} (hi : i < ns) : ∀ {l : Nat}, l ≤ nl → takeL i (sl, g) l = (sl, g)
  | 0, _ => rfl
  | l + 1, hl => by
    have hn := hW.1
    have ha := (hW.2.2.2.2.1 i hi).1
    have hz : g (43 + 20 * l + g (12 + 2 * i)) = 0 := by
      have := h.2 (20 * l + g (12 + 2 * i)) (by omega)
      rwa [show 43 + (20 * l + g (12 + 2 * i)) = 43 + 20 * l + g (12 + 2 * i) by omega] at this
    show take1 (takeL i (sl, g) l) i l = _
    rw [ovr_takeL h hW hi (l := l) (by omega)]
    unfold take1
    dsimp only
    rw [hz, Nat.min_zero, Nat.sub_zero, Nat.sub_zero, Nat.add_zero]
    have e := up_same (g := g) (k := 43 + 20 * l + g (12 + 2 * i))
    rw [hz] at e
    rw [e, up_same]
theorem ovr_takeS {nl ns T : Nat} {g : Nat → Nat} (h : ovr nl g) (hW : WF nl ns T g) : ∀ {i : Nat}, i ≤ ns → takeS nl g i = g
  | 0, _ => rfl
  | i + 1, hi => by
    show (takeL i (takeS nl g i (13 + 2 * i), takeS nl g i) nl).2 = g
    rw [ovr_takeS h hW (i := i) (by omega), ovr_takeL h hW (by omega) (Nat.le_refl _)]
theorem ovr_drift {nl : Nat} {g : Nat → Nat} {w : Nat} (h : ovr nl g) (hw : w < 5) : ∀ {l : Nat}, l ≤ 3 → driftA w g l = g
  | 0, _ => rfl
  | l + 1, hl => by
    show drift1 w (driftA w g l) l = g
    rw [ovr_drift h hw (l := l) (by omega)]
    have hz : ∀ c, c < 20 → g (43 + 20 * l + c) = 0 := by
      intro c hc
      have := h.2 (20 * l + c) (by omega)
      rwa [show 43 + (20 * l + c) = 43 + 20 * l + c by omega] at this
    have m0 : ∀ k, mv k 0 = 0 := fun k => Nat.le_zero.mp (mv_le _ _)
    funext j
    by_cases hj : 43 + 20 * l ≤ j ∧ j < 43 + 20 * l + 20
    · obtain ⟨x, rfl⟩ : ∃ x, j = 43 + 20 * l + x := ⟨j - (43 + 20 * l), by omega⟩
      rw [drift1_c (by omega), hz x (by omega), m0]
      by_cases hp : prv x w < 20
      · rw [if_pos hp, hz _ hp, m0]
      · rw [if_neg hp]
    · by_cases hj2 : j = 103 + l
      · subst hj2
        rw [drift1_l (by omega), sm_zero (fun c hc => by rw [hz c hc, m0, ite_self])]
        rfl
      · rw [drift1_o (by omega) hj2]
theorem ovr_stp {nl ns T w : Nat} {g : Nat → Nat} (h : ovr nl g) (hW : WF nl ns T g) (hw : w < 5) : stp nl ns w g = up g 42 (g 42 + 1) ∧ tk nl ns g = 0 := by
  have e : tt nl ns g = g := by
    unfold tt
    rw [ovr_told h hW (Nat.le_refl _), ovr_takeS h hW (Nat.le_refl _)]
  constructor
  · unfold stp blown
    rw [e, ovr_drift h hw hW.1, ite_self]
  · unfold tk
    refine sm_zero (fun i hi => ?_)
    unfold tkn
    rw [ovr_told h hW (Nat.le_refl _), ovr_takeS h hW (by omega), ovr_takeL h hW hi (Nat.le_refl _)]
    exact Nat.sub_self _
theorem ovr_up {nl : Nat} {g : Nat → Nat} {v : Nat} (hn : nl ≤ 3) (h : ovr nl g) : ovr nl (up g 42 v) := ⟨fun l hl => by rw [up_o (by omega)]; exact h.1 l hl, fun j hj => by rw [up_o (by omega)]; exact h.2 j hj⟩
theorem up_up {g : Nat → Nat} {k v w : Nat} : up (up g k v) k w = up g k w := by
  funext j
  unfold up
  by_cases h : j = k
  · rw [if_pos h, if_pos h]
  · rw [if_neg h, if_neg h, if_neg h]
theorem ovr_stn {nl ns T : Nat} {g : Nat → Nat} (h : ovr nl g) (hW : WF nl ns T g) : ∀ {k : Nat}, g 42 + k ≤ 2000 → stn nl ns g k = up g 42 (g 42 + k) ∧ tk nl ns (stn nl ns g k) = 0
  | 0, _ => ⟨up_same.symm, (ovr_stp (w := 0) h hW (by decide)).2⟩
  | k + 1, hk => by
    obtain ⟨h1, h2⟩ := ovr_stn h hW (k := k) (by omega)
    obtain ⟨w1, w2⟩ := stn_WF hW (k := k) (by omega)
    have o1 : ovr nl (stn nl ns g k) := by rw [h1]; exact ovr_up hW.1 h
    have e : stn nl ns g (k + 1) = up g 42 (g 42 + (k + 1)) := by
      show stp nl ns (wy (stn nl ns g k)) (stn nl ns g k) = _
      rw [(ovr_stp o1 w1 (wy_lt w1)).1, w2, h1, up_up]
      rfl
    refine ⟨e, ?_⟩
    have w3 := (stn_WF hW (k := k + 1) hk).1
    have o2 : ovr nl (stn nl ns g (k + 1)) := by rw [e]; exact ovr_up hW.1 h
    exact (ovr_stp (w := 0) o2 w3 (by decide)).2
theorem stn_add {nl ns : Nat} {g : Nat → Nat} {a : Nat} : ∀ {b : Nat}, stn nl ns g (a + b) = stn nl ns (stn nl ns g a) b
  | 0 => rfl
  | b + 1 => by
    show stp nl ns (wy (stn nl ns g (a + b))) (stn nl ns g (a + b)) = stp nl ns (wy (stn nl ns (stn nl ns g a) b)) (stn nl ns (stn nl ns g a) b)
    rw [stn_add (b := b)]
theorem sm_zeros {f : Nat → Nat} {a : Nat} : ∀ {b : Nat}, (∀ k, a ≤ k → k < a + b → f k = 0) → sm f (a + b) = sm f a
  | 0, _ => rfl
  | b + 1, h => by
    show sm f (a + b) + f (a + b) = _
    rw [sm_zeros (b := b) (fun k h1 h2 => h k h1 (by omega)), h (a + b) (by omega) (by omega)]
    rfl
/-- what SITTERS take in n STEPS -/
def tks (nl ns : Nat) (g : Nat → Nat) (n : Nat) : Nat := sm (fun k => tk nl ns (stn nl ns g k)) n
theorem b_goOn {s : St} {r nl ns T n : Nat} {g : Nat → Nat} (hr : isR r) (hR : RR s r nl ns g) (hW : WF nl ns T g) (hn : g 42 + n ≤ 2000) (hn2 : n < 500) : ∃ s2, f_X2_goOn r (nI n) s = some (nI (tks nl ns g n), s2) ∧ RR s2 r nl ns (stn nl ns g n) ∧ Sm s s2 r 13 := by
  have fin : ∀ {s3 : St} {k : Nat}, k ≤ n → (k = n ∨ ovr nl (stn nl ns g k)) → RR s3 r nl ns (stn nl ns g k) → Sm s s3 r 13 → ∃ s2, f_X2_goOn_J33 r (nI n) (nI (tks nl ns g k)) (nI k) s3 = some (nI (tks nl ns g n), s2) ∧ RR s2 r nl ns (stn nl ns g n) ∧ Sm s s2 r 13 := by
    intro s3 k hk ho h3 hS
    obtain ⟨w1, w2⟩ := stn_WF hW (k := k) (by omega)
    have e1 : stn nl ns g n = up (stn nl ns g k) 42 (g 42 + n) ∧ tks nl ns g n = tks nl ns g k := by
      rcases ho with rfl | ho
      · refine ⟨?_, rfl⟩
        rw [← w2, up_same]
      · obtain ⟨d, rfl⟩ : ∃ d, n = k + d := ⟨n - k, by omega⟩
        constructor
        · rw [stn_add, (ovr_stn ho w1 (k := d) (by omega)).1, w2]
          rw [Nat.add_assoc]
        · unfold tks
          refine sm_zeros (fun i h1 h2 => ?_)
          obtain ⟨d2, rfl⟩ : ∃ d, i = k + d := ⟨i - k, by omega⟩
          rw [stn_add]
          exact (ovr_stn ho w1 (k := d2) (by omega)).2
    refine ⟨wI s3 r 2 (nI (g 42 + n)), ?_, by rw [e1.1]; exact h3.step hW.1 hW.2.1, hS.tr (Sm.wi (by omega) (by omega))⟩
    unfold f_X2_goOn_J33
    rw [if_pos hr.1, bd_s, h3.2.2.1, w2, pk_sub hk, nI_add, e1.2, show g 42 + k + (n - k) = g 42 + n by omega]
  unfold f_X2_goOn
  obtain ⟨t, k1, k2⟩ := lp_brk (body := fun q : Int32 × Int32 × St => f_X2_goOn_L4 r (nI n) q.1 q.2.1 q.2.2) (fun k q => q.1 = nI (tks nl ns g k) ∧ q.2.1 = nI k ∧ RR q.2.2 r nl ns (stn nl ns g k) ∧ Sm s q.2.2 r 13) (fun t => t.1 = nI (tks nl ns g n) ∧ RR t.2 r nl ns (stn nl ns g n) ∧ Sm s t.2 r 13) n (fun k q hk hq => by
    obtain ⟨x, y, s3⟩ := q
    obtain ⟨q1, q2, q3, q4⟩ := hq
    dsimp only at q1 q2 q3 q4 ⊢
    subst q1; subst q2
    obtain ⟨w1, w2⟩ := stn_WF hW (k := k) (by omega)
    unfold f_X2_goOn_L4
    rw [if_neg (nI_ge hk (by omega)), if_pos hr.1, b_isOver hr q3 w1, cl_s]
    by_cases ho : sm (al (stn nl ns g k)) nl = 0 ∧ sm (fun l => stn nl ns g k (4 * l + 3)) nl = 0
    · right
      rw [if_pos ho, if_pos (by decide)]
      obtain ⟨s2, j1, j2, j3⟩ := fin (by omega) (Or.inr ((ovr_iff w1).mp ho)) q3 q4
      rw [j1, ox_s]
      exact ⟨_, rfl, rfl, j2, j3⟩
    · left
      rw [if_neg ho, if_neg (by decide), b_wayNow hr q3 w1, cl_s]
      obtain ⟨s4, j1, j2, j3⟩ := b_pass hr q3 w1 (wy_lt w1)
      unfold wy at j1
      rw [j1, cl_s, bd_s, nI_add, nI_add]
      exact ⟨_, rfl, rfl, rfl, j2, q4.tr j3⟩) (fun q hq => by
    obtain ⟨x, y, s3⟩ := q
    obtain ⟨q1, q2, q3, q4⟩ := hq
    dsimp only at q1 q2 q3 q4 ⊢
    subst q1; subst q2
    unfold f_X2_goOn_L4
    rw [if_pos (nI_le (Nat.le_refl _) (by omega))]
    obtain ⟨s2, j1, j2, j3⟩ := fin (Nat.le_refl _) (Or.inl rfl) q3 q4
    rw [j1, ox_s]
    exact ⟨_, rfl, rfl, j2, j3⟩) (q := (nI 0, nI 0, s)) ⟨rfl, rfl, hR, Sm.rf⟩ (Fu_lt (by omega))
  obtain ⟨x, s2⟩ := t
  obtain ⟨rfl, h3, h4⟩ := k2
  exact ⟨s2, k1, h3, h4⟩

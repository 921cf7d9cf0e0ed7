/-! wet, over, best, cheap, clean, need -/
def wtp (nl ns : Nat) (g : Nat → Nat) (j k : Nat) : Bool := decide (g j < stn nl ns g k j)
theorem op_wet : Op2 f_X6_wet f_X7_wet Good := by
  intro n s a b hn hG
  obtain ⟨-, nl, ns, g, hG⟩ := hG
  have hnl := hG.2.1.1
  have hns := hG.2.1.2.1
  have h42 := hG.2.2.1
  rcases rng a ns with ⟨i, hi, hi2, rfl⟩ | ha
  · rcases rng b nl with ⟨l, hl, hl2, rfl⟩ | hb
    · have hT := hG.2.1.T
      have bnd : ∀ k, k ≤ 60 → stn nl ns g k (20 + 3 * i + l) ≤ 20000 := fun k hk => Nat.le_trans ((stn_WF hG.2.1 (k := k) (by omega)).1.has (i := i) (l := l) (by omega) (by omega)) hT
      have b0 := bnd 0 (by omega)
      change g (20 + 3 * i + l) ≤ 20000 at b0
      refine qy (fv (wtp nl ns g (20 + 3 * i + l)) 60) hn hG ?_ (fun s' h' => ?_)
      · obtain ⟨s1, a1, a2, a3⟩ := c_copy hG Sm.rf
        obtain ⟨t, h1, h2⟩ := lp_brk (body := fun q : Int32 × St => f_X6_wet_L37 (nI i) (nI l) q.1 q.2) (fun j q => q.1 = nI (j + 1) ∧ RR q.2 14 nl ns (stn nl ns g j) ∧ Sm s q.2 14 13 ∧ fst1 (wtp nl ns g (20 + 3 * i + l)) j = 0) (fun t => t.1 = fv (wtp nl ns g (20 + 3 * i + l)) 60 ∧ Sm s t.2 14 13) 60 (fun j q hj hq => by
          obtain ⟨x, s3⟩ := q
          obtain ⟨q1, q2, q3, q4⟩ := hq
          dsimp only at q1 q2 q3 q4 ⊢
          subst q1
          obtain ⟨s4, c1, c2, c3⟩ := b_go1 isR14 hG.2.1 q2 (by omega)
          have b1 := bnd (j + 1) (by omega)
          unfold f_X6_wet_L37
          rw [if_neg (nI_nlt (by omega) (by omega)), c1, cl_s, b_held isR14 c2 (by omega) (by omega), cl_s, b_held isR1 (hG.1.sm (q3.tr c3) (by omega)) (by omega) (by omega), cl_s]
          by_cases h0 : g (20 + 3 * i + l) < stn nl ns g (j + 1) (20 + 3 * i + l)
          · right
            rw [if_neg (nI_ge h0 (by omega))]
            refine ⟨_, rfl, ?_, q3.tr c3⟩
            unfold fv
            rw [fst1_hit q4 (by unfold wtp; simp; omega) (by omega), if_neg (by omega)]
          · left
            rw [if_pos (nI_le (by omega) (by omega)), nI_add]
            exact ⟨_, rfl, rfl, c2, q3.tr c3, fst1_miss q4 (by unfold wtp; simp; omega)⟩) (fun q hq => by
          obtain ⟨x, s3⟩ := q
          obtain ⟨q1, q2, q3, q4⟩ := hq
          dsimp only at q1 q2 q3 q4 ⊢
          subst q1
          unfold f_X6_wet_L37
          rw [if_pos (nI_lt (by omega) (by omega))]
          refine ⟨_, rfl, ?_, q3⟩
          unfold fv
          rw [if_pos q4]) (q := (nI 1, s1)) ⟨rfl, a2, a3, rfl⟩ (Fu_lt (by omega))
        obtain ⟨x, s2⟩ := t
        obtain ⟨h3a, h3⟩ := h2
        dsimp only at h3a
        refine ⟨s2, ?_, h3.qf⟩
        unfold f_X6_wet
        rw [g_sit isR1 hG.1 hns hi, cl_s, if1', g_life isR1 hG.1 hnl hl, cl_s, if1, a1, cl_s, h1, h3a]
      · obtain ⟨s1, a1, a2, a3⟩ := r_start h' Sn.rf
        obtain ⟨t, h1, h2⟩ := lp_brk (body := fun q : Int32 × St => f_X7_wet_L24 (nI i) (nI l) q.1 q.2) (fun j q => q.1 = nI (j + 1) ∧ NR q.2 nl ns (stn nl ns g j) ∧ Sn s' q.2 ∧ fst1 (wtp nl ns g (20 + 3 * i + l)) j = 0) (fun t => t.1 = fv (wtp nl ns g (20 + 3 * i + l)) 60 ∧ Sn s' t.2) 60 (fun j q hj hq => by
          obtain ⟨x, s3⟩ := q
          obtain ⟨q1, q2, q3, q4⟩ := hq
          dsimp only at q1 q2 q3 q4 ⊢
          subst q1
          obtain ⟨s4, c1, c2, c3⟩ := b7_step q2 (stn_WF hG.2.1 (k := j) (by omega)).1
          change NR s4 nl ns (stn nl ns g (j + 1)) at c2
          have b1 := bnd (j + 1) (by omega)
          unfold f_X7_wet_L24
          simp only [pk_mul, nI_add]
          rw [if_neg (nI_nlt (by omega) (by omega)), c1, cl_s, if_pos (ib191 (by omega)), if_pos (ib190 (by omega)), nI_clamp (by omega), c2.2.2 _ (by omega), (q3.tr c3).1 190 (by decide) (by decide), h'.2.2.2.2.2.2.2.1 _ (by omega)]
          by_cases h0 : g (20 + 3 * i + l) < stn nl ns g (j + 1) (20 + 3 * i + l)
          · right
            rw [if_neg (nI_ge h0 (by omega))]
            refine ⟨_, rfl, ?_, q3.tr c3⟩
            unfold fv
            rw [fst1_hit q4 (by unfold wtp; simp; omega) (by omega), if_neg (by omega)]
          · left
            rw [if_pos (nI_le (by omega) (by omega))]
            exact ⟨_, rfl, rfl, c2, q3.tr c3, fst1_miss q4 (by unfold wtp; simp; omega)⟩) (fun q hq => by
          obtain ⟨x, s3⟩ := q
          obtain ⟨q1, q2, q3, q4⟩ := hq
          dsimp only at q1 q2 q3 q4 ⊢
          subst q1
          unfold f_X7_wet_L24
          rw [if_pos (nI_lt (by omega) (by omega))]
          refine ⟨_, rfl, ?_, q3⟩
          unfold fv
          rw [if_pos q4]) (q := (nI 1, s1)) ⟨rfl, a2, a3, rfl⟩ (Fu_lt (by omega))
        obtain ⟨x, s2⟩ := t
        obtain ⟨h3a, h3⟩ := h2
        dsimp only at h3a
        refine ⟨s2, ?_, h3.qf⟩
        unfold f_X7_wet
        rw [g7_sit h'.2.2.2.2.2.2.1 hns hi, cl_s, if1', g7_life h'.2.2.2.2.2.1 hnl hl, cl_s, if1, a1, cl_s, h1, h3a]
    · refine qs (-1) hn hG ?_ ?_
      · unfold f_X6_wet
        rw [g_sit isR1 hG.1 hns hi, cl_s, if1', g_life_n isR1 hG.1 hnl hb, cl_s, if0]
      · unfold f_X7_wet
        rw [g7_sit hG.2.2.2.2.2.2.1 hns hi, cl_s, if1', g7_life_n hG.2.2.2.2.2.1 hnl hb, cl_s, if0]
  · refine qs (-1) hn hG ?_ ?_
    · unfold f_X6_wet
      rw [g_sit_n isR1 hG.1 hns ha, cl_s, if0']
    · unfold f_X7_wet
      rw [g7_sit_n hG.2.2.2.2.2.2.1 hns ha, cl_s, if0']
/-- the first of 0 to n - 1 at which p holds; n: none -/
def fst0 (p : Nat → Bool) : Nat → Nat
  | 0 => 0
  | k + 1 => if fst0 p k < k then fst0 p k else if p k = true then k else k + 1
theorem fst0_le {p : Nat → Bool} : ∀ {n : Nat}, fst0 p n ≤ n
  | 0 => Nat.le_refl _
  | k + 1 => by
    have := fst0_le (p := p) (n := k)
    unfold fst0
    by_cases h : fst0 p k < k
    · rw [if_pos h]; omega
    · rw [if_neg h]
      by_cases h2 : p k = true
      · rw [if_pos h2]; omega
      · rw [if_neg h2]; exact Nat.le_refl _
theorem fst0_stay {p : Nat → Bool} {k : Nat} (h : fst0 p k < k) : ∀ {n : Nat}, k ≤ n → fst0 p n = fst0 p k
  | 0, hn => by rw [show k = 0 by omega]
  | n + 1, hn => by
    by_cases e : k = n + 1
    · rw [e]
    · have := fst0_stay h (n := n) (by omega)
      show (if fst0 p n < n then fst0 p n else _) = _
      rw [this, if_pos (by omega)]
theorem fst0_hit {p : Nat → Bool} {k n : Nat} (h0 : fst0 p k = k) (h : p k = true) (hn : k + 1 ≤ n) : fst0 p n = k := by
  have e : fst0 p (k + 1) = k := by
    show (if fst0 p k < k then _ else _) = _
    rw [if_neg (by omega), if_pos h]
  rw [fst0_stay (k := k + 1) (by omega) hn, e]
theorem fst0_miss {p : Nat → Bool} {k : Nat} (h0 : fst0 p k = k) (h : ¬ p k = true) : fst0 p (k + 1) = k + 1 := by
  show (if fst0 p k < k then _ else _) = _
  rw [if_neg (by omega), if_neg h]
def fz (p : Nat → Bool) (n : Nat) : Int32 := if fst0 p n < n then nI (fst0 p n) else -4
theorem fz_hit {p : Nat → Bool} {k n : Nat} (h0 : fst0 p k = k) (h : p k = true) (hn : k + 1 ≤ n) : fz p n = nI k := by
  unfold fz
  rw [fst0_hit h0 h hn, if_pos (by omega)]
theorem fz_none {p : Nat → Bool} {n : Nat} (h0 : fst0 p n = n) : fz p n = -4 := by
  unfold fz
  rw [h0, if_neg (by omega)]
def ovp (nl ns : Nat) (g : Nat → Nat) (k : Nat) : Bool := decide (sm (al (stn nl ns g k)) 3 + sm (fun l => stn nl ns g k (4 * l + 3)) nl = 0)
theorem lefts_le {nl ns T : Nat} {g : Nat → Nat} (h : WF nl ns T g) : sm (fun l => g (4 * l + 3)) nl ≤ 297 := by
  have hn := h.1
  have : ∀ k, k ≤ nl → sm (fun l => g (4 * l + 3)) k ≤ k * 99 := by
    intro k
    induction k with
    | zero => intro _; exact Nat.zero_le _
    | succ k ih =>
      intro hk
      have h1 := ih (by omega)
      have h2 := (h.2.2.2.1 k (by omega)).2.2.2.2
      show sm (fun l => g (4 * l + 3)) k + g (4 * k + 3) ≤ (k + 1) * 99
      omega
  have := this nl (Nat.le_refl _)
  omega
theorem op_over : Op0 f_X6_over f_X7_over Good := by
  intro n s hn hG
  obtain ⟨-, nl, ns, g, hG⟩ := hG
  have hnl := hG.2.1.1
  have hns := hG.2.1.2.1
  have h42 := hG.2.2.1
  refine qy (fz (ovp nl ns g) 61) hn hG ?_ (fun s' h' => ?_)
  · obtain ⟨s1, a1, a2, a3⟩ := c_copy hG Sm.rf
    obtain ⟨t, h1, h2⟩ := lp_brk (body := fun q : Int32 × St => f_X6_over_L13 q.1 q.2) (fun j q => q.1 = nI j ∧ RR q.2 14 nl ns (stn nl ns g j) ∧ Sm s q.2 14 13 ∧ fst0 (ovp nl ns g) j = j) (fun t => t.1 = fz (ovp nl ns g) 61 ∧ Sm s t.2 14 13) 61 (fun j q hj hq => by
      obtain ⟨x, s3⟩ := q
      obtain ⟨q1, q2, q3, q4⟩ := hq
      dsimp only at q1 q2 q3 q4 ⊢
      subst q1
      obtain ⟨w1, w2⟩ := stn_WF hG.2.1 (k := j) (by omega)
      obtain ⟨s4, c1, c2, c3⟩ := b_go1 isR14 hG.2.1 q2 (by omega)
      unfold f_X6_over_L13
      rw [if_neg (nI_nlt (by omega) (by omega)), b_isOver isR14 q2 w1, cl_s, wf_sal w1]
      by_cases h0 : sm (al (stn nl ns g j)) 3 = 0 ∧ sm (fun l => stn nl ns g j (4 * l + 3)) nl = 0
      · right
        rw [if_pos h0, if1']
        exact ⟨_, rfl, (fz_hit q4 (by unfold ovp; simp; omega) (by omega)).symm, q3⟩
      · left
        rw [if_neg h0, if0', c1, cl_s, nI_add]
        exact ⟨_, rfl, rfl, c2, q3.tr c3, fst0_miss q4 (by unfold ovp; simp; omega)⟩) (fun q hq => by
      obtain ⟨x, s3⟩ := q
      obtain ⟨q1, q2, q3, q4⟩ := hq
      dsimp only at q1 q2 q3 q4 ⊢
      subst q1
      unfold f_X6_over_L13
      rw [if_pos (nI_lt (by omega) (by omega))]
      exact ⟨_, rfl, (fz_none q4).symm, q3⟩) (q := (nI 0, s1)) ⟨rfl, a2, a3, rfl⟩ (Fu_lt (by omega))
    obtain ⟨x, s2⟩ := t
    obtain ⟨h3a, h3⟩ := h2
    dsimp only at h3a
    refine ⟨s2, ?_, h3.qf⟩
    unfold f_X6_over
    rw [a1, cl_s, h1, h3a]
  · obtain ⟨s1, a1, a2, a3⟩ := r_start h' Sn.rf
    obtain ⟨t, h1, h2⟩ := lp_brk (body := fun q : Int32 × St => f_X7_over_L6 q.1 q.2) (fun j q => q.1 = nI j ∧ NR q.2 nl ns (stn nl ns g j) ∧ Sn s' q.2 ∧ fst0 (ovp nl ns g) j = j) (fun t => t.1 = fz (ovp nl ns g) 61 ∧ Sn s' t.2) 61 (fun j q hj hq => by
      obtain ⟨x, s3⟩ := q
      obtain ⟨q1, q2, q3, q4⟩ := hq
      dsimp only at q1 q2 q3 q4 ⊢
      subst q1
      obtain ⟨w1, w2⟩ := stn_WF hG.2.1 (k := j) (by omega)
      obtain ⟨s4, c1, c2, c3⟩ := b7_step q2 w1
      have hb1 := (wf_big w1).2.1
      have hb2 := lefts_le w1
      unfold f_X7_over_L6
      rw [if_neg (nI_nlt (by omega) (by omega)), b7_allIn q2, cl_s, b7_allLeft q2 hnl, cl_s, nI_add]
      by_cases h0 : sm (al (stn nl ns g j)) 3 + sm (fun l => stn nl ns g j (4 * l + 3)) nl = 0
      · right
        rw [h0, if0]
        exact ⟨_, rfl, (fz_hit q4 (by unfold ovp; simp; omega) (by omega)).symm, q3⟩
      · left
        rw [if_pos (fun q => h0 ((nI_e0 (by omega)).mp q)), c1, cl_s, nI_add]
        exact ⟨_, rfl, rfl, c2, q3.tr c3, fst0_miss q4 (by unfold ovp; simp; omega)⟩) (fun q hq => by
      obtain ⟨x, s3⟩ := q
      obtain ⟨q1, q2, q3, q4⟩ := hq
      dsimp only at q1 q2 q3 q4 ⊢
      subst q1
      unfold f_X7_over_L6
      rw [if_pos (nI_lt (by omega) (by omega))]
      exact ⟨_, rfl, (fz_none q4).symm, q3⟩) (q := (nI 0, s1)) ⟨rfl, a2, a3, rfl⟩ (Fu_lt (by omega))
    obtain ⟨x, s2⟩ := t
    obtain ⟨h3a, h3⟩ := h2
    dsimp only at h3a
    refine ⟨s2, ?_, h3.qf⟩
    unfold f_X7_over
    rw [a1, cl_s, h1, h3a]
/-- a fold -/
def it {α : Type} (f : Nat → α → α) (a : α) : Nat → α
  | 0 => a
  | k + 1 => f k (it f a k)
theorem nm_eq (x : Int32) (s : St) : ∃ v, f_X6_nameOf x s = some (v, s) ∧ ∀ s', f_X7_nameOf x s' = some (v, s') := by
  refine ⟨_, rfl, fun s' => ?_⟩
  unfold f_X7_nameOf
  rw [Int32.mul_comm (nI 10)]
def bstf (M : Nat → Nat) (c : Nat) (q : Int32 × Int32) : Int32 × Int32 := if nI (M c) ≤ q.1 then q else (nI (M c), nI c)
theorem op_best : Op3 f_X6_best f_X7_best Good := by
  intro n s a b c hn hG
  obtain ⟨-, nl, ns, g, hG⟩ := hG
  have hnl := hG.2.1.1
  have hns := hG.2.1.2.1
  rcases rng a ns with ⟨i, hi, hi2, rfl⟩ | ha
  · rcases rng b nl with ⟨l, hl, hl2, rfl⟩ | hb
    · rcases rng c (60 + 1) with ⟨k, hk, hk2, rfl⟩ | hc
      · obtain ⟨v, hv1, hv2⟩ := nm_eq (it (bstf (fun c => stn nl ns (up g (12 + 2 * i) c) k (20 + 3 * i + l))) (-1, nI 0) 20).2 s
        refine qy v hn hG ?_ (fun s' h' => ?_)
        · obtain ⟨t, h1, h2⟩ := lp_inv (body := fun q : Int32 × Int32 × Int32 × St => f_X6_best_L43 (nI i) (nI l) (nI k) q.1 q.2.1 q.2.2.1 q.2.2.2) (fun j q => (q.1, q.2.1) = it (bstf (fun c => stn nl ns (up g (12 + 2 * i) c) k (20 + 3 * i + l))) (-1, nI 0) j ∧ q.2.2.1 = nI j ∧ Sm s q.2.2.2 14 13) (fun t => t.1 = v ∧ Sm s t.2 14 13) 20 (fun j q hj hq => by
            obtain ⟨x, y, z, s3⟩ := q
            obtain ⟨q1, q2, q3⟩ := hq
            dsimp only at q1 q2 q3 ⊢
            subst q2
            obtain ⟨s4, c1, c2, c3⟩ := c_sit hG q3 hi hj (show k ≤ 60 by omega)
            unfold f_X6_best_L43
            rw [if_neg (nI_ge hj (by decide)), c1, cl_s, b_held isR14 c2 (by omega) (by omega), cl_s, b_held isR14 c2 (by omega) (by omega), cl_s, nI_add]
            by_cases h0 : nI (stn nl ns (up g (12 + 2 * i) j) k (20 + 3 * i + l)) ≤ x
            · rw [if_pos h0]
              refine ⟨_, rfl, ?_, rfl, c3⟩
              show (x, y) = bstf _ j (it _ _ j)
              rw [← q1]
              unfold bstf
              rw [if_pos h0]
            · rw [if_neg h0]
              refine ⟨_, rfl, ?_, rfl, c3⟩
              show (_, _) = bstf _ j (it _ _ j)
              rw [← q1]
              unfold bstf
              rw [if_neg h0]) (fun q hq => by
            obtain ⟨x, y, z, s3⟩ := q
            obtain ⟨q1, q2, q3⟩ := hq
            dsimp only at q1 q2 q3 ⊢
            subst q2
            rw [← q1] at hv1
            unfold f_X6_best_L43
            refine ⟨(v, s3), ?_, rfl, q3⟩
            rw [if_pos (by decide)]
            unfold f_X6_nameOf at hv1 ⊢
            rw [cl_s]
            rw [Option.some.injEq, Prod.mk.injEq] at hv1
            rw [hv1.1]) (q := (-1, nI 0, nI 0, s)) ⟨rfl, rfl, Sm.rf⟩ (Fu_lt (by omega))
          obtain ⟨x, s2⟩ := t
          obtain ⟨rfl, h3⟩ := h2
          refine ⟨s2, ?_, h3.qf⟩
          unfold f_X6_best
          rw [g_sit isR1 hG.1 hns hi, cl_s, if1', g_life isR1 hG.1 hnl hl, cl_s, if1', g_win (by omega) (by decide), cl_s, if1, h1]
        · obtain ⟨t, h1, h2⟩ := lp_inv (body := fun q : Int32 × Int32 × Int32 × St => f_X7_best_L34 (nI i) (nI l) (nI k) q.1 q.2.1 q.2.2.1 q.2.2.2) (fun j q => (q.1, q.2.1) = it (bstf (fun c => stn nl ns (up g (12 + 2 * i) c) k (20 + 3 * i + l))) (-1, nI 0) j ∧ q.2.2.1 = nI j ∧ Sn s' q.2.2.2) (fun t => t.1 = v ∧ Sn s' t.2) 20 (fun j q hj hq => by
            obtain ⟨x, y, z, s3⟩ := q
            obtain ⟨q1, q2, q3⟩ := hq
            dsimp only at q1 q2 q3 ⊢
            subst q2
            obtain ⟨s4, c1, c2, c3⟩ := r_sit h' q3 hi (show l < 3 by omega) hj (show k ≤ 60 by omega)
            unfold f_X7_best_L34 f_X7_best_J66
            rw [if_neg (nI_ge hj (by decide)), c1, cl_s, nI_add]
            by_cases h0 : nI (stn nl ns (up g (12 + 2 * i) j) k (20 + 3 * i + l)) ≤ x
            · rw [if_pos h0, if_pos h0]
              refine ⟨_, rfl, ?_, rfl, c3⟩
              show (x, y) = bstf _ j (it _ _ j)
              rw [← q1]
              unfold bstf
              rw [if_pos h0]
            · rw [if_neg h0, if_neg h0]
              refine ⟨_, rfl, ?_, rfl, c3⟩
              show (_, _) = bstf _ j (it _ _ j)
              rw [← q1]
              unfold bstf
              rw [if_neg h0]) (fun q hq => by
            obtain ⟨x, y, z, s3⟩ := q
            obtain ⟨q1, q2, q3⟩ := hq
            dsimp only at q1 q2 q3 ⊢
            subst q2
            rw [← q1] at hv2
            unfold f_X7_best_L34
            refine ⟨(v, s3), ?_, rfl, q3⟩
            rw [if_pos (by decide), hv2 s3, cl_s]) (q := (-1, nI 0, nI 0, s')) ⟨rfl, rfl, Sn.rf⟩ (Fu_lt (by omega))
          obtain ⟨x, s2⟩ := t
          obtain ⟨rfl, h3⟩ := h2
          refine ⟨s2, ?_, h3.qf⟩
          unfold f_X7_best
          rw [g7_sit h'.2.2.2.2.2.2.1 hns hi, cl_s, if1', g7_life h'.2.2.2.2.2.1 hnl hl, cl_s, if1', g7_far (by omega), cl_s, if1, h1]
      · refine qs (-1) hn hG ?_ ?_
        · unfold f_X6_best
          rw [g_sit isR1 hG.1 hns hi, cl_s, if1', g_life isR1 hG.1 hnl hl, cl_s, if1', g_win_n hc (by decide), cl_s, if0]
        · unfold f_X7_best
          rw [g7_sit hG.2.2.2.2.2.2.1 hns hi, cl_s, if1', g7_life hG.2.2.2.2.2.1 hnl hl, cl_s, if1', g7_far_n hc, cl_s, if0]
    · refine qs (-1) hn hG ?_ ?_
      · unfold f_X6_best
        rw [g_sit isR1 hG.1 hns hi, cl_s, if1', g_life_n isR1 hG.1 hnl hb, cl_s, if0']
      · unfold f_X7_best
        rw [g7_sit hG.2.2.2.2.2.2.1 hns hi, cl_s, if1', g7_life_n hG.2.2.2.2.2.1 hnl hb, cl_s, if0']
  · refine qs (-1) hn hG ?_ ?_
    · unfold f_X6_best
      rw [g_sit_n isR1 hG.1 hns ha, cl_s, if0']
    · unfold f_X7_best
      rw [g7_sit_n hG.2.2.2.2.2.2.1 hns ha, cl_s, if0']

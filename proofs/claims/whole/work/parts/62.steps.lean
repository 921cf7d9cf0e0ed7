/-! THE WINDOW, STEPS, what was SEEN, images, sheets, counts -/
/-- the window is opened -/
def opn (g : Nat → Nat) : Nat → Nat := fun j => if 43 ≤ j ∧ j < 103 then 0 else if 103 ≤ j ∧ j < 106 then g j + al g (j - 103) else g j
theorem opn_c {g : Nat → Nat} {j : Nat} (h : j < 60) : opn g (43 + j) = 0 := by
  unfold opn
  rw [if_pos (by omega)]
theorem opn_l {g : Nat → Nat} {l : Nat} (h : l < 3) : opn g (103 + l) = g (103 + l) + al g l := by
  unfold opn
  rw [if_neg (by omega), if_pos (by omega), show 103 + l - 103 = l by omega]
theorem opn_o {g : Nat → Nat} {j : Nat} (h : j < 43 ∨ 106 ≤ j) : opn g j = g j := by
  unfold opn
  rw [if_neg (by omega), if_neg (by omega)]
theorem opn_al {g : Nat → Nat} {l : Nat} (h : l < 3) : al (opn g) l = 0 := sm_zero (fun c hc => by
  have := opn_c (g := g) (j := 20 * l + c) (by omega)
  rwa [show 43 + (20 * l + c) = 43 + 20 * l + c by omega] at this)
theorem opn_tot {g : Nat → Nat} {l : Nat} (h : l < 3) : tot (opn g) l = tot g l := by
  unfold tot
  rw [opn_al h, opn_l h, opn_o (by omega), hd_cong (g2 := opn g) (g := g) (fun i hi => opn_o (by omega))]
  omega
theorem opn_WF {nl ns T : Nat} {g : Nat → Nat} (h : WF nl ns T g) : WF nl ns T (opn g) := h.chg (fun j hj => opn_o (by omega)) (fun l hl => by have := h.1; rw [opn_o (by omega)]; exact (h.2.2.2.1 l hl).2.2.2.2) (fun l hl => opn_tot hl) (fun i l hi hl hn => opn_o (by omega))
theorem b_loseAll {s : St} {r nl ns T : Nat} {g : Nat → Nat} (hr : isR r) (hR : RR s r nl ns g) (hW : WF nl ns T g) : ∃ s2, f_X2_loseAll r s = some ((), s2) ∧ RR s2 r nl ns (opn g) ∧ Sm s s2 r 13 := by
  have hn := hW.1
  have hm := hW.2.1
  unfold f_X2_loseAll
  obtain ⟨t, h1, h2⟩ := lp_inv (body := fun q : Int32 × St => f_X2_loseAll_L2 r q.1 q.2) (fun k q => q.1 = nI k ∧ (∀ l, l < 3 → q.2.1 (r + 5) l = (if l < k then nI (g (103 + l) + al g l) else nI (g (103 + l))) ∧ q.2.1 (r + 6) l = (if l < k then nI 0 else nI (al g l))) ∧ (∀ j, j ≠ r + 5 → j ≠ r + 6 → q.2.1 j = s.1 j) ∧ q.2.2 = s.2) (fun t => RR t.2 r nl ns (opn g) ∧ Sm s t.2 r 13) nl (fun k q hk hq => by
    obtain ⟨x, s3⟩ := q
    obtain ⟨q1, q2, q3, q4⟩ := hq
    dsimp only at q1 q2 q3 q4 ⊢
    subst q1
    have e1 := q2 k (by omega)
    rw [if_neg (by omega), if_neg (by omega)] at e1
    unfold f_X2_loseAll_L2
    rw [if_pos hr.1, q3 r (by omega) (by omega), hR.1, if_neg (nI_ge hk (by omega)), hr.2.2.2.2.2.1, if_pos (inb_t (by omega) (by decide)), hr.2.2.2.2.2.2.1, if_pos (inb_t (by omega) (by decide)), bd_s, bd_s, nI_clamp (by omega), e1.1, e1.2, nI_add, nI_add]
    refine ⟨_, rfl, rfl, fun l hl => ?_, fun j h1 h2 => ?_, q4⟩
    · dsimp only
      rw [wI_1o (by omega)]
      by_cases e : l = k
      · subst e; rw [wI_at, wI_at, if_pos (by omega), if_pos (by omega)]; exact ⟨rfl, rfl⟩
      · rw [wI_ne e, wI_ne e, wI_1o (by omega)]
        have := q2 l hl
        by_cases e2 : l < k
        · rw [if_pos e2, if_pos e2] at this; rw [if_pos (by omega), if_pos (by omega)]; exact this
        · rw [if_neg e2, if_neg e2] at this; rw [if_neg (by omega), if_neg (by omega)]; exact this
    · dsimp only
      rw [wI_1o h2, wI_1o h1]; exact q3 j h1 h2) (fun q hq => by
    obtain ⟨x, s3⟩ := q
    obtain ⟨q1, q2, q3, q4⟩ := hq
    dsimp only at q1 q2 q3 q4 ⊢
    subst q1
    obtain ⟨s4, e1, e2, e3, e4⟩ := b_fill (s := s3) hr.2.2.2.2.2.2.2.1 (by decide) (by decide)
    unfold f_X2_loseAll_L2
    rw [if_pos hr.1, q3 r (by omega) (by omega), hR.1, if_pos (nI_le (Nat.le_refl _) (by omega)), e1, cl_s]
    have p : ∀ j, j ≠ r + 5 → j ≠ r + 6 → j ≠ r + 7 → s4.1 j = s.1 j := fun j h1 h2 h3 => (e3 j h3).trans (q3 j h1 h2)
    refine ⟨_, rfl, ⟨?_, ?_, ?_, fun l hl => ?_, fun l hl => ?_, fun j hj => ?_, fun i hi => ?_, fun j hj => ?_, fun k hk => ?_, fun y hy => ?_⟩, fun k hk => p k (by omega) (by omega) (by omega), e4.trans q4⟩
    · rw [p r (by omega) (by omega) (by omega)]; exact hR.1
    · rw [p r (by omega) (by omega) (by omega)]; exact hR.2.1
    · rw [p r (by omega) (by omega) (by omega), opn_o (by omega)]; exact hR.2.2.1
    · rw [p (r + 1) (by omega) (by omega) (by omega), p (r + 2) (by omega) (by omega) (by omega), p (r + 3) (by omega) (by omega) (by omega), p (r + 4) (by omega) (by omega) (by omega), opn_o (by omega), opn_o (by omega), opn_o (by omega), opn_o (by omega)]; exact hR.2.2.2.1 l hl
    · have := q2 l hl
      rw [e3 (r + 5) (by omega), e3 (r + 6) (by omega), opn_l hl, opn_al hl]
      by_cases e : l < nl
      · rw [if_pos e, if_pos e] at this; exact this
      · rw [if_neg e, if_neg e] at this
        have h0 := (wf_al0 hW (by omega) hl).1
        rw [h0] at this ⊢
        exact this
    · rw [e2 j hj, opn_c hj]
    · rw [p (r + 8) (by omega) (by omega) (by omega), p (r + 9) (by omega) (by omega) (by omega), opn_o (by omega), opn_o (by omega)]; exact hR.2.2.2.2.2.2.1 i hi
    · rw [p (r + 10) (by omega) (by omega) (by omega), opn_o (by omega)]; exact hR.2.2.2.2.2.2.2.1 j hj
    · rw [p (r + 11) (by omega) (by omega) (by omega), opn_o (by omega)]; exact hR.2.2.2.2.2.2.2.2.1 k hk
    · rw [p (r + 12) (by omega) (by omega) (by omega), opn_o (by omega)]; exact hR.2.2.2.2.2.2.2.2.2 y hy) (q := (nI 0, s)) ⟨rfl, fun l hl => by rw [if_neg (by omega), if_neg (by omega)]; exact hR.2.2.2.2.1 l hl, fun _ _ _ => rfl, rfl⟩ (Fu_lt (by omega))
  exact ⟨t.2, h1, h2⟩
theorem b7_open {s : St} {nl ns : Nat} {g : Nat → Nat} (h3 : s.1 189 3 = nI nl) (h4 : s.1 189 4 = nI ns) (hg : ∀ j, j < 131 → s.1 190 j = nI (g j)) : ∃ s2, f_X7_open s = some (nI (sm (al g) 3), s2) ∧ (∀ j, j < 131 → s2.1 190 j = nI (opn g j)) ∧ (∀ j, 131 ≤ j → s2.1 190 j = s.1 190 j) ∧ (∀ k, k ≠ 190 → k ≠ 191 → k ≠ 195 → s2.1 k = s.1 k) := by
  obtain ⟨s1, e1, e2, e3⟩ := b7_starts h3 h4 hg
  have hg1 : ∀ j, j < 131 → s1.1 190 j = nI (g j) := by rw [e3.1 190 (by decide) (by decide)]; exact hg
  unfold f_X7_open
  rw [e1, cl_s, b7_allIn e2, cl_s]
  obtain ⟨t, k1, k2⟩ := lp_inv (body := fun q : Int32 × St => f_X7_open_L11 (nI (sm (al g) 3)) q.1 q.2) (fun k q => q.1 = nI k ∧ NR q.2 nl ns g ∧ (∀ j, j < 131 → q.2.1 190 j = if 103 ≤ j ∧ j < 103 + k then nI (opn g j) else nI (g j)) ∧ (∀ j, 131 ≤ j → q.2.1 190 j = s.1 190 j) ∧ (∀ k, k ≠ 190 → k ≠ 191 → k ≠ 195 → q.2.1 k = s.1 k)) (fun t => t.1 = nI (sm (al g) 3) ∧ (∀ j, j < 131 → t.2.1 190 j = nI (opn g j)) ∧ (∀ j, 131 ≤ j → t.2.1 190 j = s.1 190 j) ∧ (∀ k, k ≠ 190 → k ≠ 191 → k ≠ 195 → t.2.1 k = s.1 k)) 3 (fun k q hk hq => by
    obtain ⟨x, s3⟩ := q
    obtain ⟨q1, q2, q3, q4, q5⟩ := hq
    dsimp only at q1 q2 q3 q4 q5 ⊢
    subst q1
    unfold f_X7_open_L11
    rw [if_neg (nI_ge hk (by decide)), nI_add, if_pos (ib190 (by omega)), b7_inRoom q2 hk, cl_s, bd_s, nI_clamp (by omega), q3 _ (by omega), if_neg (by omega), nI_add, nI_add]
    refine ⟨_, rfl, rfl, ⟨by rw [wI_1o (by decide)]; exact q2.1, by rw [wI_1o (by decide)]; exact q2.2.1, by rw [wI_1o (by decide)]; exact q2.2.2⟩, fun j hj => ?_, fun j hj => ?_, fun j h1 h2 h3 => ?_⟩
    · dsimp only
      by_cases e : j = 103 + k
      · subst e; rw [wI_at, if_pos (by omega), opn_l hk]
      · rw [wI_ne e, q3 j hj]
        by_cases e2 : 103 ≤ j ∧ j < 103 + k
        · rw [if_pos e2, if_pos (by omega)]
        · rw [if_neg e2, if_neg (by omega)]
    · dsimp only
      rw [wI_ne (by omega)]; exact q4 j hj
    · dsimp only
      rw [wI_1o h1]; exact q5 j h1 h2 h3) (fun q hq => by
    obtain ⟨x, s3⟩ := q
    obtain ⟨q1, q2, q3, q4, q5⟩ := hq
    dsimp only at q1 q2 q3 q4 q5 ⊢
    subst q1
    obtain ⟨t, j1, j2⟩ := lp_inv (body := fun q : Int32 × St => f_X7_open_L41 (nI (sm (al g) 3)) q.1 q.2) (fun k q => q.1 = nI k ∧ (∀ j, j < 131 → q.2.1 190 j = if (103 ≤ j ∧ j < 106) ∨ (43 ≤ j ∧ j < 43 + k) then nI (opn g j) else nI (g j)) ∧ (∀ j, 131 ≤ j → q.2.1 190 j = s.1 190 j) ∧ (∀ k, k ≠ 190 → k ≠ 191 → k ≠ 195 → q.2.1 k = s.1 k)) (fun t => t.1 = nI (sm (al g) 3) ∧ (∀ j, j < 131 → t.2.1 190 j = nI (opn g j)) ∧ (∀ j, 131 ≤ j → t.2.1 190 j = s.1 190 j) ∧ (∀ k, k ≠ 190 → k ≠ 191 → k ≠ 195 → t.2.1 k = s.1 k)) 60 (fun k q hk hq => by
      obtain ⟨x, s5⟩ := q
      obtain ⟨p1, p3, p4, p5⟩ := hq
      dsimp only at p1 p3 p4 p5 ⊢
      subst p1
      unfold f_X7_open_L41
      rw [if_neg (nI_ge hk (by decide)), nI_add, if_pos (ib190 (by omega)), bd_s, nI_clamp (by omega), nI_add]
      refine ⟨_, rfl, rfl, fun j hj => ?_, fun j hj => ?_, fun j h1 h2 h3 => ?_⟩
      · dsimp only
        by_cases e : j = 43 + k
        · subst e; rw [wI_at, if_pos (by omega), opn_c hk]
        · rw [wI_ne e, p3 j hj]
          by_cases e2 : (103 ≤ j ∧ j < 106) ∨ (43 ≤ j ∧ j < 43 + k)
          · rw [if_pos e2, if_pos (by omega)]
          · rw [if_neg e2, if_neg (by omega)]
      · dsimp only
        rw [wI_ne (by omega)]; exact p4 j hj
      · dsimp only
        rw [wI_1o h1]; exact p5 j h1 h2 h3) (fun q hq => by
      obtain ⟨x, s5⟩ := q
      obtain ⟨p1, p3, p4, p5⟩ := hq
      dsimp only at p1 p3 p4 p5 ⊢
      subst p1
      unfold f_X7_open_L41
      rw [if_pos (by decide)]
      refine ⟨_, rfl, rfl, fun j hj => ?_, p4, p5⟩
      rw [p3 j hj]
      by_cases e2 : (103 ≤ j ∧ j < 106) ∨ (43 ≤ j ∧ j < 43 + 60)
      · rw [if_pos e2]
      · rw [if_neg e2, opn_o (by omega)]) (q := (nI 0, s3)) ⟨rfl, fun j hj => by
        rw [q3 j hj]
        by_cases e2 : 103 ≤ j ∧ j < 103 + 3
        · rw [if_pos e2, if_pos (by omega)]
        · rw [if_neg e2, if_neg (by omega)], q4, q5⟩ (Fu_lt (by omega))
    unfold f_X7_open_L11
    rw [if_pos (by decide), j1, ox_s]
    exact ⟨_, rfl, j2⟩) (q := (nI 0, s1)) ⟨rfl, e2, fun j hj => by rw [if_neg (by omega)]; exact hg1 j hj, fun j hj => by rw [e3.1 190 (by decide) (by decide)], fun k h1 h2 h3 => e3.1 k h2 h3⟩ (Fu_lt (by omega))
  obtain ⟨x, s2⟩ := t
  obtain ⟨rfl, k3⟩ := k2
  exact ⟨s2, k1, k3⟩
theorem SR.fr {s s1 : St} {g : Nat → Nat} (h4 : SR s 27 g) (hF : ∀ k, ¬ (1 ≤ k ∧ k ≤ 13) → s1.1 k = s.1 k) : SR s1 27 g := by
  unfold SR at h4 ⊢
  simp (disch := omega) only [hF]
  exact h4
theorem op_open : Op0 f_X6_open f_X7_open Good := by
  intro n s hn hG
  obtain ⟨-, nl, ns, g, hG⟩ := hG
  have hnl := hG.2.1.1
  obtain ⟨s1, a1, a2, a3⟩ := b_loseAll isR1 hG.1 hG.2.1
  have fr : ∀ k, ¬ (1 ≤ k ∧ k ≤ 13) → s1.1 k = s.1 k := fun k hk => a3.1 k (by omega)
  obtain ⟨s2, b1, b2, b3, b4⟩ := b7_open (s := s1) (nl := nl) (ns := ns) (g := g) (by rw [fr 189 (by omega)]; exact hG.2.2.2.2.2.1) (by rw [fr 189 (by omega)]; exact hG.2.2.2.2.2.2.1) (by rw [fr 190 (by omega)]; exact hG.2.2.2.2.2.2.2.1)
  refine ⟨nI (sm (al g) 3), s1, s2, ?_, b1, upg hn hG a2 ?_ (fun k h1 h2 => fr k (by omega)) (fun k h1 h2 h3 _ => b4 k h1 h2 h3) b2 b3 (wf_T (opn_WF hG.2.1) (by omega) (by omega)) (by rw [opn_o (by omega)]; exact hG.2.2.1) (hG.2.2.2.2.1.cong (fun j h1 h2 => opn_o (by omega)))⟩
  · unfold f_X6_open
    rw [b_sumOfLives isR1 hG.1 hnl (by decide) (f := al g) (fun l hl => ((R1 hG.1).2.2.2.2.1 l (by omega)).2), cl_s, a1, cl_s, wf_sal hG.2.1]
  · exact SR.cong (g := g) (SR.fr hG.2.2.2.1 fr) hG.2.2.2.2.1.1 (fun j h1 h2 => opn_o (by omega))
theorem op_steps : Op1 f_X6_steps f_X7_steps Good := by
  intro n s a hn hG
  obtain ⟨-, nl, ns, g, hG⟩ := hG
  have h42 := hG.2.2.1
  have hg := hG.2.2.2.2.2.2.2.1
  rcases rng a (30 + 1) with ⟨k, hk, hk2, rfl⟩ | ha
  · by_cases h9 : g 42 + k ≤ 999
    · obtain ⟨s1, a1, a2, a3⟩ := b_goOn (n := k) isR1 hG.1 hG.2.1 (by omega) (by omega)
      have fr : ∀ k, ¬ (1 ≤ k ∧ k ≤ 13) → s1.1 k = s.1 k := fun k hk => a3.1 k (by omega)
      have g190 : ∀ j, j < 131 → s1.1 190 j = nI (g j) := by rw [fr 190 (by omega)]; exact hg
      obtain ⟨s2, b1, b2, b3⟩ := b7_starts (s := s1) (nl := nl) (ns := ns) (g := g) (by rw [fr 189 (by omega)]; exact hG.2.2.2.2.2.1) (by rw [fr 189 (by omega)]; exact hG.2.2.2.2.2.2.1) g190
      obtain ⟨s3, c1, c2, c3⟩ := b7_stepsGo (n := k) b2 hG.2.1 (by omega) (by omega)
      obtain ⟨s4, d1, d2, d3, d4, d5⟩ := b7_settles c2
      have hn4 : NR s4 nl ns (stn nl ns g k) := ⟨by rw [d4 189 (by decide)]; exact c2.1, by rw [d4 189 (by decide)]; exact c2.2.1, by rw [d4 191 (by decide)]; exact c2.2.2⟩
      obtain ⟨w1, w2⟩ := stn_WF hG.2.1 (k := k) (by omega)
      have hh := stn_hd hG.2.1 (k := k) (by omega)
      refine ⟨nI (tks nl ns g k), s1, s4, ?_, ?_, upg hn hG a2 ?_ (fun k h1 h2 => fr k (by omega)) (fun k h1 h2 h3 _ => by rw [d4 k h1, c3.1 k h2 h3, b3.1 k h2 h3]) d2 (fun j hj => by rw [d3 j hj, c3.1 190 (by decide) (by decide), b3.1 190 (by decide) (by decide)]) (wf_T w1 (by omega) (by omega)) (by omega) (hG.2.2.2.2.1.cong (fun j h1 h2 => stn_kp hG.2.1 (by omega) (by omega)))⟩
      · unfold f_X6_steps
        rw [g_win (by omega) (by decide), cl_s, if1, (R1 hG.1).2.2.1, nI_add, if_pos (nI_le h9 (by decide)), a1, cl_s]
      · unfold f_X7_steps
        rw [g7_win (by omega) (by decide), cl_s, if1, if_pos (ib190 (by decide)), nI_clamp (by decide), g190 42 (by decide), nI_add, if_pos (nI_le h9 (by decide)), b1, cl_s, b7_allHad b2, cl_s, c1, cl_s, d1, cl_s, b7_allHad hn4, cl_s, pk_sub (by omega), hh, Nat.add_sub_cancel_left]
      · exact SR.cong (g := g) (SR.fr hG.2.2.2.1 fr) hG.2.2.2.2.1.1 (fun j h1 h2 => stn_kp hG.2.1 (by omega) (by omega))
    · refine qs (-3) hn hG ?_ ?_
      · unfold f_X6_steps
        rw [g_win (by omega) (by decide), cl_s, if1, (R1 hG.1).2.2.1, nI_add, if_neg (nI_ge (by omega) (by omega))]
      · unfold f_X7_steps
        rw [g7_win (by omega) (by decide), cl_s, if1, if_pos (ib190 (by decide)), nI_clamp (by decide), hg 42 (by decide), nI_add, if_neg (nI_ge (by omega) (by omega))]
  · refine qs (-1) hn hG ?_ ?_
    · unfold f_X6_steps
      rw [g_win_n ha (by decide), cl_s, if0]
    · unfold f_X7_steps
      rw [g7_win_n ha (by decide), cl_s, if0]

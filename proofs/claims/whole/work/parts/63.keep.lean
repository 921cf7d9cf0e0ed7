/-! what was SEEN, images, sheets, counts -/
theorem R27 {s : St} {g : Nat → Nat} (h : SR s 27 g) : s.1 27 0 = nI (g 106) ∧ ∀ k, k < g 106 → s.1 28 k = nI (g (107 + 4 * k)) ∧ s.1 29 k = nI (g (108 + 4 * k)) ∧ s.1 30 k = nI (g (109 + 4 * k)) ∧ s.1 31 k = nI (g (110 + 4 * k)) := h
theorem RR.cong {s : St} {r nl ns : Nat} {g g2 : Nat → Nat} (h : RR s r nl ns g) (hn : nl ≤ 3) (hm : ns ≤ 4) (he : ∀ j, j < 106 → g2 j = g j) : RR s r nl ns g2 := by
  obtain ⟨q0, q1, q2, q3, q4, q5, q6, q7, q8, q9⟩ := h
  refine ⟨q0, q1, by rw [he 42 (by omega)]; exact q2, fun l hl => ?_, fun l hl => ?_, fun j hj => ?_, fun i hi => ?_, fun j hj => ?_, fun k hk => ?_, fun y hy => ?_⟩
  · rw [he (4 * l) (by omega), he (4 * l + 1) (by omega), he (4 * l + 2) (by omega), he (4 * l + 3) (by omega)]; exact q3 l hl
  · rw [he (103 + l) (by omega), al_cong (g2 := g2) (g := g) (fun c hc => he _ (by omega))]; exact q4 l hl
  · rw [he (43 + j) (by omega)]; exact q5 j hj
  · rw [he (12 + 2 * i) (by omega), he (13 + 2 * i) (by omega)]; exact q6 i hi
  · rw [he (20 + j) (by omega)]; exact q7 j hj
  · rw [he (32 + k) (by omega)]; exact q8 k hk
  · rw [he (38 + y) (by omega)]; exact q9 y hy
theorem tot_cg {g g2 : Nat → Nat} (he : ∀ j, j < 106 → g2 j = g j) {l : Nat} (hl : l < 3) : tot g2 l = tot g l := by
  unfold tot
  rw [he (4 * l + 3) (by omega), he (103 + l) (by omega), al_cong (g2 := g2) (g := g) (fun c hc => he _ (by omega)), hd_cong (g2 := g2) (g := g) (fun i hi => he _ (by omega))]
theorem wf_cong {nl ns T : Nat} {g g2 : Nat → Nat} (h : WF nl ns T g) (he : ∀ j, j < 106 → g2 j = g j) : WF nl ns T g2 := by
  obtain ⟨a1, a2, a3, a4, a5, a6, a7, a8, a9, a10, a11⟩ := h
  refine ⟨a1, a2, a3, fun l hl => ?_, fun i hi => ?_, fun k hk => ?_, fun y hy => ?_, ?_, fun l hl => ?_, fun l hl hn => ?_, fun i l hi hl hn => ?_⟩
  · rw [he (4 * l) (by omega), he (4 * l + 1) (by omega), he (4 * l + 2) (by omega), he (4 * l + 3) (by omega)]; exact a4 l hl
  · rw [he (12 + 2 * i) (by omega), he (13 + 2 * i) (by omega)]; exact a5 i hi
  · rw [he (32 + k) (by omega)]; exact a6 k hk
  · rw [he (38 + y) (by omega)]; exact a7 y hy
  · rw [he 42 (by omega)]; exact a8
  · rw [tot_cg he hl]; exact a9 l hl
  · rw [tot_cg he hl]; exact a10 l hl hn
  · rw [he _ (by omega)]; exact a11 i l hi hl hn
theorem op_forget : Op1 f_X6_forget f_X7_forget Good := by
  intro n s a hn hG
  obtain ⟨-, nl, ns, g, hG⟩ := hG
  have hS := hG.2.2.2.2.1
  have h6 := hS.1
  have hg := hG.2.2.2.2.2.2.2.1
  have e27 := (R27 hG.2.2.2.1).1
  rcases rng a (g 106 + 1) with ⟨c, hc, hc2, rfl⟩ | ha
  · have e2 : (wI s 27 0 (nI c)).1 190 = s.1 190 := wI_1o (by decide)
    refine ⟨nI (g 106), wI s 27 0 (nI c), wI (wI s 27 0 (nI c)) 190 106 (nI c), ?_, ?_, upg (g2 := up g 106 c) hn hG ?_ ?_ (fun k h1 h2 => wI_1o (by omega)) (fun k h1 h2 h3 h4 => wI_1o h1) (fun j hj => ?_) (fun j hj => by rw [wI_ne (by omega)]) (wf_T (wf_cong hG.2.1 (fun j hj => up_o (by omega))) (by omega) (by omega)) (by rw [up_o (by decide)]; exact hG.2.2.1) ?_⟩
    · unfold f_X6_forget
      rw [e27, g_win (by omega) (by omega), cl_s, if1, bd_s, bd_s, e27]
    · unfold f_X7_forget
      rw [if_pos (ib190 (by decide)), nI_clamp (by decide), e2, hg 106 (by decide), nI_l (n := g 106) (by omega), g7_win (by omega) (by omega), cl_s, if1', b7_becomes (by decide), cl_s, e2, hg 106 (by decide)]
    · exact RR.cong (RR.sm hG.1 (b := 27) (m := 5) (Sm.wi (by omega) (by omega)) (by omega)) hG.2.1.1 hG.2.1.2.1 (fun j hj => up_o (by omega))
    · refine ⟨by rw [wI_at, up_k], fun k hk => ?_⟩
      rw [up_k] at hk
      simp (disch := omega) only [wI_1o, up_o]
      exact hG.2.2.2.1.2 k (by omega)
    · by_cases e : j = 106
      · subst e; rw [wI_at, up_k]
      · rw [wI_ne e, up_o e, e2]; exact hg j hj
    · refine ⟨by rw [up_k]; omega, fun k hk => ?_⟩
      rw [up_k] at hk
      simp (disch := omega) only [up_o]
      exact hS.2 k (by omega)
  · refine qs (-1) hn hG ?_ ?_
    · unfold f_X6_forget
      rw [e27, g_win_n ha (by omega), cl_s, if0]
    · unfold f_X7_forget
      rw [if_pos (ib190 (by decide)), nI_clamp (by decide), hg 106 (by decide), nI_l (n := g 106) (by omega), g7_win_n ha (by omega), cl_s, if0']
theorem op_see : Op4 f_X6_see f_X7_see Good := by
  intro n s a b c d hn hG
  obtain ⟨-, nl, ns, g, hG⟩ := hG
  have hnl := hG.2.1.1
  have hns := hG.2.1.2.1
  have hS := hG.2.2.2.2.1
  have h6 := hS.1
  have hg := hG.2.2.2.2.2.2.2.1
  have r27 := R27 hG.2.2.2.1
  rcases rng a ns with ⟨i, hi, hi2, rfl⟩ | ha
  · rcases rng b nl with ⟨l, hl, hl2, rfl⟩ | hb
    · rcases rng c (30 + 1) with ⟨m, hm, hm2, rfl⟩ | hc
      · rcases rng d (999 + 1) with ⟨v, hv, hv2, rfl⟩ | hd
        · by_cases hf : g 106 = 6
          · refine qs (-3) hn hG ?_ ?_
            · unfold f_X6_see f_X3_put
              rw [g_sit isR1 hG.1 hns hi, cl_s, if1', g_life isR1 hG.1 hnl hl, cl_s, if1', g_win (by omega) (by decide), cl_s, if1', g_win (by omega) (by decide), cl_s, if1, if_pos (by decide), r27.1, hf, if_neg (by decide), cl_s, if0']
            · unfold f_X7_see
              rw [g7_sit hG.2.2.2.2.2.2.1 hns hi, cl_s, if1', g7_life hG.2.2.2.2.2.1 hnl hl, cl_s, if1', g7_win (by omega) (by decide), cl_s, if1', g7_win (by omega) (by decide), cl_s, if1, if_pos (ib190 (by decide)), nI_clamp (by decide), hg 106 (by decide), hf, if_neg (fun q => q rfl)]
          · have hlt : g 106 < 6 := by omega
            refine ⟨nI (g 106 + 1), wI (wI (wI (wI (wI s 28 (g 106) (nI i)) 29 (g 106) (nI l)) 30 (g 106) (nI m)) 31 (g 106) (nI v)) 27 0 (nI (g 106 + 1)), wI (wI (wI (wI (wI (wI (wI (wI (wI (wI s 28 (g 106) (nI i)) 29 (g 106) (nI l)) 30 (g 106) (nI m)) 31 (g 106) (nI v)) 27 0 (nI (g 106 + 1))) 190 (107 + 4 * g 106) (nI i)) 190 (107 + 4 * g 106 + 1) (nI l)) 190 (107 + 4 * g 106 + 2) (nI m)) 190 (107 + 4 * g 106 + 3) (nI v)) 190 106 (nI (g 106 + 1)), ?_, ?_, upg (s1 := wI (wI (wI (wI (wI s 28 (g 106) (nI i)) 29 (g 106) (nI l)) 30 (g 106) (nI m)) 31 (g 106) (nI v)) 27 0 (nI (g 106 + 1))) (g2 := up (up (up (up (up g (107 + 4 * g 106) i) (107 + 4 * g 106 + 1) l) (107 + 4 * g 106 + 2) m) (107 + 4 * g 106 + 3) v) 106 (g 106 + 1)) hn hG ?_ ?_ (fun k h1 h2 => ?_) (fun k h1 h2 h3 h4 => ?_) (fun j hj => ?_) (fun j hj => ?_) (wf_T (wf_cong hG.2.1 (fun j hj => ?_)) (by omega) (by omega)) ?_ ?_⟩
            · unfold f_X6_see f_X3_put
              rw [g_sit isR1 hG.1 hns hi, cl_s, if1', g_life isR1 hG.1 hnl hl, cl_s, if1', g_win (by omega) (by decide), cl_s, if1', g_win (by omega) (by decide), cl_s, if1, if_pos (by decide), r27.1, if_pos (nI_lt hlt (by decide))]
              simp (disch := omega) only [wI_1o, bd_s, r27.1]
              rw [if_pos (ib6 (by decide) hlt), if_pos (ib6 (by decide) hlt), if_pos (ib6 (by decide) hlt), if_pos (ib6 (by decide) hlt), nI_clamp (by omega), cl_s, if1', wI_at, nI_add]
            · unfold f_X7_see
              rw [g7_sit (by simp (disch := omega) only [wI_1o]; exact hG.2.2.2.2.2.2.1) hns hi, cl_s, if1', g7_life (by simp (disch := omega) only [wI_1o]; exact hG.2.2.2.2.2.1) hnl hl, cl_s, if1', g7_win (by omega) (by decide), cl_s, if1', g7_win (by omega) (by decide), cl_s, if1, if_pos (ib190 (by decide)), nI_clamp (by decide)]
              simp (disch := omega) only [wI_1o, bd_s, pk_mul, nI_add, hg, wI_ne, nI_clamp, wI_at]
              rw [if_pos (fun q => hf ((nI_eq (by omega) (by decide)).mp q)), if_pos (ib190 (by omega)), if_pos (ib190 (by omega)), if_pos (ib190 (by omega)), if_pos (ib190 (by omega))]
            · refine RR.cong (g := g) ?_ hnl hns (fun j hj => ?_)
              · refine RR.sm hG.1 (b := 27) (m := 5) (s2 := wI (wI (wI (wI (wI s 28 (g 106) (nI i)) 29 (g 106) (nI l)) 30 (g 106) (nI m)) 31 (g 106) (nI v)) 27 0 (nI (g 106 + 1))) ⟨fun k hk => ?_, rfl⟩ (by omega)
                simp (disch := omega) only [wI_1o]
              · simp (disch := omega) only [up_o]
            · refine ⟨by rw [wI_at, up_k], fun k hk => ?_⟩
              rw [up_k] at hk
              by_cases e : k = g 106
              · subst e
                simp (disch := omega) only [wI_1o, wI_at, up_o]
                rw [up_k, show 108 + 4 * g 106 = 107 + 4 * g 106 + 1 by omega, show 109 + 4 * g 106 = 107 + 4 * g 106 + 2 by omega, show 110 + 4 * g 106 = 107 + 4 * g 106 + 3 by omega]
                simp (disch := omega) only [up_o, up_k]
                exact ⟨trivial, trivial, trivial, trivial⟩
              · simp (disch := omega) only [wI_1o, wI_ne, up_o]
                exact hG.2.2.2.1.2 k (by omega)
            · simp (disch := omega) only [wI_1o]
            · simp (disch := omega) only [wI_1o]
            · by_cases e0 : j = 106
              · subst e0; rw [wI_at, up_k]
              · rw [wI_ne e0, up_o e0]
                by_cases e3 : j = 107 + 4 * g 106 + 3
                · subst e3; rw [wI_at, up_k]
                · rw [wI_ne e3, up_o e3]
                  by_cases e2 : j = 107 + 4 * g 106 + 2
                  · subst e2; rw [wI_at, up_k]
                  · rw [wI_ne e2, up_o e2]
                    by_cases e1 : j = 107 + 4 * g 106 + 1
                    · subst e1; rw [wI_at, up_k]
                    · rw [wI_ne e1, up_o e1]
                      by_cases e4 : j = 107 + 4 * g 106
                      · subst e4; rw [wI_at, up_k]
                      · rw [wI_ne e4, up_o e4]
                        simp (disch := omega) only [wI_1o]
                        exact hg j hj
            · simp (disch := omega) only [wI_1o, wI_ne]
            · simp (disch := omega) only [up_o]
            · simp (disch := omega) only [up_o]; exact hG.2.2.1
            · refine ⟨by rw [up_k]; omega, fun k hk => ?_⟩
              rw [up_k] at hk
              by_cases e : k = g 106
              · subst e
                simp (disch := omega) only [up_o]
                rw [up_k, show 108 + 4 * g 106 = 107 + 4 * g 106 + 1 by omega, show 109 + 4 * g 106 = 107 + 4 * g 106 + 2 by omega, show 110 + 4 * g 106 = 107 + 4 * g 106 + 3 by omega]
                simp (disch := omega) only [up_o, up_k]
                omega
              · simp (disch := omega) only [up_o]
                exact hS.2 k (by omega)
        · refine qs (-1) hn hG ?_ ?_
          · unfold f_X6_see
            rw [g_sit isR1 hG.1 hns hi, cl_s, if1', g_life isR1 hG.1 hnl hl, cl_s, if1', g_win (by omega) (by decide), cl_s, if1', g_win_n hd (by decide), cl_s, if0]
          · unfold f_X7_see
            rw [g7_sit hG.2.2.2.2.2.2.1 hns hi, cl_s, if1', g7_life hG.2.2.2.2.2.1 hnl hl, cl_s, if1', g7_win (by omega) (by decide), cl_s, if1', g7_win_n hd (by decide), cl_s, if0]
      · refine qs (-1) hn hG ?_ ?_
        · unfold f_X6_see
          rw [g_sit isR1 hG.1 hns hi, cl_s, if1', g_life isR1 hG.1 hnl hl, cl_s, if1', g_win_n hc (by decide), cl_s, if0']
        · unfold f_X7_see
          rw [g7_sit hG.2.2.2.2.2.2.1 hns hi, cl_s, if1', g7_life hG.2.2.2.2.2.1 hnl hl, cl_s, if1', g7_win_n hc (by decide), cl_s, if0']
    · refine qs (-1) hn hG ?_ ?_
      · unfold f_X6_see
        rw [g_sit isR1 hG.1 hns hi, cl_s, if1', g_life_n isR1 hG.1 hnl hb, cl_s, if0']
      · unfold f_X7_see
        rw [g7_sit hG.2.2.2.2.2.2.1 hns hi, cl_s, if1', g7_life_n hG.2.2.2.2.2.1 hnl hb, cl_s, if0']
  · refine qs (-1) hn hG ?_ ?_
    · unfold f_X6_see
      rw [g_sit_n isR1 hG.1 hns ha, cl_s, if0']
    · unfold f_X7_see
      rw [g7_sit_n hG.2.2.2.2.2.2.1 hns ha, cl_s, if0']
theorem b7_copies {s : St} {a b : Nat} (ha : a ≤ 262) (hb : b ≤ 262) (hd : a + 131 ≤ b ∨ b + 131 ≤ a) : ∃ s2, f_X7_copies (nI a) (nI b) s = some ((), s2) ∧ (∀ j, j < 131 → s2.1 190 (a + j) = s.1 190 (b + j)) ∧ (∀ j, j < a ∨ a + 131 ≤ j → s2.1 190 j = s.1 190 j) ∧ (∀ k, k ≠ 190 → s2.1 k = s.1 k) := by
  unfold f_X7_copies
  obtain ⟨t, h1, h2⟩ := lp_inv (body := fun q : Int32 × St => f_X7_copies_L2 (nI a) (nI b) q.1 q.2) (fun k q => q.1 = nI k ∧ (∀ j, j < k → q.2.1 190 (a + j) = s.1 190 (b + j)) ∧ (∀ j, j < a ∨ a + 131 ≤ j → q.2.1 190 j = s.1 190 j) ∧ (∀ k, k ≠ 190 → q.2.1 k = s.1 k)) (fun t => (∀ j, j < 131 → t.2.1 190 (a + j) = s.1 190 (b + j)) ∧ (∀ j, j < a ∨ a + 131 ≤ j → t.2.1 190 j = s.1 190 j) ∧ (∀ k, k ≠ 190 → t.2.1 k = s.1 k)) 131 (fun k q hk hq => by
    obtain ⟨x, s3⟩ := q
    obtain ⟨q1, q2, q3, q4⟩ := hq
    dsimp only at q1 q2 q3 q4 ⊢
    subst q1
    unfold f_X7_copies_L2
    simp only [nI_add]
    rw [if_neg (nI_ge hk (by decide)), if_pos (ib190 (by omega)), if_pos (ib190 (by omega)), bd_s, nI_clamp (by omega), nI_clamp (by omega), q3 (b + k) (by omega)]
    refine ⟨_, rfl, rfl, fun j hj => ?_, fun j hj => ?_, fun j hj => ?_⟩
    · dsimp only
      by_cases e : j = k
      · subst e; rw [wI_at]
      · rw [wI_ne (by omega)]; exact q2 j (by omega)
    · dsimp only
      rw [wI_ne (by omega)]; exact q3 j hj
    · dsimp only
      rw [wI_1o hj]; exact q4 j hj) (fun q hq => by
    obtain ⟨x, s3⟩ := q
    obtain ⟨q1, q2⟩ := hq
    dsimp only at q1 q2 ⊢
    subst q1
    unfold f_X7_copies_L2
    rw [if_pos (by decide)]
    exact ⟨_, rfl, q2⟩) (q := (nI 0, s)) ⟨rfl, fun j hj => absurd hj (by omega), fun _ _ => rfl, fun _ _ => rfl⟩ (Fu_lt (by omega))
  exact ⟨t.2, h1, h2⟩
theorem im_a : ∀ k, k < 2 → inb (nI k) (ln 32) = true ∧ kd (143 + 19 * k) = 0 ∧ isR (144 + 19 * k) ∧ isS (157 + 19 * k) ∧ inb (nI k) (lnZ 192) = true := by unfold isR isS; decide
theorem b7_flag {x : Int32} (s : St) : f_X7_flag x s = some (if x = 0 then nI 0 else nI 1, s) := by
  unfold f_X7_flag
  by_cases h : x = 0
  · rw [if_pos h, if_pos h]
  · rw [if_neg h, if_neg h]
theorem op_keep : Op1 f_X6_keep f_X7_keep Good := by
  intro n s a hn hG
  obtain ⟨-, nl, ns, g, hG⟩ := hG
  have hnl := hG.2.1.1
  have hns := hG.2.1.2.1
  rcases rng a (1 + 1) with ⟨k, hk, hk2, rfl⟩ | ha
  · obtain ⟨m1, m2, m3, m4, m5⟩ := im_a k hk
    have hG' := hG
    obtain ⟨h1, h2, h3, h4, h5, h6, h7, h8, h9, h10, h11, h12⟩ := hG'
    obtain ⟨s1, a1, a2, a3⟩ := b_copyOf (s := wI s (143 + 19 * k) 0 (nI 1)) (r := 144 + 19 * k) m3 isR1 (by omega) hnl hns (RR.sm h1 (b := 143 + 19 * k) (m := 1) (Sm.wi (by omega) (by omega)) (by omega))
    have f1 : ∀ j, (j < 143 + 19 * k ∨ 157 + 19 * k ≤ j) → s1.1 j = s.1 j := fun j hj => by rw [a3.1 j (by omega), wI_1o (by omega)]
    obtain ⟨s2, c1, c2, c3⟩ := b_copyS (s := s1) (r := 157 + 19 * k) (a := 27) (g := g) m4 isS27 (by omega) h5.1 (by unfold SR at h4 ⊢; simp (disch := omega) only [f1]; exact h4)
    have f2 : ∀ j, (j < 143 + 19 * k ∨ 162 + 19 * k ≤ j) → s2.1 j = s.1 j := fun j hj => by rw [c3.1 j (by omega), f1 j (by omega)]
    have fk : s2.1 (143 + 19 * k) 0 = nI 1 := by rw [c3.1 _ (by omega), a3.1 _ (by omega), wI_at]
    obtain ⟨s3, d1, d2, d3, d4⟩ := b7_copies (s := wI s2 192 k (nI 1)) (a := 131 * (k + 1)) (b := 0) (by omega) (by omega) (by omega)
    have e190 : (wI s2 192 k (nI 1)).1 190 = s.1 190 := by rw [wI_1o (by decide), f2 190 (by omega)]
    have f3 : ∀ j, j < 190 → s3.1 j = s2.1 j := fun j hj => by rw [d4 j (by omega), wI_1o (by omega)]
    have f4 : ∀ j, 192 < j → s3.1 j = s.1 j := fun j hj => by rw [d4 j (by omega), wI_1o (by omega), f2 j (by omega)]
    have fI : ∀ j, j < 143 ∨ (181 ≤ j ∧ j < 190) ∨ 192 < j → s3.1 j = s.1 j := fun j hj => by
      by_cases e : 192 < j
      · exact f4 j e
      · rw [f3 j (by omega), f2 j (by omega)]
    have hv : ∃ v, (s.1 (143 + 19 * k) 0 = 0 ∧ s.1 192 k = 0 ∧ v = nI 0) ∨ (s.1 (143 + 19 * k) 0 = nI 1 ∧ s.1 192 k = nI 1 ∧ v = nI 1) := by
      rcases h9 k hk with ⟨e1, e2⟩ | ⟨e1, e2, -⟩
      · exact ⟨nI 0, Or.inl ⟨e1, e2, rfl⟩⟩
      · exact ⟨nI 1, Or.inr ⟨e1, e2, rfl⟩⟩
    obtain ⟨v, hv⟩ := hv
    refine ⟨v, s2, s3, ?_, ?_, by omega, nl, ns, g, ?_, wf_T h2 (by omega) (by omega), h3, ?_, h5, ?_, ?_, ?_, fun i hi => ?_, ?_, fun i hi => ?_, ?_⟩
    · unfold f_X6_keep f_X6_keep_J30
      rw [g_win (by omega) (by decide), cl_s, if1, if_pos m1, bd_s, nI_clamp hk2, if_pos m2]
      have e14 : 143 + 19 * k + 14 = 157 + 19 * k := by omega
      have e1 : 143 + 19 * k + 1 = 144 + 19 * k := by omega
      rw [e14, e1, if_pos m2, bd_s, if_pos m3.1, a1, cl_s, if_pos m4.1, c1, cl_s]
      rcases hv with ⟨x1, x2, rfl⟩ | ⟨x1, x2, rfl⟩
      · rw [if_pos x1]
      · rw [if_neg (by rw [x1]; decide), if_pos m2, bd_s, if_pos m3.1, a1, cl_s, if_pos m4.1, c1, cl_s]
    · unfold f_X7_keep
      rw [g7_win (by omega) (by decide), cl_s, if1, if_pos m5, nI_clamp hk2, f2 192 (by omega), b7_flag, cl_s, bd_s, show vp_nar .boolean (nI 1) = nI 1 by decide, nI_add, pk_mul, d1, cl_s]
      rcases hv with ⟨x1, x2, rfl⟩ | ⟨x1, x2, rfl⟩
      · rw [if_pos x2]
      · rw [if_neg (by rw [x2]; decide)]
    · unfold RR at h1 ⊢
      simp (disch := omega) only [fI]
      exact h1
    · unfold SR at h4 ⊢
      simp (disch := omega) only [fI]
      exact h4
    · rw [fI 189 (by omega)]; exact h6
    · rw [fI 189 (by omega)]; exact h7
    · intro j hj
      rw [d3 j (by omega), e190]; exact h8 j hj
    · by_cases e : i = k
      · subst e
        refine Or.inr ⟨by rw [f3 _ (by omega)]; exact fk, by rw [d4 192 (by decide), wI_at], g, ?_, ?_, wf_T h2 (by omega) (by omega), h5, h3, fun j hj => ?_⟩
        · unfold RR at a2 ⊢
          have fz : ∀ j, 144 + 19 * i ≤ j → j < 157 + 19 * i → s3.1 j = s1.1 j := fun j x1 x2 => by rw [f3 j (by omega), c3.1 j (by omega)]
          simp (disch := omega) only [fz]
          exact a2
        · unfold SR at c2 ⊢
          simp (disch := omega) only [f3]
          exact c2
        · rw [d2 j hj, e190, Nat.zero_add]; exact h8 j hj
      · have fk2 : ∀ j, 143 + 19 * i ≤ j → j < 162 + 19 * i → s3.1 j = s.1 j := fun j x1 x2 => by rw [f3 j (by omega), f2 j (by omega)]
        have hK := (h9 i hi).mono (show n < 100 by omega)
        unfold KI at hK ⊢
        rw [fk2 (143 + 19 * i) (by omega) (by omega), d4 192 (by decide), wI_ne e, f2 192 (by omega)]
        rcases hK with hK | ⟨x1, x2, q, b1, b2, b3, b4, b5, b6⟩
        · exact Or.inl hK
        · refine Or.inr ⟨x1, x2, q, ?_, ?_, b3, b4, b5, fun j hj => ?_⟩
          · unfold RR at b1 ⊢
            simp (disch := omega) only [fk2]
            exact b1
          · unfold SR at b2 ⊢
            simp (disch := omega) only [fk2]
            exact b2
          · rw [d3 _ (by omega), e190]; exact b6 j hj
    · exact h10.cong (fI 33 (by omega)) (fI 34 (by omega)) (fI 194 (by omega)) (by rw [fI 189 (by omega)]) (by rw [fI 189 (by omega)])
    · exact (h11 i hi).cong hi (fun j a b => fI j (by omega)) (fI 197 (by omega)) (fI 198 (by omega)) (fI 199 (by omega))
    · rw [fI 0 (by omega), fI 189 (by omega)]; exact h12
  · refine qs (-1) hn hG ?_ ?_
    · unfold f_X6_keep
      rw [g_win_n ha (by decide), cl_s, if0]
    · unfold f_X7_keep
      rw [g7_win_n ha (by decide), cl_s, if0]
theorem op_back : Op1 f_X6_back f_X7_back Good := by
  intro n s a hn hG
  obtain ⟨-, nl, ns, g, hG⟩ := hG
  have hnl := hG.2.1.1
  have hns := hG.2.1.2.1
  rcases rng a (1 + 1) with ⟨k, hk, hk2, rfl⟩ | ha
  · obtain ⟨m1, m2, m3, m4, m5⟩ := im_a k hk
    have e14 : 143 + 19 * k + 14 = 157 + 19 * k := by omega
    have e1 : 143 + 19 * k + 1 = 144 + 19 * k := by omega
    rcases hG.2.2.2.2.2.2.2.2.1 k hk with ⟨x1, x2⟩ | ⟨x1, x2, h, b1, b2, b3, b4, b5, b6⟩
    · refine qs (-2) hn hG ?_ ?_
      · unfold f_X6_back
        rw [g_win (by omega) (by decide), cl_s, if1, if_pos m1, bd_s, nI_clamp hk2, if_pos m2, x1, if0]
      · unfold f_X7_back
        rw [g7_win (by omega) (by decide), cl_s, if1, if_pos m5, nI_clamp hk2, x2, if0]
    · obtain ⟨s1, a1, a2, a3⟩ := b_copyOf (s := s) (r := 1) (a := 144 + 19 * k) isR1 m3 (by omega) hnl hns b1
      obtain ⟨s2, c1, c2, c3⟩ := b_copyS (s := s1) (r := 27) (a := 157 + 19 * k) (g := h) isS27 m4 (by omega) b4.1 (b2.sm a3 (by omega))
      have fr : ∀ j, ¬ (1 ≤ j ∧ j ≤ 31) → s2.1 j = s.1 j := fun j hj => by rw [c3.1 j (by omega), a3.1 j (by omega)]
      obtain ⟨s3, d1, d2, d3, d4⟩ := b7_copies (s := s2) (a := 0) (b := 131 * (k + 1)) (by omega) (by omega) (by omega)
      have e190 : s2.1 190 = s.1 190 := fr 190 (by omega)
      have g190 : ∀ j, j < 131 → s3.1 190 j = nI (h j) := fun j hj => by
        have := d2 j hj
        rw [Nat.zero_add, e190] at this
        rw [this]; exact b6 j hj
      have hR2 : RR s2 1 nl ns h := a2.sm c3 (by omega)
      refine ⟨nI (h 42), s2, s3, ?_, ?_, upg hn hG hR2 c2 (fun j q1 q2 => fr j (by omega)) (fun j q1 q2 q3 q4 => d4 j q1) g190 (fun j hj => d3 j (by omega)) (wf_T b3 (by omega) (by omega)) b5 b4⟩
      · unfold f_X6_back
        rw [g_win (by omega) (by decide), cl_s, if1, if_pos m1, bd_s, nI_clamp hk2, if_pos m2, x1, if1, e14, e1, a1, cl_s, c1, cl_s, (R1 hR2).2.2.1]
      · unfold f_X7_back
        rw [g7_win (by omega) (by decide), cl_s, if1, if_pos m5, nI_clamp hk2, fr 192 (by omega), x2, if1, nI_add, pk_mul, d1, cl_s, if_pos (ib190 (by decide)), nI_clamp (by decide), g190 42 (by decide)]
  · refine qs (-1) hn hG ?_ ?_
    · unfold f_X6_back
      rw [g_win_n ha (by decide), cl_s, if0]
    · unfold f_X7_back
      rw [g7_win_n ha (by decide), cl_s, if0]

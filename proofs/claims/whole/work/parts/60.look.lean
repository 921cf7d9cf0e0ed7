/-! the questions that look, and what is changed by hand -/
theorem R1 {s : St} {nl ns : Nat} {g : Nat → Nat} (h : RR s 1 nl ns g) : s.1 1 0 = nI nl ∧ s.1 1 1 = nI ns ∧ s.1 1 2 = nI (g 42) ∧
  (∀ l, l < nl → s.1 2 l = nI (g (4 * l)) ∧ s.1 3 l = nI (g (4 * l + 1)) ∧ s.1 4 l = nI (g (4 * l + 2)) ∧ s.1 5 l = nI (g (4 * l + 3))) ∧
  (∀ l, l < 3 → s.1 6 l = nI (g (103 + l)) ∧ s.1 7 l = nI (al g l)) ∧
  (∀ j, j < 60 → s.1 8 j = nI (g (43 + j))) ∧
  (∀ i, i < ns → s.1 9 i = nI (g (12 + 2 * i)) ∧ s.1 10 i = nI (g (13 + 2 * i))) ∧
  (∀ j, j < 12 → s.1 11 j = nI (g (20 + j))) ∧
  (∀ k, k < 6 → s.1 12 k = nI (g (32 + k))) ∧
  (∀ y, y < 4 → s.1 13 y = nI (g (38 + y))) := h
theorem ne_n {a : Int32} {N k : Nat} (h : ¬ (0 ≤ a.toInt ∧ a.toInt < N)) (hk : k < N) (hk2 : k < 2 ^ 31) : ¬ a = nI k := by
  intro e
  subst e
  rw [nI_toInt hk2] at h
  omega
theorem ib3 {k e : Nat} (hk : lnI k = 3) (h : e < 3) : inb (nI e) (lnI k) = true := by rw [hk]; exact inb_t h (by decide)
theorem ib4 {k e : Nat} (hk : lnI k = 4) (h : e < 4) : inb (nI e) (lnI k) = true := by rw [hk]; exact inb_t h (by decide)
theorem ib6 {k e : Nat} (hk : lnI k = 6) (h : e < 6) : inb (nI e) (lnI k) = true := by rw [hk]; exact inb_t h (by decide)
theorem op_fault : Op0 f_X6_fault f_X7_fault Good := by
  intro n s hn hG
  obtain ⟨-, nl, ns, g, hG⟩ := hG
  obtain ⟨len, -, -, -, -, e⟩ := hG.2.2.2.2.2.2.2.2.2.1
  exact ⟨_, s, s, rfl, by unfold f_X7_fault; rw [e], by omega, nl, ns, g, hG.mono (by omega)⟩
theorem op_torn : Op0 f_X6_torn f_X7_torn Good := by
  intro n s hn hG
  obtain ⟨-, nl, ns, g, hG⟩ := hG
  exact ⟨_, s, s, rfl, by unfold f_X7_torn; rw [hG.2.2.2.2.2.2.2.2.2.2.2], by omega, nl, ns, g, hG.mono (by omega)⟩
theorem op_air : Op1 f_X6_air f_X7_air Good := by
  intro n s a hn hG
  obtain ⟨-, nl, ns, g, hG⟩ := hG
  rcases rng a (5 + 1) with ⟨k, hk, hk2, rfl⟩ | ha
  · refine qy (nI (g (32 + k))) hn hG ⟨s, ?_, Qf.rf⟩ (fun s' h' => ⟨s', ?_, Qf.rf⟩)
    · unfold f_X6_air
      rw [g_win (by omega) (by decide), cl_s, if1', if_pos (ib6 (by decide) hk), nI_clamp hk2, (R1 hG.1).2.2.2.2.2.2.2.2.1 k hk]
    · unfold f_X7_air
      rw [g7_win (by omega) (by decide), cl_s, if1', nI_add, if_pos (ib190 (by omega)), nI_clamp (by omega), h'.2.2.2.2.2.2.2.1 _ (by omega)]
  · refine qy (-1) hn hG ⟨s, ?_, Qf.rf⟩ (fun s' h' => ⟨s', ?_, Qf.rf⟩)
    · unfold f_X6_air
      rw [g_win_n ha (by decide), cl_s, if0']
    · unfold f_X7_air
      rw [g7_win_n ha (by decide), cl_s, if0']
theorem op_has : Op2 f_X6_has f_X7_has Good := by
  intro n s a b hn hG
  obtain ⟨-, nl, ns, g, hG⟩ := hG
  have hnl := hG.2.1.1
  have hns := hG.2.1.2.1
  rcases rng a ns with ⟨i, hi, hi2, rfl⟩ | ha
  · rcases rng b nl with ⟨l, hl, hl2, rfl⟩ | hb
    · refine qy (nI (g (20 + 3 * i + l))) hn hG ⟨s, ?_, Qf.rf⟩ (fun s' h' => ⟨s', ?_, Qf.rf⟩)
      · unfold f_X6_has
        rw [g_sit isR1 hG.1 hns hi, cl_s, if1', g_life isR1 hG.1 hnl hl, cl_s, if1', b_held isR1 hG.1 (by omega) (by omega), cl_s]
      · unfold f_X7_has
        rw [g7_sit h'.2.2.2.2.2.2.1 hns hi, cl_s, if1', g7_life h'.2.2.2.2.2.1 hnl hl, cl_s, if1']
        simp only [pk_mul, nI_add]
        rw [if_pos (ib190 (by omega)), nI_clamp (by omega), h'.2.2.2.2.2.2.2.1 _ (by omega)]
    · refine qy (-1) hn hG ⟨s, ?_, Qf.rf⟩ (fun s' h' => ⟨s', ?_, Qf.rf⟩)
      · unfold f_X6_has
        rw [g_sit isR1 hG.1 hns hi, cl_s, if1', g_life_n isR1 hG.1 hnl hb, cl_s, if0']
      · unfold f_X7_has
        rw [g7_sit h'.2.2.2.2.2.2.1 hns hi, cl_s, if1', g7_life_n h'.2.2.2.2.2.1 hnl hb, cl_s, if0']
  · refine qy (-1) hn hG ⟨s, ?_, Qf.rf⟩ (fun s' h' => ⟨s', ?_, Qf.rf⟩)
    · unfold f_X6_has
      rw [g_sit_n isR1 hG.1 hns ha, cl_s, if0']
    · unfold f_X7_has
      rw [g7_sit_n h'.2.2.2.2.2.2.1 hns ha, cl_s, if0']
theorem op_in : Op2 f_X6_in f_X7_in Good := by
  intro n s a b hn hG
  obtain ⟨-, nl, ns, g, hG⟩ := hG
  have hnl := hG.2.1.1
  rcases cellC a with ⟨c, hc, hc2, rfl⟩ | ha
  · rcases rng b nl with ⟨l, hl, hl2, rfl⟩ | hb
    · refine qy (nI (g (43 + 20 * l + (4 * (c / 10) + c % 10)))) hn hG ⟨s, ?_, Qf.rf⟩ (fun s' h' => ⟨s', ?_, Qf.rf⟩)
      · unfold f_X6_in
        rw [b_cellOf hc hc2, cl_s, if_neg (nI_pos (by omega)), g_life isR1 hG.1 hnl hl, cl_s, if1']
        simp only [pk_mul, nI_add]
        rw [show lnI 8 = 60 by decide, if_pos (inb_t (by omega) (by decide)), nI_clamp (by omega), (R1 hG.1).2.2.2.2.2.1 _ (by omega), show 43 + (l * 20 + (4 * (c / 10) + c % 10)) = 43 + 20 * l + (4 * (c / 10) + c % 10) by omega]
      · unfold f_X7_in
        rw [b7_isCell hc hc2, cl_s, if1', g7_life h'.2.2.2.2.2.1 hnl hl, cl_s, if1', b7_cellOf hc, cl_s]
        simp only [pk_mul, nI_add]
        rw [if_pos (ib190 (by omega)), nI_clamp (by omega), h'.2.2.2.2.2.2.2.1 _ (by omega)]
    · refine qy (-1) hn hG ⟨s, ?_, Qf.rf⟩ (fun s' h' => ⟨s', ?_, Qf.rf⟩)
      · unfold f_X6_in
        rw [b_cellOf hc hc2, cl_s, if_neg (nI_pos (by omega)), g_life_n isR1 hG.1 hnl hb, cl_s, if0']
      · unfold f_X7_in
        rw [b7_isCell hc hc2, cl_s, if1', g7_life_n h'.2.2.2.2.2.1 hnl hb, cl_s, if0']
  · refine qy (-1) hn hG ⟨s, ?_, Qf.rf⟩ (fun s' h' => ⟨s', ?_, Qf.rf⟩)
    · unfold f_X6_in
      rw [b_cellOf_n ha, cl_s, if_pos (by decide)]
    · unfold f_X7_in
      rw [b7_isCell_n ha, cl_s, if0']
theorem op_rule : Op1 f_X6_rule f_X7_rule Good := by
  intro n s a hn hG
  obtain ⟨-, nl, ns, g, hG⟩ := hG
  have hnl := hG.2.1.1
  have hns := hG.2.1.2.1
  rcases rng a 6 with ⟨k, hk, hk2, rfl⟩ | ha
  · rcases (show k = 0 ∨ k = 1 ∨ k = 2 ∨ k = 3 ∨ k = 4 ∨ k = 5 by omega) with rfl | rfl | rfl | rfl | rfl | rfl
    · refine qy (nI nl) hn hG ⟨s, ?_, Qf.rf⟩ (fun s' h' => ?_)
      · unfold f_X6_rule
        rw [if_pos (by first | rfl | trivial), (R1 hG.1).1]
      · obtain ⟨s2, e1, e2, e3⟩ := b7_starts h'.2.2.2.2.2.1 h'.2.2.2.2.2.2.1 h'.2.2.2.2.2.2.2.1
        refine ⟨s2, ?_, e3.qf⟩
        unfold f_X7_rule
        rw [e1, cl_s, if_pos (by first | rfl | trivial), e2.1]
    · refine qy (nI ns) hn hG ⟨s, ?_, Qf.rf⟩ (fun s' h' => ?_)
      · unfold f_X6_rule
        rw [if_neg (by decide), if_pos (by first | rfl | trivial), (R1 hG.1).2.1]
      · obtain ⟨s2, e1, e2, e3⟩ := b7_starts h'.2.2.2.2.2.1 h'.2.2.2.2.2.2.1 h'.2.2.2.2.2.2.2.1
        refine ⟨s2, ?_, e3.qf⟩
        unfold f_X7_rule
        rw [e1, cl_s, if_neg (by decide), if_pos (by first | rfl | trivial), e2.2.1]
    · refine qy (nI (g 42)) hn hG ⟨s, ?_, Qf.rf⟩ (fun s' h' => ?_)
      · unfold f_X6_rule
        rw [if_neg (by decide), if_neg (by decide), if_pos (by first | rfl | trivial), (R1 hG.1).2.2.1]
      · obtain ⟨s2, e1, e2, e3⟩ := b7_starts h'.2.2.2.2.2.1 h'.2.2.2.2.2.2.1 h'.2.2.2.2.2.2.2.1
        refine ⟨s2, ?_, e3.qf⟩
        unfold f_X7_rule
        rw [e1, cl_s, if_neg (by decide), if_neg (by decide), if_pos (by first | rfl | trivial), if_pos (ib190 (by decide)), nI_clamp (by decide), (h'.qf e3.qf).2.2.2.2.2.2.2.1 _ (by decide)]
    · refine qy (nI (sm (al g) 3)) hn hG ⟨s, ?_, Qf.rf⟩ (fun s' h' => ?_)
      · unfold f_X6_rule
        rw [if_neg (by decide), if_neg (by decide), if_neg (by decide), if_pos (by first | rfl | trivial), b_sumOfLives isR1 hG.1 hnl (by decide) (f := al g) (fun l hl => ((R1 hG.1).2.2.2.2.1 l (by omega)).2), cl_s, wf_sal hG.2.1]
      · obtain ⟨s2, e1, e2, e3⟩ := b7_starts h'.2.2.2.2.2.1 h'.2.2.2.2.2.2.1 h'.2.2.2.2.2.2.2.1
        refine ⟨s2, ?_, e3.qf⟩
        unfold f_X7_rule
        rw [e1, cl_s, if_neg (by decide), if_neg (by decide), if_neg (by decide), if_pos (by first | rfl | trivial), b7_allIn e2, cl_s]
    · refine qy (nI (sm (fun l => g (103 + l)) 3)) hn hG ⟨s, ?_, Qf.rf⟩ (fun s' h' => ?_)
      · unfold f_X6_rule
        rw [if_neg (by decide), if_neg (by decide), if_neg (by decide), if_neg (by decide), if_pos (by first | rfl | trivial), b_sumOfLives isR1 hG.1 hnl (by decide) (f := fun l => g (103 + l)) (fun l hl => ((R1 hG.1).2.2.2.2.1 l (by omega)).1), cl_s, wf_slo hG.2.1]
      · obtain ⟨s2, e1, e2, e3⟩ := b7_starts h'.2.2.2.2.2.1 h'.2.2.2.2.2.2.1 h'.2.2.2.2.2.2.2.1
        refine ⟨s2, ?_, e3.qf⟩
        unfold f_X7_rule
        rw [e1, cl_s, if_neg (by decide), if_neg (by decide), if_neg (by decide), if_neg (by decide), if_pos (by first | rfl | trivial), b7_allLost e2, cl_s]
    · refine qy (nI (sm (hd g) 3)) hn hG ⟨s, ?_, Qf.rf⟩ (fun s' h' => ?_)
      · unfold f_X6_rule
        rw [if_neg (by decide), if_neg (by decide), if_neg (by decide), if_neg (by decide), if_neg (by decide), if_pos (by first | rfl | trivial), b_heldByAll isR1 hG.1 hnl hns, cl_s, wf_sha hG.2.1]
      · obtain ⟨s2, e1, e2, e3⟩ := b7_starts h'.2.2.2.2.2.1 h'.2.2.2.2.2.2.1 h'.2.2.2.2.2.2.2.1
        refine ⟨s2, ?_, e3.qf⟩
        unfold f_X7_rule
        rw [e1, cl_s, if_neg (by decide), if_neg (by decide), if_neg (by decide), if_neg (by decide), if_neg (by decide), if_pos (by first | rfl | trivial), b7_allHad e2, cl_s]
  · refine qy (-1) hn hG ⟨s, ?_, Qf.rf⟩ (fun s' h' => ?_)
    · unfold f_X6_rule
      rw [if_neg (ne_n ha (k := 0) (by decide) (by decide)), if_neg (ne_n ha (k := 1) (by decide) (by decide)), if_neg (ne_n ha (k := 2) (by decide) (by decide)), if_neg (ne_n ha (k := 3) (by decide) (by decide)), if_neg (ne_n ha (k := 4) (by decide) (by decide)), if_neg (ne_n ha (k := 5) (by decide) (by decide)), if_pos (by omega)]
    · obtain ⟨s2, e1, e2, e3⟩ := b7_starts h'.2.2.2.2.2.1 h'.2.2.2.2.2.2.1 h'.2.2.2.2.2.2.2.1
      refine ⟨s2, ?_, e3.qf⟩
      unfold f_X7_rule
      rw [e1, cl_s, if_neg (ne_n ha (k := 0) (by decide) (by decide)), if_neg (ne_n ha (k := 1) (by decide) (by decide)), if_neg (ne_n ha (k := 2) (by decide) (by decide)), if_neg (ne_n ha (k := 3) (by decide) (by decide)), if_neg (ne_n ha (k := 4) (by decide) (by decide)), if_neg (ne_n ha (k := 5) (by decide) (by decide)), if_pos (by omega)]
theorem b7_asTold0 {w x : Int32} (h : ¬ w = nI 1) (s : St) : f_X7_asTold w x s = some (x, s) := by
  unfold f_X7_asTold
  rw [if_pos h]
theorem b7_asTold1 {c : Nat} (h : c < 2 ^ 31) (s : St) : f_X7_asTold (nI 1) (nI c) s = some (nI (nm c), s) := by
  unfold f_X7_asTold
  rw [if_neg (fun q => q rfl), b7_nameOf h, cl_s]
theorem op_life : Op2 f_X6_life f_X7_life Good := by
  intro n s a b hn hG
  obtain ⟨-, nl, ns, g, hG⟩ := hG
  have hnl := hG.2.1.1
  have hns := hG.2.1.2.1
  rcases rng a nl with ⟨l, hl, hl2, rfl⟩ | ha
  · have hl3 : l < 3 := by omega
    have hq := hG.2.1.2.2.2.1 l hl
    rcases rng b 7 with ⟨k, hk, hk2, rfl⟩ | hb
    · rcases (show k = 0 ∨ k = 1 ∨ k = 2 ∨ k = 3 ∨ k = 4 ∨ k = 5 ∨ k = 6 by omega) with rfl | rfl | rfl | rfl | rfl | rfl | rfl
      · refine qy (nI (g (4 * l))) hn hG ⟨s, ?_, Qf.rf⟩ (fun s' h' => ?_)
        · unfold f_X6_life
          rw [g_life isR1 hG.1 hnl hl, cl_s, if1, if_pos (by first | rfl | trivial), if_pos (ib3 (by decide) hl3), nI_clamp hl2, ((R1 hG.1).2.2.2.1 l hl).1]
        · obtain ⟨s2, e1, e2, e3⟩ := b7_starts h'.2.2.2.2.2.1 h'.2.2.2.2.2.2.1 h'.2.2.2.2.2.2.2.1
          refine ⟨s2, ?_, e3.qf⟩
          unfold f_X7_life
          rw [g7_life h'.2.2.2.2.2.1 hnl hl, cl_s, if1, e1, cl_s, if_pos (by first | rfl | trivial), pk_mul, nI_add, if_pos (ib190 (by omega)), nI_clamp (by omega), (h'.qf e3.qf).2.2.2.2.2.2.2.1 _ (by omega), Nat.add_zero, b7_asTold0 (by decide), cl_s]
      · refine qy (nI (nm (g (4 * l + 1)))) hn hG ⟨s, ?_, Qf.rf⟩ (fun s' h' => ?_)
        · unfold f_X6_life
          rw [g_life isR1 hG.1 hnl hl, cl_s, if1, if_neg (by decide), if_pos (by first | rfl | trivial), if_pos (ib3 (by decide) hl3), nI_clamp hl2, ((R1 hG.1).2.2.2.1 l hl).2.1, b_nameOf (by omega), cl_s]
        · obtain ⟨s2, e1, e2, e3⟩ := b7_starts h'.2.2.2.2.2.1 h'.2.2.2.2.2.2.1 h'.2.2.2.2.2.2.2.1
          refine ⟨s2, ?_, e3.qf⟩
          unfold f_X7_life
          rw [g7_life h'.2.2.2.2.2.1 hnl hl, cl_s, if1, e1, cl_s, if_neg (by decide), if_pos (by first | rfl | trivial), pk_mul, nI_add, if_pos (ib190 (by omega)), nI_clamp (by omega), (h'.qf e3.qf).2.2.2.2.2.2.2.1 _ (by omega), b7_asTold1 (by omega), cl_s]
      · refine qy (nI (g (4 * l + 2))) hn hG ⟨s, ?_, Qf.rf⟩ (fun s' h' => ?_)
        · unfold f_X6_life
          rw [g_life isR1 hG.1 hnl hl, cl_s, if1, if_neg (by decide), if_neg (by decide), if_pos (by first | rfl | trivial), if_pos (ib3 (by decide) hl3), nI_clamp hl2, ((R1 hG.1).2.2.2.1 l hl).2.2.1]
        · obtain ⟨s2, e1, e2, e3⟩ := b7_starts h'.2.2.2.2.2.1 h'.2.2.2.2.2.2.1 h'.2.2.2.2.2.2.2.1
          refine ⟨s2, ?_, e3.qf⟩
          unfold f_X7_life
          rw [g7_life h'.2.2.2.2.2.1 hnl hl, cl_s, if1, e1, cl_s, if_neg (by decide), if_neg (by decide), if_pos (by first | rfl | trivial), pk_mul, nI_add, if_pos (ib190 (by omega)), nI_clamp (by omega), (h'.qf e3.qf).2.2.2.2.2.2.2.1 _ (by omega), b7_asTold0 (by decide), cl_s]
      · refine qy (nI (g (4 * l + 3))) hn hG ⟨s, ?_, Qf.rf⟩ (fun s' h' => ?_)
        · unfold f_X6_life
          rw [g_life isR1 hG.1 hnl hl, cl_s, if1, if_neg (by decide), if_neg (by decide), if_neg (by decide), if_pos (by first | rfl | trivial), if_pos (ib3 (by decide) hl3), nI_clamp hl2, ((R1 hG.1).2.2.2.1 l hl).2.2.2]
        · obtain ⟨s2, e1, e2, e3⟩ := b7_starts h'.2.2.2.2.2.1 h'.2.2.2.2.2.2.1 h'.2.2.2.2.2.2.2.1
          refine ⟨s2, ?_, e3.qf⟩
          unfold f_X7_life
          rw [g7_life h'.2.2.2.2.2.1 hnl hl, cl_s, if1, e1, cl_s, if_neg (by decide), if_neg (by decide), if_neg (by decide), if_pos (by first | rfl | trivial), pk_mul, nI_add, if_pos (ib190 (by omega)), nI_clamp (by omega), (h'.qf e3.qf).2.2.2.2.2.2.2.1 _ (by omega), b7_asTold0 (by decide), cl_s]
      · refine qy (nI (al g l)) hn hG ⟨s, ?_, Qf.rf⟩ (fun s' h' => ?_)
        · unfold f_X6_life
          rw [g_life isR1 hG.1 hnl hl, cl_s, if1, if_neg (by decide), if_neg (by decide), if_neg (by decide), if_neg (by decide), if_pos (by first | rfl | trivial), if_pos (ib3 (by decide) hl3), nI_clamp hl2, ((R1 hG.1).2.2.2.2.1 l hl3).2]
        · obtain ⟨s2, e1, e2, e3⟩ := b7_starts h'.2.2.2.2.2.1 h'.2.2.2.2.2.2.1 h'.2.2.2.2.2.2.2.1
          refine ⟨s2, ?_, e3.qf⟩
          unfold f_X7_life
          rw [g7_life h'.2.2.2.2.2.1 hnl hl, cl_s, if1, e1, cl_s, if_neg (by decide), if_neg (by decide), if_neg (by decide), if_neg (by decide), if_pos (by first | rfl | trivial), b7_inRoom e2 hl3, cl_s]
      · refine qy (nI (g (103 + l))) hn hG ⟨s, ?_, Qf.rf⟩ (fun s' h' => ?_)
        · unfold f_X6_life
          rw [g_life isR1 hG.1 hnl hl, cl_s, if1, if_neg (by decide), if_neg (by decide), if_neg (by decide), if_neg (by decide), if_neg (by decide), if_pos (by first | rfl | trivial), if_pos (ib3 (by decide) hl3), nI_clamp hl2, ((R1 hG.1).2.2.2.2.1 l hl3).1]
        · obtain ⟨s2, e1, e2, e3⟩ := b7_starts h'.2.2.2.2.2.1 h'.2.2.2.2.2.2.1 h'.2.2.2.2.2.2.2.1
          refine ⟨s2, ?_, e3.qf⟩
          unfold f_X7_life
          rw [g7_life h'.2.2.2.2.2.1 hnl hl, cl_s, if1, e1, cl_s, if_neg (by decide), if_neg (by decide), if_neg (by decide), if_neg (by decide), if_neg (by decide), if_pos (by first | rfl | trivial), nI_add, if_pos (ib190 (by omega)), nI_clamp (by omega), (h'.qf e3.qf).2.2.2.2.2.2.2.1 _ (by omega)]
      · refine qy (nI (hd g l)) hn hG ⟨s, ?_, Qf.rf⟩ (fun s' h' => ?_)
        · unfold f_X6_life
          rw [g_life isR1 hG.1 hnl hl, cl_s, if1, if_neg (by decide), if_neg (by decide), if_neg (by decide), if_neg (by decide), if_neg (by decide), if_neg (by decide), if_pos (by first | rfl | trivial), b_heldOf isR1 hG.1 hns hl3, cl_s, wf_sho hG.2.1 hl3]
        · obtain ⟨s2, e1, e2, e3⟩ := b7_starts h'.2.2.2.2.2.1 h'.2.2.2.2.2.2.1 h'.2.2.2.2.2.2.2.1
          refine ⟨s2, ?_, e3.qf⟩
          unfold f_X7_life
          rw [g7_life h'.2.2.2.2.2.1 hnl hl, cl_s, if1, e1, cl_s, if_neg (by decide), if_neg (by decide), if_neg (by decide), if_neg (by decide), if_neg (by decide), if_neg (by decide), if_pos (by first | rfl | trivial), b7_hadOf e2 hl3, cl_s]
    · refine qy (-1) hn hG ⟨s, ?_, Qf.rf⟩ (fun s' h' => ?_)
      · unfold f_X6_life
        rw [g_life isR1 hG.1 hnl hl, cl_s, if1, if_neg (ne_n hb (k := 0) (by decide) (by decide)), if_neg (ne_n hb (k := 1) (by decide) (by decide)), if_neg (ne_n hb (k := 2) (by decide) (by decide)), if_neg (ne_n hb (k := 3) (by decide) (by decide)), if_neg (ne_n hb (k := 4) (by decide) (by decide)), if_neg (ne_n hb (k := 5) (by decide) (by decide)), if_neg (ne_n hb (k := 6) (by decide) (by decide)), if_pos (by omega)]
      · obtain ⟨s2, e1, e2, e3⟩ := b7_starts h'.2.2.2.2.2.1 h'.2.2.2.2.2.2.1 h'.2.2.2.2.2.2.2.1
        refine ⟨s2, ?_, e3.qf⟩
        unfold f_X7_life
        rw [g7_life h'.2.2.2.2.2.1 hnl hl, cl_s, if1, e1, cl_s, if_neg (ne_n hb (k := 0) (by decide) (by decide)), if_neg (ne_n hb (k := 1) (by decide) (by decide)), if_neg (ne_n hb (k := 2) (by decide) (by decide)), if_neg (ne_n hb (k := 3) (by decide) (by decide)), if_neg (ne_n hb (k := 4) (by decide) (by decide)), if_neg (ne_n hb (k := 5) (by decide) (by decide)), if_neg (ne_n hb (k := 6) (by decide) (by decide)), if_pos (by omega)]
  · refine qy (-1) hn hG ⟨s, ?_, Qf.rf⟩ (fun s' h' => ⟨s', ?_, Qf.rf⟩)
    · unfold f_X6_life
      rw [g_life_n isR1 hG.1 hnl ha, cl_s, if0]
    · unfold f_X7_life
      rw [g7_life_n h'.2.2.2.2.2.1 hnl ha, cl_s, if0]
theorem op_sitter : Op2 f_X6_sitter f_X7_sitter Good := by
  intro n s a b hn hG
  obtain ⟨-, nl, ns, g, hG⟩ := hG
  have hnl := hG.2.1.1
  have hns := hG.2.1.2.1
  rcases rng a ns with ⟨l, hl, hl2, rfl⟩ | ha
  · have hl4 : l < 4 := by omega
    have hq := hG.2.1.2.2.2.2.1 l hl
    rcases rng b 4 with ⟨k, hk, hk2, rfl⟩ | hb
    · rcases (show k = 0 ∨ k = 1 ∨ k = 2 ∨ k = 3 by omega) with rfl | rfl | rfl | rfl
      · refine qy (nI (nm (g (12 + 2 * l)))) hn hG ⟨s, ?_, Qf.rf⟩ (fun s' h' => ?_)
        · unfold f_X6_sitter
          rw [g_sit isR1 hG.1 hns hl, cl_s, if1, if_pos (by first | rfl | trivial), if_pos (ib4 (by decide) hl4), nI_clamp hl2, ((R1 hG.1).2.2.2.2.2.2.1 l hl).1, b_nameOf (by omega), cl_s]
        · obtain ⟨s2, e1, e2, e3⟩ := b7_starts h'.2.2.2.2.2.1 h'.2.2.2.2.2.2.1 h'.2.2.2.2.2.2.2.1
          refine ⟨s2, ?_, e3.qf⟩
          unfold f_X7_sitter
          simp only [pk_mul, nI_add]
          rw [g7_sit h'.2.2.2.2.2.2.1 hns hl, cl_s, if1, e1, cl_s, if_pos (ib190 (by omega)), bd_s, nI_clamp (by omega), (h'.qf e3.qf).2.2.2.2.2.2.2.1 _ (by omega), if_pos (by first | rfl | trivial), b7_nameOf (by omega), cl_s]
      · refine qy (nI (g (12 + 2 * l + 1))) hn hG ⟨s, ?_, Qf.rf⟩ (fun s' h' => ?_)
        · unfold f_X6_sitter
          rw [g_sit isR1 hG.1 hns hl, cl_s, if1, if_neg (by decide), if_pos (by first | rfl | trivial), if_pos (ib4 (by decide) hl4), nI_clamp hl2, ((R1 hG.1).2.2.2.2.2.2.1 l hl).2, show 12 + 2 * l + 1 = 13 + 2 * l by omega]
        · obtain ⟨s2, e1, e2, e3⟩ := b7_starts h'.2.2.2.2.2.1 h'.2.2.2.2.2.2.1 h'.2.2.2.2.2.2.2.1
          refine ⟨s2, ?_, e3.qf⟩
          unfold f_X7_sitter
          simp only [pk_mul, nI_add]
          rw [g7_sit h'.2.2.2.2.2.2.1 hns hl, cl_s, if1, e1, cl_s, if_pos (ib190 (by omega)), bd_s, nI_clamp (by omega), (h'.qf e3.qf).2.2.2.2.2.2.2.1 _ (by omega), if_neg (by decide), if_pos (by first | rfl | trivial), if_pos (ib190 (by omega)), nI_clamp (by omega), (h'.qf e3.qf).2.2.2.2.2.2.2.1 _ (by omega)]
      · refine qy (nI (sm (fun k => g (20 + 3 * l + k)) 3)) hn hG ⟨s, ?_, Qf.rf⟩ (fun s' h' => ?_)
        · unfold f_X6_sitter
          rw [g_sit isR1 hG.1 hns hl, cl_s, if1, if_neg (by decide), if_neg (by decide), if_pos (by first | rfl | trivial), b_heldBy isR1 hG.1 hnl hl4, cl_s, wf_shb hG.2.1 hl4]
        · obtain ⟨s2, e1, e2, e3⟩ := b7_starts h'.2.2.2.2.2.1 h'.2.2.2.2.2.2.1 h'.2.2.2.2.2.2.2.1
          refine ⟨s2, ?_, e3.qf⟩
          unfold f_X7_sitter
          simp only [pk_mul, nI_add]
          rw [g7_sit h'.2.2.2.2.2.2.1 hns hl, cl_s, if1, e1, cl_s, if_pos (ib190 (by omega)), bd_s, nI_clamp (by omega), (h'.qf e3.qf).2.2.2.2.2.2.2.1 _ (by omega), if_neg (by decide), if_neg (by decide), if_pos (by first | rfl | trivial), b7_hadBy e2 hl4, cl_s]
      · refine qy (nI (g (38 + g (12 + 2 * l) % 4))) hn hG ⟨s, ?_, Qf.rf⟩ (fun s' h' => ?_)
        · unfold f_X6_sitter
          rw [g_sit isR1 hG.1 hns hl, cl_s, if1, if_neg (by decide), if_neg (by decide), if_neg (by decide), if_pos (by first | rfl | trivial), if_pos (ib4 (by decide) hl4), nI_clamp hl2, ((R1 hG.1).2.2.2.2.2.2.1 l hl).1, b_rowOf (by omega), cl_s, if_pos (ib4 (by decide) (by omega)), nI_clamp (by omega), (R1 hG.1).2.2.2.2.2.2.2.2.2 _ (by omega)]
        · obtain ⟨s2, e1, e2, e3⟩ := b7_starts h'.2.2.2.2.2.1 h'.2.2.2.2.2.2.1 h'.2.2.2.2.2.2.2.1
          refine ⟨s2, ?_, e3.qf⟩
          unfold f_X7_sitter
          simp only [pk_mul, nI_add]
          rw [g7_sit h'.2.2.2.2.2.2.1 hns hl, cl_s, if1, e1, cl_s, if_pos (ib190 (by omega)), bd_s, nI_clamp (by omega), (h'.qf e3.qf).2.2.2.2.2.2.2.1 _ (by omega), if_neg (by decide), if_neg (by decide), if_neg (by decide), if_pos (by first | rfl | trivial), pk_rem (by omega) (by decide) (by decide), nI_add, if_pos (ib190 (by omega)), nI_clamp (by omega), (h'.qf e3.qf).2.2.2.2.2.2.2.1 _ (by omega)]
    · refine qy (-1) hn hG ⟨s, ?_, Qf.rf⟩ (fun s' h' => ?_)
      · unfold f_X6_sitter
        rw [g_sit isR1 hG.1 hns hl, cl_s, if1, if_neg (ne_n hb (k := 0) (by decide) (by decide)), if_neg (ne_n hb (k := 1) (by decide) (by decide)), if_neg (ne_n hb (k := 2) (by decide) (by decide)), if_neg (ne_n hb (k := 3) (by decide) (by decide)), if_pos (by omega)]
      · obtain ⟨s2, e1, e2, e3⟩ := b7_starts h'.2.2.2.2.2.1 h'.2.2.2.2.2.2.1 h'.2.2.2.2.2.2.2.1
        refine ⟨s2, ?_, e3.qf⟩
        unfold f_X7_sitter
        simp only [pk_mul, nI_add]
        rw [g7_sit h'.2.2.2.2.2.2.1 hns hl, cl_s, if1, e1, cl_s, if_pos (ib190 (by omega)), bd_s, if_neg (ne_n hb (k := 0) (by decide) (by decide)), if_neg (ne_n hb (k := 1) (by decide) (by decide)), if_neg (ne_n hb (k := 2) (by decide) (by decide)), if_neg (ne_n hb (k := 3) (by decide) (by decide)), if_pos (by omega)]
  · refine qy (-1) hn hG ⟨s, ?_, Qf.rf⟩ (fun s' h' => ⟨s', ?_, Qf.rf⟩)
    · unfold f_X6_sitter
      rw [g_sit_n isR1 hG.1 hns ha, cl_s, if0]
    · unfold f_X7_sitter
      rw [g7_sit_n h'.2.2.2.2.2.2.1 hns ha, cl_s, if0]

/-! the start, and the claim -/
theorem sm0z {k : Nat} (h : k ≠ 181 ∧ k ≠ 183 ∧ k ≠ 185 ∧ k ≠ 187 ∧ k ≠ 197) : sM0.1 k = fun _ => 0 := by
  unfold sM0 sX
  rw [wI_1o h.2.2.2.2, wI_1o h.2.2.2.2, wI_1o h.2.2.2.2, wI_1o h.2.2.2.2, wI_1o h.2.2.2.1, wI_1o h.2.2.1, wI_1o h.2.1, wI_1o h.1]
  rfl
theorem sm0s : ∀ k, k < 4 → sM0.1 (181 + 2 * k) 0 = -1 ∧ sM0.1 (181 + 2 * k) 1 = nI 0 ∧ sM0.1 197 k = -4 := by decide
theorem good0 : ∃ s2 s3, f_X7_firstDraft sM0 = some ((), s2) ∧ f_X7_keepDraft s2 = some ((), s3) ∧ Good 0 s3 := by
  obtain ⟨s2, e2, r2, f2, f2b⟩ := r_first sM0
  obtain ⟨s3, e3, k1, k2, k3, k4, k5, k6, k7⟩ := r_keep s2
  have q : ∀ k, ¬ (189 ≤ k ∧ k ≤ 190) → k ≠ 192 → k ≠ 193 → s3.1 k = sM0.1 k := fun k a1 a2 a3 => by rw [k7 k (by omega) (by omega) a2, f2 k (by omega) a3]
  have z : ∀ k j, ¬ (189 ≤ k ∧ k ≤ 190) → k ≠ 192 → k ≠ 193 → (k ≠ 181 ∧ k ≠ 183 ∧ k ≠ 185 ∧ k ≠ 187 ∧ k ≠ 197) → s3.1 k j = nI 0 := fun k j a1 a2 a3 a4 => by rw [q k a1 a2 a3, sm0z a4]; rfl
  have z9 : ∀ j, j ≠ 3 → j ≠ 4 → ¬ (6 ≤ j ∧ j ≤ 9) → s3.1 189 j = nI 0 := fun j a1 a2 a3 => by rw [k5 j a1 a2, f2b j a3, sm0z (by decide)]; rfl
  refine ⟨s2, s3, e2, e3, by decide, 0, 0, fun _ => 0, ?_, wf_T (wd_wf wd0) (by decide) (by decide), by decide, ?_, ⟨by decide, fun k hk => absurd hk (Nat.not_lt_zero _)⟩, ?_, ?_, fun j hj => ?_, fun k hk => Or.inl ⟨?_, k6 k hk⟩, ?_, fun k hk => ⟨Or.inl ⟨?_, ?_⟩, ⟨0, by decide, ?_, ?_⟩, fun i hi => ?_⟩, ?_⟩
  · refine ⟨z 1 0 (by decide) (by decide) (by decide) (by decide), z 1 1 (by decide) (by decide) (by decide) (by decide), z 1 2 (by decide) (by decide) (by decide) (by decide), fun l hl => absurd hl (Nat.not_lt_zero _), fun l hl => ⟨z 6 l (by decide) (by decide) (by decide) (by decide), ?_⟩, fun j hj => z 8 j (by decide) (by decide) (by decide) (by decide), fun l hl => absurd hl (Nat.not_lt_zero _), fun j hj => z 11 j (by decide) (by decide) (by decide) (by decide), fun j hj => z 12 j (by decide) (by decide) (by decide) (by decide), fun j hj => z 13 j (by decide) (by decide) (by decide) (by decide)⟩
    rw [show al (fun _ => 0) l = 0 from sm_zero (fun _ _ => rfl)]
    exact z 7 l (by decide) (by decide) (by decide) (by decide)
  · exact ⟨z 27 0 (by decide) (by decide) (by decide) (by decide), fun k hk => absurd hk (Nat.not_lt_zero _)⟩
  · rw [k3]; exact r2.1
  · rw [k4]; exact r2.2.1
  · rw [k1 j hj]; exact r2.2.2.2.2 j hj
  · exact z _ 0 (by omega) (by omega) (by omega) (by omega)
  · exact ⟨0, by decide, z 33 1 (by decide) (by decide) (by decide) (by decide), z9 11 (by decide) (by decide) (by decide), fun i hi => absurd hi (Nat.not_lt_zero _), by rw [z 33 2 (by decide) (by decide) (by decide) (by decide), z9 16 (by decide) (by decide) (by decide)]⟩
  · rw [q _ (by omega) (by omega) (by omega)]; exact (sm0s k hk).1
  · rw [q 197 (by decide) (by decide) (by decide)]; exact (sm0s k hk).2.2
  · rw [q _ (by omega) (by omega) (by omega)]; exact (sm0s k hk).2.1
  · exact z 198 k (by decide) (by decide) (by decide) (by decide)
  · rw [z (182 + 2 * k) i (by omega) (by omega) (by omega) (by omega), z 199 (40 * k + i) (by decide) (by decide) (by decide) (by decide)]
  · rw [z 0 8 (by decide) (by decide) (by decide) (by decide), z9 26 (by decide) (by decide) (by decide)]
theorem ops_good : Ops Good := ⟨op_feed, op_end, op_text, op_fault, op_rule, op_life, op_sitter, op_has, op_in, op_air, op_alter, op_seat, op_blow, op_price, op_open, op_steps, op_runs, op_ahead, op_wet, op_over, op_best, op_cheap, op_clean, op_need, op_swap, op_fan, op_luck, op_mean, op_see, op_forget, op_kinds, op_froms, op_ask, op_drift, op_keep, op_back, op_sheet, op_lay, op_read, op_torn, op_count⟩
/-- the same, with nothing asked behind the last call -/
def G2 (n : Nat) (s : St) : Prop := 64 < n ∨ Good n s
theorem g2_mono (n : Nat) (s : St) (h : G2 n s) : G2 (n + 1) s := by
  rcases h with h | h
  · exact Or.inl (by omega)
  · rcases Nat.lt_or_ge n 64 with h64 | h64
    · obtain ⟨-, nl, ns, g, hG⟩ := h
      exact Or.inr ⟨by omega, nl, ns, g, hG.mono (by omega)⟩
    · exact Or.inl (by omega)
theorem g2_0 {f g : St → Option (Int32 × St)} (h : Op0 f g Good) : Op0 f g G2 := by
  intro n s  hn hG
  obtain ⟨v, s1, s2, h1, h2, h3⟩ := h n s  hn (hG.resolve_left (by omega))
  exact ⟨v, s1, s2, h1, h2, Or.inr h3⟩
theorem g2_1 {f g : Int32 → St → Option (Int32 × St)} (h : Op1 f g Good) : Op1 f g G2 := by
  intro n s a hn hG
  obtain ⟨v, s1, s2, h1, h2, h3⟩ := h n s a hn (hG.resolve_left (by omega))
  exact ⟨v, s1, s2, h1, h2, Or.inr h3⟩
theorem g2_2 {f g : Int32 → Int32 → St → Option (Int32 × St)} (h : Op2 f g Good) : Op2 f g G2 := by
  intro n s a b hn hG
  obtain ⟨v, s1, s2, h1, h2, h3⟩ := h n s a b hn (hG.resolve_left (by omega))
  exact ⟨v, s1, s2, h1, h2, Or.inr h3⟩
theorem g2_3 {f g : Int32 → Int32 → Int32 → St → Option (Int32 × St)} (h : Op3 f g Good) : Op3 f g G2 := by
  intro n s a b c hn hG
  obtain ⟨v, s1, s2, h1, h2, h3⟩ := h n s a b c hn (hG.resolve_left (by omega))
  exact ⟨v, s1, s2, h1, h2, Or.inr h3⟩
theorem g2_4 {f g : Int32 → Int32 → Int32 → Int32 → St → Option (Int32 × St)} (h : Op4 f g Good) : Op4 f g G2 := by
  intro n s a b c d hn hG
  obtain ⟨v, s1, s2, h1, h2, h3⟩ := h n s a b c d hn (hG.resolve_left (by omega))
  exact ⟨v, s1, s2, h1, h2, Or.inr h3⟩
theorem g2_4L {f g : Int32 → Int32 → Int32 → Int32 → St → Option (Int64 × St)} (h : Op4L f g Good) : Op4L f g G2 := by
  intro n s a b c d hn hG
  obtain ⟨v, s1, s2, h1, h2, h3⟩ := h n s a b c d hn (hG.resolve_left (by omega))
  exact ⟨v, s1, s2, h1, h2, Or.inr h3⟩
theorem ops_g2 : Ops G2 := ⟨g2_1 op_feed, g2_1 op_end, g2_0 op_text, g2_0 op_fault, g2_1 op_rule, g2_2 op_life, g2_2 op_sitter, g2_2 op_has, g2_2 op_in, g2_1 op_air, g2_3 op_alter, g2_3 op_seat, g2_2 op_blow, g2_2 op_price, g2_0 op_open, g2_1 op_steps, g2_2 op_runs, g2_3 op_ahead, g2_2 op_wet, g2_0 op_over, g2_3 op_best, g2_3 op_cheap, g2_3 op_clean, g2_3 op_need, g2_2 op_swap, g2_3 op_fan, g2_4L op_luck, g2_4L op_mean, g2_4 op_see, g2_1 op_forget, g2_1 op_kinds, g2_2 op_froms, g2_2 op_ask, g2_3 op_drift, g2_1 op_keep, g2_1 op_back, g2_3 op_sheet, g2_3 op_lay, g2_4 op_read, g2_0 op_torn, g2_1 op_count⟩

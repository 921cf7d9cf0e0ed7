/-! text: both tell alike -/
theorem k_text {s : St} {b : Nat → Nat} {len : Nat} (hB : RB s b len) : ∃ v s2, f_X7_text s = f_X7_text_J44 v s2 ∧ F7 s s2 ∧ RF s2 v (mLop b len 161 0 0 d0) := by
  have hlen := hB.1
  unfold f_X7_text
  rw [bd_s, bd_s]
  obtain ⟨s1, e1, r1, f1, f2⟩ := r_first (wI (wI s 189 16 (nI 0)) 189 12 (nI 0))
  have F1 : F7 s s1 := by
    refine ⟨fun k h1 h2 => ?_, fun j h1 h2 => ?_⟩
    · rw [f1 k h1 h2, wI_1o h1, wI_1o h1]
    · rw [f2 j h1, wI_ne (by omega), wI_ne (by omega)]
  obtain ⟨s3, e3, f3, n3⟩ := r_takes (p := 0) (hB.f7 F1) (Nat.zero_le _) (by rw [f2 12 (by decide), wI_at]) (by rw [f2 16 (by decide), wI_ne (by decide), wI_at])
  rw [e1, cl_s, e3, cl_s]
  obtain ⟨v, s5, e5, f5, n5⟩ := k_lop (b := b) (len := len) 161 s3 0 0 d0 Fu ((hB.f7 F1).t7 f3) n3 (r1.t7 f3) wd0 (Nat.zero_le _) (by omega) (by decide)
  exact ⟨v, s5, e5, F1.tr (f3.f7.tr f5), n5⟩
theorem mLop_wd {b : Nat → Nat} {len : Nat} {a : Nat × Dr} : ∀ (F p n : Nat) (d : Dr), p ≤ len → WD d → mLop b len F p n d = Sum.inr a → WD a.2
  | 0, _, _, _, _, _, h => by cases h
  | F + 1, p, n, d, hp, hD, h => by
    unfold mLop at h
    by_cases cb : bad (tok b len p) = true
    · rw [if_pos cb] at h; cases h
    · rw [if_neg cb] at h
      by_cases c0 : (tok b len p).2.1 = 0
      · rw [if_pos c0] at h
        injection h with h
        subst h
        exact hD
      · rw [if_neg c0] at h
        obtain ⟨r, h1, h2⟩ := an_inr h
        obtain ⟨k1, k2, k3⟩ := mLin_r hp hD h1
        exact mLop_wd F r.1 (n + 1) r.2 k2 k3 h2
theorem wd_wf {d : Dr} (h : WD d) : WF d.1 d.2.1 99 d.2.2.1 := by
  obtain ⟨a1, a2, a3, a4, a5, a6, a7, a8, a9⟩ := h
  have ht : ∀ l, l < 3 → tot d.2.2.1 l = d.2.2.1 (4 * l + 3) := fun l hl => by
    unfold tot al hd
    rw [sm_zero (fun c hc => a8 _ (Or.inr (by omega))), sm_zero (fun c hc => a8 _ (by omega)), a8 (103 + l) (by omega), Nat.add_zero, Nat.add_zero, Nat.add_zero]
  refine ⟨a1, a2, by decide, a4, a5, a6, a7, ?_, fun l hl => ?_, fun l h1 h2 => ?_, fun i l h1 h2 h3 => ?_⟩
  · rw [a8 42 (Or.inr (by decide))]; decide
  · rw [ht l hl]
    rcases Nat.lt_or_ge l d.1 with h | h
    · exact (a4 l h).2.2.2.2
    · rw [a9 l h hl]; decide
  · rw [ht l h1]; exact a9 l h2 h1
  · exact a8 _ (Or.inl (by omega))
theorem gd_txt {n nl ns : Nat} {s s2 : St} {g : Nat → Nat} (hG : Gd n s nl ns g) (hF : ∀ k, k ≠ 33 → ¬ (14 ≤ k ∧ k ≤ 26) → k ≠ 189 → k ≠ 193 → s2.1 k = s.1 k) (h189 : ∀ j, ¬ (6 ≤ j ∧ j ≤ 9) → ¬ (11 ≤ j ∧ j ≤ 17) → s2.1 189 j = s.1 189 j) (hT : TP s2) : Gd n s2 nl ns g := by
  obtain ⟨h1, h2, h3, h4, h5, h6, h7, h8, h9, h10, h11, h12⟩ := hG
  have q : ∀ k, k ≤ 13 ∨ (27 ≤ k ∧ k ≤ 32) ∨ (143 ≤ k ∧ k ≤ 188) ∨ k = 190 ∨ k = 192 ∨ (197 ≤ k ∧ k ≤ 199) → s2.1 k = s.1 k := fun k hk => hF k (by omega) (by omega) (by omega) (by omega)
  refine ⟨?_, h2, h3, ?_, h5, by rw [h189 3 (by omega) (by omega)]; exact h6, by rw [h189 4 (by omega) (by omega)]; exact h7, by rw [q 190 (by omega)]; exact h8, fun k hk => ?_, hT, fun k hk => ?_, by rw [q 0 (by omega), h189 26 (by omega) (by omega)]; exact h12⟩
  · unfold RR at h1 ⊢
    simp (disch := omega) only [q]
    exact h1
  · unfold SR at h4 ⊢
    simp (disch := omega) only [q]
    exact h4
  · exact (h9 k hk).cong hk (fun j a b => q j (by omega)) (q 192 (by omega)) (fun j _ => by rw [q 190 (by omega)])
  · exact (h11 k hk).cong hk (fun j a b => q j (by omega)) (q 197 (by omega)) (q 198 (by omega)) (q 199 (by omega))
theorem t_imgs (v : Int32) (s : St) : ∃ s2, lp (fun q : Int32 × St => f_X6_text_L62 v q.1 q.2) Fu (nI 0, s) = some (v, s2) ∧ (∀ k, k < 2 → s2.1 (143 + 19 * k) 0 = nI 0) ∧ ∀ k, k ≠ 143 → k ≠ 162 → s2.1 k = s.1 k := by
  obtain ⟨t, k1, k2, k3, k4⟩ := lp_inv (body := fun q : Int32 × St => f_X6_text_L62 v q.1 q.2) (fun i q => q.1 = nI i ∧ (∀ k, k < i → q.2.1 (143 + 19 * k) 0 = nI 0) ∧ ∀ k, k ≠ 143 → k ≠ 162 → q.2.1 k = s.1 k) (fun t => t.1 = v ∧ (∀ k, k < 2 → t.2.1 (143 + 19 * k) 0 = nI 0) ∧ ∀ k, k ≠ 143 → k ≠ 162 → t.2.1 k = s.1 k) 2 (fun i q hi hq => by
    obtain ⟨x, y⟩ := q
    obtain ⟨q1, q2, q3⟩ := hq
    dsimp only at q1 q2 q3 ⊢
    subst q1
    obtain ⟨i1, i2, -⟩ := im_a i hi
    unfold f_X6_text_L62
    rw [if_neg (nI_ge hi (by decide)), if_pos i1, bd_s, nI_clamp (by omega), if_pos i2, bd_s, nI_add]
    refine ⟨_, rfl, rfl, fun k hk => ?_, fun k h1 h2 => ?_⟩
    · dsimp only
      by_cases e : k = i
      · rw [e, wI_at]
      · rw [wI_1o (by omega)]; exact q2 k (by omega)
    · dsimp only; rw [wI_1o (by omega)]; exact q3 k h1 h2) (fun q hq => by
    obtain ⟨x, y⟩ := q
    obtain ⟨q1, q2, q3⟩ := hq
    dsimp only at q1 q2 q3 ⊢
    subst q1
    unfold f_X6_text_L62
    rw [if_pos (nI_le (Nat.le_refl _) (by decide))]
    exact ⟨_, rfl, rfl, q2, q3⟩) (q := (nI 0, s)) ⟨rfl, fun j hj => absurd hj (by omega), fun _ _ _ => rfl⟩ (Fu_lt (by decide))
  obtain ⟨w, s2⟩ := t
  dsimp only at k2
  subst k2
  exact ⟨s2, k1, k3, k4⟩
theorem op_text : Op0 f_X6_text f_X7_text Good := by
  intro n s hn hG
  obtain ⟨-, nl, ns, g, hG⟩ := hG
  obtain ⟨h1, h2, h3, h4, h5, h6, h7, h8, h9, h10, h11, h12⟩ := id hG
  obtain ⟨len, l1, l2, l3, l4, l5⟩ := h10
  have hb : ∀ i, i < len → (s.1 34 i).toNatClampNeg < 128 ∧ s.1 34 i = nI (s.1 34 i).toNatClampNeg ∧ s.1 194 i = nI (s.1 34 i).toNatClampNeg := fun i hi => by
    obtain ⟨c, c1, c2, c3⟩ := l4 i hi
    rw [c2, nI_clamp (by omega)]
    exact ⟨c1, rfl, c3⟩
  generalize hbb : (fun i => (s.1 34 i).toNatClampNeg) = b at *
  have hb2 : ∀ i, i < len → b i < 128 ∧ s.1 34 i = nI (b i) ∧ s.1 194 i = nI (b i) := fun i hi => by rw [← hbb]; exact hb i hi
  have hCB : CB s b len := ⟨l1, l2, fun i hi => ⟨(hb2 i hi).1, (hb2 i hi).2.1⟩⟩
  have hRB : RB s b len := ⟨l1, l3, fun i hi => ⟨(hb2 i hi).1, (hb2 i hi).2.2⟩⟩
  obtain ⟨x, s1, e1, F1, n1⟩ := t_tell hCB
  obtain ⟨v0, t0, -, -, r0⟩ := k_text hRB
  unfold f_X6_text
  rw [e1, cl_s, bd_s, wI_ne (show 2 ≠ 1 by decide), wI_ne (show 3 ≠ 1 by decide)]
  have g1 : ∀ k, k ≠ 33 → ¬ (14 ≤ k ∧ k ≤ 26) → (wI s1 33 1 (nI 0)).1 k = s.1 k := fun k a1 a2 => by rw [wI_1o a1, F1.1 k a1 a2]
  cases hm : mLop b len 161 0 0 d0 with
  | inl e =>
    rw [hm] at n1 r0
    obtain ⟨n2, n3⟩ := n1
    have r1 : 1 ≤ e.1 ∧ e.1 ≤ 5 := ⟨r0.1, r0.2.1⟩
    rw [n2, n3, if_neg (nI_ne0 (by omega) (by omega))]
    have hRB2 : RB (wI s1 33 1 (nI 0)) b len := ⟨l1, by rw [g1 189 (by decide) (by decide)]; exact l3, fun i hi => ⟨(hb2 i hi).1, by rw [g1 194 (by decide) (by decide)]; exact (hb2 i hi).2.2⟩⟩
    obtain ⟨v, s3, e3, F3', r3⟩ := k_text hRB2
    rw [hm] at r3
    have r4 : Fl s3 e := r3
    refine ⟨_, _, wI s3 189 11 (nI 0), rfl, ?_, by omega, nl, ns, g, ?_⟩
    · rw [e3]
      unfold f_X7_text_J44
      rw [bd_s, wI_ne (by decide), if_neg r4.nle, wI_ne (by decide), r4.2.2.2]
    · refine (gd_txt hG (fun k a1 a2 a3 a4 => ?_) (fun j a1 a2 => ?_) ?_).mono (by omega)
      · rw [wI_1o a3, F3'.1 k a3 a4, g1 k a1 a2]
      · rw [wI_ne (by omega), F3'.2 j a1 (by omega), g1 189 (by decide) (by decide)]
      · refine ⟨0, Nat.zero_le _, ?_, ?_, fun i hi => absurd hi (Nat.not_lt_zero _), ?_⟩
        · rw [wI_1o (by decide), F3'.1 33 (by decide) (by decide), wI_at]
        · rw [wI_at]
        · rw [wI_1o (by decide), F3'.1 33 (by decide) (by decide), wI_ne (by decide), n2, wI_ne (by decide), r4.2.2.1]
  | inr a =>
    rw [hm] at n1
    obtain ⟨rfl, n2, n3⟩ := n1
    have hWD := mLop_wd 161 0 0 d0 (Nat.zero_le _) wd0 hm
    rw [n2, if_pos (by decide)]
    obtain ⟨s5, e5, R5, S5⟩ := b_copyOf (s := wI s1 33 1 (nI 0)) (r := 1) (a := 14) isR1 isR14 (Or.inr (by decide)) hWD.1 hWD.2.1 (rr_w33 n3)
    rw [e5, cl_s, bd_s]
    obtain ⟨s8, e8, i8, f8⟩ := t_imgs (nI a.1) (wI s5 27 0 (nI 0))
    rw [e8]
    have g8 : ∀ k, ¬ (1 ≤ k ∧ k ≤ 27) → k ≠ 33 → k ≠ 143 → k ≠ 162 → s8.1 k = s.1 k := fun k a1 a2 a3 a4 => by rw [f8 k a3 a4, wI_1o (by omega), S5.1 k (by omega), g1 k a2 (by omega)]
    have g33 : s8.1 33 = (wI s1 33 1 (nI 0)).1 33 := by rw [f8 33 (by decide) (by decide), wI_1o (by decide), S5.1 33 (by decide)]
    have hRB2 : RB s8 b len := ⟨l1, by rw [g8 189 (by decide) (by decide) (by decide) (by decide)]; exact l3, fun i hi => ⟨(hb2 i hi).1, by rw [g8 194 (by decide) (by decide) (by decide) (by decide)]; exact (hb2 i hi).2.2⟩⟩
    obtain ⟨v, s9, e9, F9, r9⟩ := k_text hRB2
    rw [hm] at r9
    obtain ⟨rfl, r10, r11⟩ := r9
    obtain ⟨s11, e11, k1, k2, k3, k4, k5, k6, k7⟩ := r_keep (wI s9 189 11 (nI 0))
    have q : ∀ k, ¬ (189 ≤ k ∧ k ≤ 190) → k ≠ 192 → k ≠ 193 → s11.1 k = s8.1 k := fun k a1 a2 a3 => by rw [k7 k (by omega) (by omega) a2, wI_1o (by omega), F9.1 k (by omega) a3]
    refine ⟨_, _, s11, rfl, ?_, by omega, a.2.1, a.2.2.1, a.2.2.2.1, ?_⟩
    · rw [e9]
      unfold f_X7_text_J44
      rw [bd_s, wI_ne (by decide), r10, if_pos f0le, e11, cl_s]
    · have w42 : a.2.2.2.1 42 = 0 := hWD.2.2.2.2.2.2.2.1 42 (Or.inr (by decide))
      have w106 : a.2.2.2.1 106 = 0 := hWD.2.2.2.2.2.2.2.1 106 (Or.inr (by decide))
      refine ⟨?_, wf_T (wd_wf hWD) (by omega) (by omega), by rw [w42]; decide, ?_, ?_, ?_, ?_, fun j hj => ?_, fun k hk => Or.inl ⟨?_, k6 k hk⟩, ?_, fun k hk => ?_, ?_⟩
      · have p : ∀ k, k ≤ 13 → s11.1 k = s5.1 k := fun k hk => by rw [q k (by omega) (by omega) (by omega), f8 k (by omega) (by omega), wI_1o (by omega)]
        unfold RR at R5 ⊢
        simp (disch := omega) only [p]
        exact R5
      · refine ⟨?_, fun k hk => ?_⟩
        · rw [w106, q 27 (by decide) (by decide) (by decide), f8 27 (by decide) (by decide), wI_at]
        · rw [w106] at hk; exact absurd hk (Nat.not_lt_zero _)
      · refine ⟨by rw [w106]; decide, fun k hk => ?_⟩
        rw [w106] at hk; exact absurd hk (Nat.not_lt_zero _)
      · rw [k3, wI_ne (by decide)]; exact r11.1
      · rw [k4, wI_ne (by decide)]; exact r11.2.1
      · rw [k1 j hj, wI_1o (by decide)]; exact r11.2.2.2.2 j hj
      · rw [q _ (by omega) (by omega) (by omega)]; exact i8 k hk
      · refine ⟨0, Nat.zero_le _, ?_, ?_, fun i hi => absurd hi (Nat.not_lt_zero _), ?_⟩
        · rw [q 33 (by decide) (by decide) (by decide), g33, wI_at]
        · rw [k5 11 (by decide) (by decide), wI_at]
        · rw [q 33 (by decide) (by decide) (by decide), g33, wI_ne (by decide), n2, k5 16 (by decide) (by decide), wI_ne (by decide), r10]
      · exact (h11 k hk).cong hk (fun j a b => by rw [q j (by omega) (by omega) (by omega), g8 j (by omega) (by omega) (by omega) (by omega)]) (by rw [q 197 (by decide) (by decide) (by decide), g8 197 (by decide) (by decide) (by decide) (by decide)]) (by rw [q 198 (by decide) (by decide) (by decide), g8 198 (by decide) (by decide) (by decide) (by decide)]) (by rw [q 199 (by decide) (by decide) (by decide), g8 199 (by decide) (by decide) (by decide) (by decide)])
      · rw [q 0 (by decide) (by decide) (by decide), g8 0 (by decide) (by decide) (by decide) (by decide), k5 26 (by decide) (by decide), wI_ne (by decide), F9.2 26 (by decide) (by decide), g8 189 (by decide) (by decide) (by decide) (by decide)]
        exact h12

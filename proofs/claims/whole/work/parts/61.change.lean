/-! tape, sheets, images; what is changed by hand -/
theorem gd_tp {n nl ns : Nat} {s s2 : St} {g : Nat → Nat} (hG : Gd n s nl ns g) (hF : ∀ k, k ≠ 33 → k ≠ 34 → k ≠ 189 → k ≠ 194 → s2.1 k = s.1 k) (h189 : ∀ j, j ≠ 11 → s2.1 189 j = s.1 189 j) (hT : TP s2) : Gd n s2 nl ns g := by
  obtain ⟨h1, h2, h3, h4, h5, h6, h7, h8, h9, h10, h11, h12⟩ := hG
  refine ⟨?_, h2, h3, ?_, h5, by rw [h189 3 (by decide)]; exact h6, by rw [h189 4 (by decide)]; exact h7, by rw [hF 190 (by decide) (by decide) (by decide) (by decide)]; exact h8, fun k hk => ?_, hT, fun k hk => ?_, by rw [hF 0 (by decide) (by decide) (by decide) (by decide), h189 26 (by decide)]; exact h12⟩
  · unfold RR at h1 ⊢
    simp (disch := omega) only [hF]
    exact h1
  · unfold SR at h4 ⊢
    simp (disch := omega) only [hF]
    exact h4
  · exact (h9 k hk).cong hk (fun j a b => hF j (by omega) (by omega) (by omega) (by omega)) (hF 192 (by omega) (by omega) (by omega) (by omega)) (fun j _ => by rw [hF 190 (by omega) (by omega) (by omega) (by omega)])
  · exact (h11 k hk).cong hk (fun j a b => hF j (by omega) (by omega) (by omega) (by omega)) (hF 197 (by omega) (by omega) (by omega) (by omega)) (hF 198 (by omega) (by omega) (by omega) (by omega)) (hF 199 (by omega) (by omega) (by omega) (by omega))
theorem gd_sh {n nl ns : Nat} {s s2 : St} {g : Nat → Nat} (hG : Gd n s nl ns g) (hF : ∀ k, ¬ (181 ≤ k ∧ k < 189) → k ≠ 197 → k ≠ 198 → k ≠ 199 → s2.1 k = s.1 k) (hS : ∀ k, k < 4 → SH s2 k) : Gd n s2 nl ns g := by
  obtain ⟨h1, h2, h3, h4, h5, h6, h7, h8, h9, h10, h11, h12⟩ := hG
  refine ⟨?_, h2, h3, ?_, h5, by rw [hF 189 (by decide) (by decide) (by decide) (by decide)]; exact h6, by rw [hF 189 (by decide) (by decide) (by decide) (by decide)]; exact h7, by rw [hF 190 (by decide) (by decide) (by decide) (by decide)]; exact h8, fun k hk => ?_, ?_, hS, by rw [hF 0 (by decide) (by decide) (by decide) (by decide), hF 189 (by decide) (by decide) (by decide) (by decide)]; exact h12⟩
  · unfold RR at h1 ⊢
    simp (disch := omega) only [hF]
    exact h1
  · unfold SR at h4 ⊢
    simp (disch := omega) only [hF]
    exact h4
  · exact (h9 k hk).cong hk (fun j a b => hF j (by omega) (by omega) (by omega) (by omega)) (hF 192 (by omega) (by omega) (by omega) (by omega)) (fun j _ => by rw [hF 190 (by omega) (by omega) (by omega) (by omega)])
  · exact h10.cong (hF 33 (by omega) (by omega) (by omega) (by omega)) (hF 34 (by omega) (by omega) (by omega) (by omega)) (hF 194 (by omega) (by omega) (by omega) (by omega)) (by rw [hF 189 (by omega) (by omega) (by omega) (by omega)]) (by rw [hF 189 (by omega) (by omega) (by omega) (by omega)])
theorem nar_b : ∀ c, c < 128 → vp_nar .byte ((nI c).toInt8.toInt32) = nI c := by decide +kernel
theorem qs {α : Type} {F R : St → Option (α × St)} {n nl ns : Nat} {s : St} {g : Nat → Nat} (v : α) (hn : n < 64) (hG : Gd n s nl ns g) (h1 : F s = some (v, s)) (h2 : R s = some (v, s)) : ∃ v s1 s2, F s = some (v, s1) ∧ R s1 = some (v, s2) ∧ Good (n + 1) s2 := ⟨v, s, s, h1, h2, by omega, nl, ns, g, hG.mono (by omega)⟩
theorem op_feed : Op1 f_X6_feed f_X7_feed Good := by
  intro n s a hn hG
  obtain ⟨-, nl, ns, g, hG⟩ := hG
  obtain ⟨len, t1, t2, t3, t4, t5⟩ := hG.2.2.2.2.2.2.2.2.2.1
  rcases rng a (127 + 1) with ⟨c, hc, hc2, rfl⟩ | ha
  · by_cases hlen : len = 160
    · refine qs (-3) hn hG ?_ ?_
      · unfold f_X6_feed f_X5_put
        rw [g_win (by omega) (by decide), cl_s, if1, t2, hlen, if_neg (by decide), cl_s, if0']
      · unfold f_X7_feed
        rw [g7_win (by omega) (by decide), cl_s, if1, t3, hlen, if_neg (fun q => q rfl)]
    · refine ⟨nI (len + 1), wI (wI s 34 len (nI c)) 33 1 (nI (len + 1)), wI (wI (wI (wI s 34 len (nI c)) 33 1 (nI (len + 1))) 194 len (nI c)) 189 11 (nI (len + 1)), ?_, ?_, by omega, nl, ns, g, (gd_tp hG ?_ ?_ ?_).mono (by omega)⟩
      · unfold f_X6_feed f_X5_put
        rw [g_win (by omega) (by decide), cl_s, if1, t2, if_pos (nI_lt (by omega) (by decide)), show lnB 34 = 160 by decide, if_pos (inb_t (by omega) (by decide)), bd_s, bd_s, cl_s, if1', nI_clamp (by omega), nar_b c (by omega), wI_at, wI_1o (by decide), t2, nI_add]
      · unfold f_X7_feed
        have e : (wI (wI s 34 len (nI c)) 33 1 (nI (len + 1))).1 189 11 = nI len := by rw [wI_1o (by decide), wI_1o (by decide)]; exact t3
        rw [g7_win (by omega) (by decide), cl_s, if1, e, if_pos (fun q => hlen ((nI_eq (by omega) (by decide)).mp q)), l194, if_pos (inb_t (by omega) (by decide)), bd_s, bd_s, nI_clamp (by omega), wI_at, wI_1o (by decide), e, nI_add]
      · intro k h1 h2 h3 h4
        rw [wI_1o h3, wI_1o h4, wI_1o h1, wI_1o h2]
      · intro j hj
        rw [wI_ne hj, wI_1o (by decide), wI_1o (by decide), wI_1o (by decide)]
      · refine ⟨len + 1, by omega, ?_, ?_, fun i hi => ?_, ?_⟩
        · simp (disch := omega) only [wI_1o, wI_at]
        · rw [wI_at]
        · simp (disch := omega) only [wI_1o]
          by_cases e : i = len
          · subst e; exact ⟨c, by omega, by rw [wI_at], by rw [wI_at]⟩
          · rw [wI_ne e, wI_ne e]
            simp (disch := omega) only [wI_1o]
            exact t4 i (by omega)
        · rw [wI_ne (by decide)]
          simp (disch := omega) only [wI_1o]
          rw [wI_ne (by decide), wI_1o (by decide)]
          exact t5
  · refine qs (-1) hn hG ?_ ?_
    · unfold f_X6_feed
      rw [g_win_n ha (by decide), cl_s, if0]
    · unfold f_X7_feed
      rw [g7_win_n ha (by decide), cl_s, if0]
theorem op_end : Op1 f_X6_end f_X7_end Good := by
  intro n s a hn hG
  obtain ⟨-, nl, ns, g, hG⟩ := hG
  obtain ⟨len, t1, t2, t3, t4, t5⟩ := hG.2.2.2.2.2.2.2.2.2.1
  rcases rng a (len + 1) with ⟨c, hc, hc2, rfl⟩ | ha
  · refine ⟨nI len, wI s 33 1 (nI c), wI (wI s 33 1 (nI c)) 189 11 (nI c), ?_, ?_, by omega, nl, ns, g, (gd_tp hG ?_ ?_ ?_).mono (by omega)⟩
    · unfold f_X6_end
      rw [t2, g_win (by omega) (by omega), cl_s, if1, bd_s, bd_s, t2]
    · unfold f_X7_end
      have e : (wI s 33 1 (nI c)).1 189 11 = nI len := by rw [wI_1o (by decide)]; exact t3
      rw [e, nI_l (n := len) (by omega), g7_win (by omega) (by omega), cl_s, if1, bd_s, bd_s, e]
    · intro k h1 h2 h3 h4
      rw [wI_1o h3, wI_1o h1]
    · intro j hj
      rw [wI_ne hj, wI_1o (by decide)]
    · refine ⟨c, by omega, ?_, ?_, fun i hi => ?_, ?_⟩
      · simp (disch := omega) only [wI_1o, wI_at]
      · rw [wI_at]
      · simp (disch := omega) only [wI_1o]
        exact t4 i (by omega)
      · rw [wI_ne (by decide), wI_1o (by decide), wI_ne (by decide), wI_1o (by decide)]
        exact t5
  · refine qs (-1) hn hG ?_ ?_
    · unfold f_X6_end
      rw [t2, g_win_n ha (by omega), cl_s, if0]
    · unfold f_X7_end
      rw [t3, nI_l (by omega), g7_win_n ha (by omega), cl_s, if0]
/-- one number of the state is set, on both sides -/
theorem up1 {n nl ns : Nat} {s s1 : St} {g : Nat → Nat} (hn : n < 64) (hG : Gd n s nl ns g) {k v : Nat} (hk : k < 106) (hR : RR s1 1 nl ns (up g k v)) (hF : ∀ k, ¬ (1 ≤ k ∧ k ≤ 13) → s1.1 k = s.1 k) (hW : WF nl ns (99 * (n + 2)) (up g k v)) (h42 : k ≠ 42) : Good (n + 1) (wI s1 190 k (nI v)) := by
  have e0 : s1.1 190 = s.1 190 := hF 190 (by omega)
  refine upg hn hG hR ?_ (fun k h1 h2 => hF k (by omega)) (fun k h1 h2 h3 h4 => wI_1o h1) (fun j hj => ?_) (fun j hj => wI_ne (by omega)) hW (by rw [up_o (fun q => h42 q.symm)]; exact hG.2.2.1) (hG.2.2.2.2.1.cong (fun j h1 h2 => up_o (by omega)))
  · refine SR.cong (g := g) ?_ hG.2.2.2.2.1.1 (fun j h1 h2 => up_o (by omega))
    have h4 := hG.2.2.2.1
    unfold SR at h4 ⊢
    simp (disch := omega) only [hF]
    exact h4
  · by_cases e : j = k
    · subst e; rw [wI_at, up_k]
    · rw [wI_ne e, up_o e, e0]; exact hG.2.2.2.2.2.2.2.1 j hj
theorem b_replace {s : St} {a k N : Nat} {v : Int32} (ha : lnI a = N) (hk : k < N) (hN : N < 2 ^ 31) : f_X6_replace a (nI k) v s = some (s.1 a k, wI s a k v) := by
  unfold f_X6_replace
  rw [ha, if_pos (inb_t hk hN), bd_s, bd_s, nI_clamp (by omega)]
theorem b7_becomes {s : St} {k : Nat} {v : Int32} (hk : k < 393) : f_X7_becomes (nI k) v s = some (s.1 190 k, wI s 190 k v) := by
  unfold f_X7_becomes
  rw [if_pos (ib190 hk), bd_s, bd_s, nI_clamp (by omega)]
theorem fr13 {s : St} {a i : Nat} {x : Int32} (h : 1 ≤ a ∧ a ≤ 13) : ∀ k, ¬ (1 ≤ k ∧ k ≤ 13) → (wI s a i x).1 k = s.1 k := fun k hk => wI_1o (by omega)
theorem op_blow : Op2 f_X6_blow f_X7_blow Good := by
  intro n s a b hn hG
  obtain ⟨-, nl, ns, g, hG⟩ := hG
  have hnl := hG.2.1.1
  have hns := hG.2.1.2.1
  rcases rng a (5 + 1) with ⟨k, hk, hk2, rfl⟩ | ha
  · rcases rng b (4 + 1) with ⟨v, hv, hv2, rfl⟩ | hb
    · refine ⟨nI (g (32 + k)), wI s 12 k (nI v), wI (wI s 12 k (nI v)) 190 (32 + k) (nI v), ?_, ?_, up1 hn hG (by omega) (rr_way hG.1 hnl hns hk) (fr13 (by omega)) (wf_T (wf_way hG.2.1 hk (by omega)) (by omega) (by omega)) (by omega)⟩
      · unfold f_X6_blow
        rw [g_win (by omega) (by decide), cl_s, if1', g_win (by omega) (by decide), cl_s, if1, b_replace (show lnI 12 = 6 by decide) hk (by decide), cl_s, (R1 hG.1).2.2.2.2.2.2.2.2.1 k hk]
      · unfold f_X7_blow
        rw [g7_win (by omega) (by decide), cl_s, if1', g7_win (by omega) (by decide), cl_s, if1', nI_add, b7_becomes (by omega), cl_s, wI_1o (by decide), hG.2.2.2.2.2.2.2.1 _ (by omega)]
    · refine qs (-1) hn hG ?_ ?_
      · unfold f_X6_blow
        rw [g_win (by omega) (by decide), cl_s, if1', g_win_n hb (by decide), cl_s, if0]
      · unfold f_X7_blow
        rw [g7_win (by omega) (by decide), cl_s, if1', g7_win_n hb (by decide), cl_s, if0']
  · refine qs (-1) hn hG ?_ ?_
    · unfold f_X6_blow
      rw [g_win_n ha (by decide), cl_s, if0']
    · unfold f_X7_blow
      rw [g7_win_n ha (by decide), cl_s, if0']
theorem op_price : Op2 f_X6_price f_X7_price Good := by
  intro n s a b hn hG
  obtain ⟨-, nl, ns, g, hG⟩ := hG
  have hnl := hG.2.1.1
  have hns := hG.2.1.2.1
  rcases rng a (3 + 1) with ⟨k, hk, hk2, rfl⟩ | ha
  · rcases rng b (9 + 1) with ⟨v, hv, hv2, rfl⟩ | hb
    · refine ⟨nI (g (38 + k)), wI s 13 k (nI v), wI (wI s 13 k (nI v)) 190 (38 + k) (nI v), ?_, ?_, up1 hn hG (by omega) (rr_price hG.1 hnl hns hk) (fr13 (by omega)) (wf_T (wf_price hG.2.1 hk (by omega)) (by omega) (by omega)) (by omega)⟩
      · unfold f_X6_price
        rw [g_win (by omega) (by decide), cl_s, if1', g_win (by omega) (by decide), cl_s, if1, b_replace (show lnI 13 = 4 by decide) hk (by decide), cl_s, (R1 hG.1).2.2.2.2.2.2.2.2.2 k hk]
      · unfold f_X7_price
        rw [g7_win (by omega) (by decide), cl_s, if1', g7_win (by omega) (by decide), cl_s, if1', nI_add, b7_becomes (by omega), cl_s, wI_1o (by decide), hG.2.2.2.2.2.2.2.1 _ (by omega)]
    · refine qs (-1) hn hG ?_ ?_
      · unfold f_X6_price
        rw [g_win (by omega) (by decide), cl_s, if1', g_win_n hb (by decide), cl_s, if0]
      · unfold f_X7_price
        rw [g7_win (by omega) (by decide), cl_s, if1', g7_win_n hb (by decide), cl_s, if0']
  · refine qs (-1) hn hG ?_ ?_
    · unfold f_X6_price
      rw [g_win_n ha (by decide), cl_s, if0']
    · unfold f_X7_price
      rw [g7_win_n ha (by decide), cl_s, if0']
/-- seat: what it does where it is not refused -/
theorem b7_seat0 {s : St} {ns i c : Nat} {g : Nat → Nat} (h4 : s.1 189 4 = nI ns) (hns : ns ≤ 4) (hg : ∀ j, j < 131 → s.1 190 j = nI (g j)) (hi : i < ns) (hc : c < 50) (hc2 : c % 10 < 4) (hp : g (12 + 2 * i) < 20) : f_X7_seat (nI i) (nI 0) (nI c) s = some (nI (nm (g (12 + 2 * i))), wI s 190 (12 + 2 * i) (nI (4 * (c / 10) + c % 10))) := by
  unfold f_X7_seat f_X7_seat_J41
  simp only [pk_mul, nI_add]
  rw [g7_sit h4 hns hi, cl_s, if1', if0, b7_isCell hc hc2, cl_s, if1', b7_cellOf hc, cl_s, if0, b7_becomes (by omega), cl_s, hg _ (by omega), b7_nameOf (by omega), cl_s]
theorem op_seat : Op3 f_X6_seat f_X7_seat Good := by
  intro n s a b c hn hG
  obtain ⟨-, nl, ns, g, hG⟩ := hG
  have hnl := hG.2.1.1
  have hns := hG.2.1.2.1
  rcases rng a ns with ⟨i, hi, hi2, rfl⟩ | ha
  · have hp := hG.2.1.2.2.2.2.1 i hi
    rcases rng b 2 with ⟨w, hw, -, rfl⟩ | hb
    · rcases (show w = 0 ∨ w = 1 by omega) with rfl | rfl
      · rcases cellC c with ⟨v, hv, hv2, rfl⟩ | hc
        · refine ⟨nI (nm (g (12 + 2 * i))), wI s 9 i (nI (4 * (v / 10) + v % 10)), wI (wI s 9 i (nI (4 * (v / 10) + v % 10))) 190 (12 + 2 * i) (nI (4 * (v / 10) + v % 10)), ?_, ?_, up1 hn hG (by omega) (rr_place hG.1 hnl hns hi) (fr13 (by omega)) (wf_T (wf_place hG.2.1 hi (by omega)) (by omega) (by omega)) (by omega)⟩
          · unfold f_X6_seat
            rw [g_sit isR1 hG.1 hns hi, cl_s, if1, if_pos rfl, b_isCell hv hv2, cl_s, if1', b_cellOf hv hv2, cl_s, b_replace (show lnI 9 = 4 by decide) (by omega) (by decide), cl_s, ((R1 hG.1).2.2.2.2.2.2.1 i hi).1, b_nameOf (by omega), cl_s]
          · exact b7_seat0 (by rw [wI_1o (by decide)]; exact hG.2.2.2.2.2.2.1) hns (by rw [wI_1o (by decide)]; exact hG.2.2.2.2.2.2.2.1) hi hv hv2 hp.1
        · refine qs (-1) hn hG ?_ ?_
          · unfold f_X6_seat
            rw [g_sit isR1 hG.1 hns hi, cl_s, if1, if_pos rfl, b_isCell_n hc, cl_s, if0']
          · unfold f_X7_seat
            rw [g7_sit hG.2.2.2.2.2.2.1 hns hi, cl_s, if1', if0, b7_isCell_n hc, cl_s, if0']
      · rcases rng c (9 + 1) with ⟨v, hv, hv2, rfl⟩ | hc
        · refine ⟨nI (g (13 + 2 * i)), wI s 10 i (nI v), wI (wI s 10 i (nI v)) 190 (13 + 2 * i) (nI v), ?_, ?_, up1 hn hG (by omega) (rr_sleeve hG.1 hnl hns hi) (fr13 (by omega)) (wf_T (wf_sleeve hG.2.1 hi (by omega)) (by omega) (by omega)) (by omega)⟩
          · unfold f_X6_seat
            rw [g_sit isR1 hG.1 hns hi, cl_s, if1, if_neg (by decide), if_pos rfl, g_win (by omega) (by decide), cl_s, if1', b_replace (show lnI 10 = 4 by decide) (by omega) (by decide), cl_s, ((R1 hG.1).2.2.2.2.2.2.1 i hi).2]
          · unfold f_X7_seat f_X7_seat_J41
            simp only [pk_mul, nI_add]
            rw [g7_sit (by rw [wI_1o (by decide)]; exact hG.2.2.2.2.2.2.1) hns hi, cl_s, if1', if1, if_neg (by simp), g7_win (by omega) (by decide), cl_s, if1, if1, show 12 + 2 * i + 1 = 13 + 2 * i by omega, b7_becomes (by omega), cl_s, wI_1o (by decide), hG.2.2.2.2.2.2.2.1 _ (by omega)]
        · refine qs (-1) hn hG ?_ ?_
          · unfold f_X6_seat
            rw [g_sit isR1 hG.1 hns hi, cl_s, if1, if_neg (by decide), if_pos rfl, g_win_n hc (by decide), cl_s, if0']
          · unfold f_X7_seat
            rw [g7_sit hG.2.2.2.2.2.2.1 hns hi, cl_s, if1', if1, if_neg (fun q => q rfl), g7_win_n hc (by decide), cl_s, if0]
    · refine qs (-1) hn hG ?_ ?_
      · unfold f_X6_seat
        rw [g_sit isR1 hG.1 hns hi, cl_s, if1, if_neg (ne_n hb (k := 0) (by decide) (by decide)), if_neg (ne_n hb (k := 1) (by decide) (by decide)), if_pos (by omega)]
      · unfold f_X7_seat
        rw [g7_sit hG.2.2.2.2.2.2.1 hns hi, cl_s, if1', if_pos (show ¬ b = 0 from ne_n hb (k := 0) (by decide) (by decide)), if_pos (ne_n hb (k := 1) (by decide) (by decide))]
  · refine qs (-1) hn hG ?_ ?_
    · unfold f_X6_seat
      rw [g_sit_n isR1 hG.1 hns ha, cl_s, if0]
    · unfold f_X7_seat
      rw [g7_sit_n hG.2.2.2.2.2.2.1 hns ha, cl_s, if0']
theorem op_alter : Op3 f_X6_alter f_X7_alter Good := by
  intro n s a b c hn hG
  obtain ⟨-, nl, ns, g, hG⟩ := hG
  have hnl := hG.2.1.1
  have hns := hG.2.1.2.1
  rcases rng a nl with ⟨l, hl, hl2, rfl⟩ | ha
  · have hp := hG.2.1.2.2.2.1 l hl
    rcases rng b 4 with ⟨w, hw, -, rfl⟩ | hb
    · rcases (show w = 0 ∨ w = 1 ∨ w = 2 ∨ w = 3 by omega) with rfl | rfl | rfl | rfl
      · rcases rng c (3 + 1) with ⟨v, hv, hv2, rfl⟩ | hc
        · refine ⟨nI (g (4 * l)), wI s 2 l (nI v), wI (wI s 2 l (nI v)) 190 (4 * l) (nI v), ?_, ?_, up1 hn hG (by omega) (rr_kind hG.1 hnl hns hl) (fr13 (by omega)) (wf_T (wf_kind hG.2.1 hl (by omega)) (by omega) (by omega)) (by omega)⟩
          · unfold f_X6_alter
            rw [g_life isR1 hG.1 hnl hl, cl_s, if1, if_pos rfl, g_win (by omega) (by decide), cl_s, if1', b_replace (show lnI 2 = 3 by decide) (by omega) (by decide), cl_s, ((R1 hG.1).2.2.2.1 l hl).1]
          · unfold f_X7_alter f_X7_canBe
            rw [g7_life (by rw [wI_1o (by decide)]; exact hG.2.2.2.2.2.1) hnl hl, cl_s, if1', if_pos rfl, g7_win (by omega) (by decide), cl_s, if_pos (Or.inr (by decide)), cl_s, if1, if_pos (by decide), pk_mul, nI_add, Nat.add_zero, b7_becomes (by omega), cl_s, wI_1o (by decide), hG.2.2.2.2.2.2.2.1 _ (by omega), b7_asTold0 (by decide), cl_s]
        · refine qs (-1) hn hG ?_ ?_
          · unfold f_X6_alter
            rw [g_life isR1 hG.1 hnl hl, cl_s, if1, if_pos rfl, g_win_n hc (by decide), cl_s, if0']
          · unfold f_X7_alter f_X7_canBe
            rw [g7_life hG.2.2.2.2.2.1 hnl hl, cl_s, if1', if_pos rfl, g7_win_n hc (by decide), cl_s, if_pos (Or.inl (by decide)), cl_s, if0]
      · rcases cellC c with ⟨v, hv, hv2, rfl⟩ | hc
        · refine ⟨nI (nm (g (4 * l + 1))), wI s 3 l (nI (4 * (v / 10) + v % 10)), wI (wI s 3 l (nI (4 * (v / 10) + v % 10))) 190 (4 * l + 1) (nI (4 * (v / 10) + v % 10)), ?_, ?_, up1 hn hG (by omega) (rr_table hG.1 hnl hns hl) (fr13 (by omega)) (wf_T (wf_table hG.2.1 hl (by omega)) (by omega) (by omega)) (by omega)⟩
          · unfold f_X6_alter
            rw [g_life isR1 hG.1 hnl hl, cl_s, if1, if_neg (by decide), if_pos rfl, b_isCell hv hv2, cl_s, if1', b_cellOf hv hv2, cl_s, b_replace (show lnI 3 = 3 by decide) (by omega) (by decide), cl_s, ((R1 hG.1).2.2.2.1 l hl).2.1, b_nameOf (by omega), cl_s]
          · unfold f_X7_alter f_X7_canBe
            rw [g7_life (by rw [wI_1o (by decide)]; exact hG.2.2.2.2.2.1) hnl hl, cl_s, if1', if_neg (by decide), if_pos rfl, b7_isCell hv hv2, cl_s, if_pos (Or.inr (by decide)), cl_s, if1, if_neg (fun q => q rfl), b7_cellOf hv, cl_s, pk_mul, nI_add, b7_becomes (by omega), cl_s, wI_1o (by decide), hG.2.2.2.2.2.2.2.1 _ (by omega), b7_asTold1 (by omega), cl_s]
        · refine qs (-1) hn hG ?_ ?_
          · unfold f_X6_alter
            rw [g_life isR1 hG.1 hnl hl, cl_s, if1, if_neg (by decide), if_pos rfl, b_isCell_n hc, cl_s, if0']
          · unfold f_X7_alter f_X7_canBe
            rw [g7_life hG.2.2.2.2.2.1 hnl hl, cl_s, if1', if_neg (by decide), if_pos rfl, b7_isCell_n hc, cl_s, if_pos (Or.inl (by decide)), cl_s, if0]
      · rcases rng1 c (9 + 1) with ⟨v, hv0, hv, hv2, rfl⟩ | hc
        · refine ⟨nI (g (4 * l + 2)), wI s 4 l (nI v), wI (wI s 4 l (nI v)) 190 (4 * l + 2) (nI v), ?_, ?_, up1 hn hG (by omega) (rr_pace hG.1 hnl hns hl) (fr13 (by omega)) (wf_T (wf_pace hG.2.1 hl (by omega)) (by omega) (by omega)) (by omega)⟩
          · unfold f_X6_alter
            rw [g_life isR1 hG.1 hnl hl, cl_s, if1, if_neg (by decide), if_neg (by decide), if_pos rfl, g_win1 hv0 (by omega) (by decide), cl_s, if1', b_replace (show lnI 4 = 3 by decide) (by omega) (by decide), cl_s, ((R1 hG.1).2.2.2.1 l hl).2.2.1]
          · unfold f_X7_alter f_X7_canBe
            rw [g7_life (by rw [wI_1o (by decide)]; exact hG.2.2.2.2.2.1) hnl hl, cl_s, if1', if_neg (by decide), if_neg (by decide), if_pos rfl, g7_win1 hv0 (by omega) (by decide), cl_s, if_pos (Or.inr (by decide)), cl_s, if1, if_pos (by decide), pk_mul, nI_add, b7_becomes (by omega), cl_s, wI_1o (by decide), hG.2.2.2.2.2.2.2.1 _ (by omega), b7_asTold0 (by decide), cl_s]
        · refine qs (-1) hn hG ?_ ?_
          · unfold f_X6_alter
            rw [g_life isR1 hG.1 hnl hl, cl_s, if1, if_neg (by decide), if_neg (by decide), if_pos rfl, g_win1_n hc (by decide), cl_s, if0']
          · unfold f_X7_alter f_X7_canBe
            rw [g7_life hG.2.2.2.2.2.1 hnl hl, cl_s, if1', if_neg (by decide), if_neg (by decide), if_pos rfl, g7_win1_n hc (by decide), cl_s, if_pos (Or.inl (by decide)), cl_s, if0]
      · rcases rng c (99 + 1) with ⟨v, hv, hv2, rfl⟩ | hc
        · refine ⟨nI (g (4 * l + 3)), wI s 5 l (nI v), wI (wI s 5 l (nI v)) 190 (4 * l + 3) (nI v), ?_, ?_, up1 hn hG (by omega) (rr_left hG.1 hnl hns hl) (fr13 (by omega)) (wf_T (wf_left hG.2.1 hl (by omega) (by omega)) (by omega) (by omega)) (by omega)⟩
          · unfold f_X6_alter
            rw [g_life isR1 hG.1 hnl hl, cl_s, if1, if_neg (by decide), if_neg (by decide), if_neg (by decide), if_pos rfl, g_win (by omega) (by decide), cl_s, if1', b_replace (show lnI 5 = 3 by decide) (by omega) (by decide), cl_s, ((R1 hG.1).2.2.2.1 l hl).2.2.2]
          · unfold f_X7_alter f_X7_canBe
            rw [g7_life (by rw [wI_1o (by decide)]; exact hG.2.2.2.2.2.1) hnl hl, cl_s, if1', if_neg (by decide), if_neg (by decide), if_neg (by decide), if_pos rfl, g7_win (by omega) (by decide), cl_s, if_pos (Or.inr (by decide)), cl_s, if1, if_pos (by decide), pk_mul, nI_add, b7_becomes (by omega), cl_s, wI_1o (by decide), hG.2.2.2.2.2.2.2.1 _ (by omega), b7_asTold0 (by decide), cl_s]
        · refine qs (-1) hn hG ?_ ?_
          · unfold f_X6_alter
            rw [g_life isR1 hG.1 hnl hl, cl_s, if1, if_neg (by decide), if_neg (by decide), if_neg (by decide), if_pos rfl, g_win_n hc (by decide), cl_s, if0']
          · unfold f_X7_alter f_X7_canBe
            rw [g7_life hG.2.2.2.2.2.1 hnl hl, cl_s, if1', if_neg (by decide), if_neg (by decide), if_neg (by decide), if_pos rfl, g7_win_n hc (by decide), cl_s, if_pos (Or.inl (by decide)), cl_s, if0]
    · refine qs (-1) hn hG ?_ ?_
      · unfold f_X6_alter
        rw [g_life isR1 hG.1 hnl hl, cl_s, if1, if_neg (ne_n hb (k := 0) (by decide) (by decide)), if_neg (ne_n hb (k := 1) (by decide) (by decide)), if_neg (ne_n hb (k := 2) (by decide) (by decide)), if_neg (ne_n hb (k := 3) (by decide) (by decide)), if_pos (by omega)]
      · unfold f_X7_alter f_X7_canBe
        rw [g7_life hG.2.2.2.2.2.1 hnl hl, cl_s, if1', if_neg (ne_n hb (k := 0) (by decide) (by decide)), if_neg (ne_n hb (k := 1) (by decide) (by decide)), if_neg (ne_n hb (k := 2) (by decide) (by decide)), if_neg (ne_n hb (k := 3) (by decide) (by decide)), if_pos (by omega), cl_s, if0]
  · refine qs (-1) hn hG ?_ ?_
    · unfold f_X6_alter
      rw [g_life_n isR1 hG.1 hnl ha, cl_s, if0]
    · unfold f_X7_alter
      rw [g7_life_n hG.2.2.2.2.2.1 hnl ha, cl_s, if0']

theorem g7_sheet {k L : Nat} (hk : k < 4) (hL : L < 3) (s : St) : f_X7_isSheet (nI k) (nI L) s = some (nI 1, s) := by
  unfold f_X7_isSheet
  rw [g7_win (by omega) (by decide), cl_s, if1', g7_win (by omega) (by decide), cl_s, if1']
theorem g7_sheet_n1 {a b : Int32} (h : ¬ (0 ≤ a.toInt ∧ a.toInt < (3 + 1 : Nat))) (s : St) : f_X7_isSheet a b s = some (nI 0, s) := by
  unfold f_X7_isSheet
  rw [g7_win_n h (by decide), cl_s, if0']
theorem g7_sheet_n2 {k : Nat} {b : Int32} (hk : k < 4) (h : ¬ (0 ≤ b.toInt ∧ b.toInt < (2 + 1 : Nat))) (s : St) : f_X7_isSheet (nI k) b s = some (nI 0, s) := by
  unfold f_X7_isSheet
  rw [g7_win (by omega) (by decide), cl_s, if1', g7_win_n h (by decide), cl_s, if0']
theorem g_sheet {k : Nat} (hk : k < 4) (s : St) : f_X6_isSheet (nI k) s = some (nI 1, s) := by
  unfold f_X6_isSheet
  rw [g_win (by omega) (by decide), cl_s, if_pos (Or.inr (by decide))]
theorem g_sheet_n {a : Int32} (h : ¬ (0 ≤ a.toInt ∧ a.toInt < (3 + 1 : Nat))) (s : St) : f_X6_isSheet a s = some (nI 0, s) := by
  unfold f_X6_isSheet
  rw [g_win_n h (by decide), cl_s, if_pos (Or.inl (by decide))]
theorem g_lane {k : Nat} (hk : k < 3) (s : St) : f_X6_isLane (nI k) s = some (nI 1, s) := by
  unfold f_X6_isLane
  rw [g_win (by omega) (by decide), cl_s, if_pos (Or.inr (by decide))]
theorem g_lane_n {a : Int32} (h : ¬ (0 ≤ a.toInt ∧ a.toInt < (2 + 1 : Nat))) (s : St) : f_X6_isLane a s = some (nI 0, s) := by
  unfold f_X6_isLane
  rw [g_win_n h (by decide), cl_s, if_pos (Or.inl (by decide))]
theorem sh_a : ∀ k, k < 4 → inb (nI k) (ln 35) = true ∧ kd (181 + 2 * k) = 4 ∧ lnI (182 + 2 * k) = 40 ∧ inb (nI k) (lnI 197) = true ∧ inb (nI k) (lnI 198) = true := by decide
theorem l199 : lnI 199 = 160 := by decide
theorem ib199 {e : Nat} (h : e < 160) : inb (nI e) (lnI 199) = true := by rw [l199]; exact inb_t h (by decide)
theorem op_sheet : Op3 f_X6_sheet f_X7_sheet Good := by
  intro n s a b c hn hG
  obtain ⟨-, nl, ns, g, hG⟩ := hG
  rcases rng a (3 + 1) with ⟨k, hk, hk2, rfl⟩ | ha
  · rcases rng b (2 + 1) with ⟨L, hL, hL2, rfl⟩ | hb
    · by_cases h40 : c ≤ nI 40
      · by_cases h0 : 0 ≤ c
        · obtain ⟨z, hz, rfl⟩ := nI_of (x := c) (fun q => by
            rw [Int32.lt_iff_toInt_lt] at q
            rw [Int32.le_iff_toInt_le] at h0
            omega)
          have hz40 : z ≤ 40 := (nI_leI hz (by decide)).mp h40
          obtain ⟨m1, m2, m3, m4, m5⟩ := sh_a k hk
          obtain ⟨s1, a1, a2, a3, a4⟩ := b_fill (s := wI (wI s (181 + 2 * k) 0 (nI L)) (181 + 2 * k) 1 (nI z)) m3 (by decide) (by decide)
          have f1 : ∀ j, j ≠ 181 + 2 * k → j ≠ 182 + 2 * k → s1.1 j = s.1 j := fun j q1 q2 => by rw [a3 j q2, wI_1o q1, wI_1o q1]
          obtain ⟨t, k1, k2⟩ := lp_inv (body := fun q : Int32 × St => f_X7_sheet_L40 (nI k) q.1 q.2) (fun i q => q.1 = nI i ∧ (∀ j, j < i → q.2.1 199 (40 * k + j) = nI 0) ∧ (∀ j, j < 40 * k ∨ 40 * k + 40 ≤ j → q.2.1 199 j = s.1 199 j) ∧ (∀ j, j ≠ 199 → q.2.1 j = (wI (wI s1 197 k (nI L)) 198 k (nI z)).1 j)) (fun t => t.1 = nI 1 ∧ (∀ j, j < 40 → t.2.1 199 (40 * k + j) = nI 0) ∧ (∀ j, j < 40 * k ∨ 40 * k + 40 ≤ j → t.2.1 199 j = s.1 199 j) ∧ (∀ j, j ≠ 199 → t.2.1 j = (wI (wI s1 197 k (nI L)) 198 k (nI z)).1 j)) 40 (fun i q hi hq => by
            obtain ⟨x, s3⟩ := q
            obtain ⟨q1, q2, q3, q4⟩ := hq
            dsimp only at q1 q2 q3 q4 ⊢
            subst q1
            unfold f_X7_sheet_L40
            simp only [pk_mul, nI_add]
            rw [if_neg (nI_ge hi (by decide)), if_pos (ib199 (by omega)), bd_s, nI_clamp (by omega)]
            refine ⟨_, rfl, rfl, fun j hj => ?_, fun j hj => ?_, fun j hj => ?_⟩
            · dsimp only
              by_cases e : j = i
              · subst e; rw [wI_at]
              · rw [wI_ne (by omega)]; exact q2 j (by omega)
            · dsimp only
              rw [wI_ne (by omega)]; exact q3 j hj
            · dsimp only
              rw [wI_1o hj]; exact q4 j hj) (fun q hq => by
            obtain ⟨x, s3⟩ := q
            obtain ⟨q1, q2⟩ := hq
            dsimp only at q1 q2 ⊢
            subst q1
            unfold f_X7_sheet_L40
            rw [if_pos (by decide)]
            exact ⟨_, rfl, rfl, q2⟩) (q := (nI 0, wI (wI s1 197 k (nI L)) 198 k (nI z))) ⟨rfl, fun j hj => absurd hj (by omega), fun j hj => by rw [wI_1o (by decide), wI_1o (by decide), f1 199 (by omega) (by omega)], fun _ _ => rfl⟩ (Fu_lt (by omega))
          obtain ⟨x, s2⟩ := t
          obtain ⟨rfl, k3, k4, k5⟩ := k2
          dsimp only at k3 k4 k5
          refine ⟨nI 1, s1, s2, ?_, ?_, by omega, nl, ns, g, (gd_sh hG (fun j q1 q2 q3 q4 => ?_) (fun i hi => ?_)).mono (by omega)⟩
          · unfold f_X6_sheet f_X4_renew
            rw [g_sheet hk, cl_s, if1', g_lane hL, cl_s, if1', if_pos h40, if_pos h0, if_pos m1, bd_s, nI_clamp hk2, if_pos m2, if_pos m2, bd_s, bd_s, show 181 + 2 * k + 1 = 182 + 2 * k by omega, a1, cl_s, cl_s]
          · unfold f_X7_sheet
            rw [g7_sheet hk hL, cl_s, if1', if_pos h40, if_pos h0, if_pos m4, bd_s, if_pos m5, bd_s, nI_clamp hk2, k1]
          · rw [k5 j q4, wI_1o q3, wI_1o q2, f1 j (by omega) (by omega)]
          · have hs := hG.2.2.2.2.2.2.2.2.2.2.1 i hi
            have e197 : s2.1 197 = (wI s1 197 k (nI L)).1 197 := by rw [k5 197 (by decide), wI_1o (by decide)]
            have e198 : s2.1 198 = (wI (wI s1 197 k (nI L)) 198 k (nI z)).1 198 := by rw [k5 198 (by decide)]
            by_cases e : i = k
            · subst e
              have c1 : s2.1 (181 + 2 * i) = (wI (wI s (181 + 2 * i) 0 (nI L)) (181 + 2 * i) 1 (nI z)).1 (181 + 2 * i) := by rw [k5 _ (by omega), wI_1o (by omega), wI_1o (by omega), a3 _ (by omega)]
              have c2 : s2.1 (182 + 2 * i) = s1.1 (182 + 2 * i) := by rw [k5 _ (by omega), wI_1o (by omega), wI_1o (by omega)]
              refine ⟨Or.inr ⟨L, hL, ?_, ?_⟩, ⟨z, hz40, ?_, ?_⟩, fun j hj => ?_⟩
              · rw [c1, wI_ne (by decide), wI_at]
              · rw [e197, wI_at]
              · rw [c1, wI_at]
              · rw [e198, wI_at]
              · rw [c2, a2 j hj, k3 j hj]
            · have c1 : s2.1 (181 + 2 * i) = s.1 (181 + 2 * i) := by rw [k5 _ (by omega), wI_1o (by omega), wI_1o (by omega), f1 _ (by omega) (by omega)]
              have c2 : s2.1 (182 + 2 * i) = s.1 (182 + 2 * i) := by rw [k5 _ (by omega), wI_1o (by omega), wI_1o (by omega), f1 _ (by omega) (by omega)]
              unfold SH at hs ⊢
              rw [c1, c2, e197, e198, wI_ne e, wI_ne e, wI_1o (by decide), f1 197 (by omega) (by omega), f1 198 (by omega) (by omega)]
              refine ⟨hs.1, hs.2.1, fun j hj => ?_⟩
              rw [k4 _ (by omega)]; exact hs.2.2 j hj
        · refine qs (-14) hn hG ?_ ?_
          · unfold f_X6_sheet
            rw [g_sheet hk, cl_s, if1', g_lane hL, cl_s, if1', if_pos h40, if_neg h0]
          · unfold f_X7_sheet
            rw [g7_sheet hk hL, cl_s, if1', if_pos h40, if_neg h0]
      · refine qs (-1) hn hG ?_ ?_
        · unfold f_X6_sheet
          rw [g_sheet hk, cl_s, if1', g_lane hL, cl_s, if1', if_neg h40]
        · unfold f_X7_sheet
          rw [g7_sheet hk hL, cl_s, if1', if_neg h40]
    · refine qs (-1) hn hG ?_ ?_
      · unfold f_X6_sheet
        rw [g_sheet hk, cl_s, if1', g_lane_n hb, cl_s, if0']
      · unfold f_X7_sheet
        rw [g7_sheet_n2 hk hb, cl_s, if0']
  · refine qs (-1) hn hG ?_ ?_
    · unfold f_X6_sheet
      rw [g_sheet_n ha, cl_s, if0']
    · unfold f_X7_sheet
      rw [g7_sheet_n1 ha, cl_s, if0']
theorem b_isNothing {r : Nat} (hr : kd r = 4) {s : St} (h : s.1 r 0 = -1) : f_X4_isNothing r s = some (nI 1, s) := by
  unfold f_X4_isNothing
  rw [if_pos hr, if_neg (fun q => q h)]
theorem b_isNothing_n {r L : Nat} (hr : kd r = 4) {s : St} (hL : L < 3) (h : s.1 r 0 = nI L) : f_X4_isNothing r s = some (nI 0, s) := by
  unfold f_X4_isNothing
  rw [if_pos hr, if_pos]
  rw [h]
  rcases (show L = 0 ∨ L = 1 ∨ L = 2 by omega) with rfl | rfl | rfl <;> decide
theorem lane4 {L : Nat} (hL : L < 3) : ¬ nI L = -4 := by
  rcases (show L = 0 ∨ L = 1 ∨ L = 2 by omega) with rfl | rfl | rfl <;> decide
theorem sz1 {z : Nat} (hz : z ≤ 40) : (nI z - nI 1).toInt = (z : Int) - 1 := by
  by_cases h : z = 0
  · subst h; decide
  · rw [pk_sub (by omega), nI_toInt (by omega)]; omega
theorem b7_wsz {z : Nat} (hz : z ≤ 40) (a : Int32) (s : St) : f_X7_within a.toInt64 (lN 0) ((nI z - nI 1).toInt64) s = some (if 0 ≤ a.toInt ∧ a.toInt < z then nI 1 else nI 0, s) := by
  rw [b7_within]
  simp only [Int64.le_iff_toInt_le, Int32.toInt_toInt64, lN_toInt (show 0 < 2 ^ 31 by decide), sz1 hz]
  by_cases h2 : 0 ≤ a.toInt ∧ a.toInt < z
  · rw [if_pos (show ((0 : Nat) : Int) ≤ a.toInt ∧ a.toInt ≤ (z : Int) - 1 by omega), if_pos h2]
  · rw [if_neg (show ¬ (((0 : Nat) : Int) ≤ a.toInt ∧ a.toInt ≤ (z : Int) - 1) by omega), if_neg h2]
theorem op_lay : Op3 f_X6_lay f_X7_lay Good := by
  intro n s a b c hn hG
  obtain ⟨-, nl, ns, g, hG⟩ := hG
  rcases rng a (3 + 1) with ⟨k, hk, hk2, rfl⟩ | ha
  · obtain ⟨m1, m2, m3, m4, m5⟩ := sh_a k hk
    obtain ⟨q1, ⟨z, hz, q2, q3⟩, q4⟩ := hG.2.2.2.2.2.2.2.2.2.2.1 k hk
    rcases q1 with ⟨x1, x2⟩ | ⟨L, hL, x1, x2⟩
    · refine qs (-11) hn hG ?_ ?_
      · unfold f_X6_lay f_X4_faultAt
        rw [g_sheet hk, cl_s, if1, if_pos m1, bd_s, nI_clamp hk2, if_pos m2, if_pos m2, b_isNothing m2 x1, cl_s, if1', cl_s, if1']
        rfl
      · unfold f_X7_lay
        rw [g7_sheet hk (by decide), cl_s, if1, if_pos m4, nI_clamp hk2, if_neg (fun q => q x2)]
    · rcases rng b z with ⟨i, hi, hi2, rfl⟩ | hb
      · have go : ∀ v : Int32, (L = 0 → v = c.toInt8.toInt32) → (L = 1 → v = c.toInt16.toInt32) → (L = 2 → v = c) → ∃ v s1 s2, f_X6_lay (nI k) (nI i) c s = some (v, s1) ∧ f_X7_lay (nI k) (nI i) c s1 = some (v, s2) ∧ Good (n + 1) s2 := by
          intro v v0 v1 v2
          have e197 : (wI s (182 + 2 * k) i v).1 197 k = nI L := by rw [wI_1o (by omega)]; exact x2
          have e198 : (wI s (182 + 2 * k) i v).1 198 k = nI z := by rw [wI_1o (by omega)]; exact q3
          refine ⟨nI 1, wI s (182 + 2 * k) i v, wI (wI s (182 + 2 * k) i v) 199 (40 * k + i) v, ?_, ?_, by omega, nl, ns, g, (gd_sh hG (fun j p1 p2 p3 p4 => ?_) (fun j hj => ?_)).mono (by omega)⟩
          · unfold f_X6_lay f_X4_faultAt f_X4_put
            rw [g_sheet hk, cl_s, if1, if_pos m1, bd_s, nI_clamp hk2, if_pos m2, if_pos m2, b_isNothing_n m2 hL x1, cl_s, if0', if_pos rfl, if_neg (nI_pos (by omega)), q2, if_pos (nI_lt hi (by omega)), cl_s, if0', if_pos m2, x1, show 181 + 2 * k + 1 = 182 + 2 * k by omega, m3, if_pos (inb_t (by omega) (by decide)), bd_s, nI_clamp hi2]
            rcases (show L = 0 ∨ L = 1 ∨ L = 2 by omega) with rfl | rfl | rfl
            · rw [if0, if_pos (inb_t (by omega) (by decide)), bd_s, cl_s, v0 rfl]
            · rw [if1, if_neg (fun q => q rfl), if_pos (inb_t (by omega) (by decide)), bd_s, cl_s, v1 rfl]
            · rw [if_pos (by decide), if_pos (by decide), cl_s, v2 rfl]
          · unfold f_X7_lay
            rw [g7_sheet hk (by decide), cl_s, if1, if_pos m4, nI_clamp hk2, e197, if_pos (lane4 hL), if_pos m5, e198, b7_wsz hz, cl_s, if_pos (nI_ti hi2 hi), if1, e197]
            simp only [pk_mul, nI_add]
            rw [if_pos (ib199 (by omega)), bd_s, nI_clamp (by omega)]
            rcases (show L = 0 ∨ L = 1 ∨ L = 2 by omega) with rfl | rfl | rfl
            · rw [if0, if_pos (ib199 (by omega)), bd_s, v0 rfl]
            · rw [if1, if_neg (by simp), if_pos (ib199 (by omega)), bd_s, v1 rfl]
            · rw [if_pos (by decide), if_pos (by decide), v2 rfl]
          · rw [wI_1o p4, wI_1o (by omega)]
          · have hs := hG.2.2.2.2.2.2.2.2.2.2.1 j hj
            unfold SH at hs ⊢
            simp (disch := omega) only [wI_1o]
            refine ⟨hs.1, hs.2.1, fun t ht => ?_⟩
            by_cases e : j = k
            · subst e
              by_cases e2 : t = i
              · subst e2; rw [wI_at, wI_at]
              · rw [wI_ne e2, wI_ne (by omega), wI_1o (by omega)]; exact hs.2.2 t ht
            · rw [wI_1o (by omega), wI_ne (by omega), wI_1o (by omega)]; exact hs.2.2 t ht
        rcases (show L = 0 ∨ L = 1 ∨ L = 2 by omega) with rfl | rfl | rfl
        · exact go _ (fun _ => rfl) (fun q => absurd q (by decide)) (fun q => absurd q (by decide))
        · exact go _ (fun q => absurd q (by decide)) (fun _ => rfl) (fun q => absurd q (by decide))
        · exact go _ (fun q => absurd q (by decide)) (fun q => absurd q (by decide)) (fun _ => rfl)
      · refine qs (-12) hn hG ?_ ?_
        · unfold f_X6_lay f_X4_faultAt
          rw [g_sheet hk, cl_s, if1, if_pos m1, bd_s, nI_clamp hk2, if_pos m2, if_pos m2, b_isNothing_n m2 hL x1, cl_s, if0', if_pos rfl]
          by_cases h0 : b < 0
          · rw [if_pos h0, cl_s, if_neg (by decide)]; rfl
          · obtain ⟨y, hy, rfl⟩ := nI_of h0
            rw [nI_toInt hy] at hb
            rw [if_neg h0, q2, if_neg (fun q => by rw [nI_ltI hy (by omega)] at q; omega), cl_s, if_neg (by decide)]; rfl
        · unfold f_X7_lay
          rw [g7_sheet hk (by decide), cl_s, if1, if_pos m4, nI_clamp hk2, x2, if_pos (lane4 hL), if_pos m5, q3, b7_wsz hz, cl_s, if_neg hb, if0]
  · refine qs (-1) hn hG ?_ ?_
    · unfold f_X6_lay
      rw [g_sheet_n ha, cl_s, if0]
    · unfold f_X7_lay
      rw [g7_sheet_n1 ha, cl_s, if0]
/-- the reference's count: the PRICES first -/
theorem b7_count {s : St} {nl ns T : Nat} {g : Nat → Nat} {a v : Int32} (h3 : s.1 189 3 = nI nl) (h4 : s.1 189 4 = nI ns) (hg : ∀ j, j < 131 → s.1 190 j = nI (g j)) (hW : WF nl ns T g) (hv : ∀ s2, NR s2 nl ns g → Sn s s2 → f_X7_count_L8 a (nI (sm (fun i => g (38 + g (12 + 2 * i) % 4)) ns)) (nI ns) s2 = some (Sum.inr (v, s2))) : ∃ s2, f_X7_count a s = some (v, s2) ∧ Qf s s2 := by
  obtain ⟨s1, e1, e2, e3⟩ := b7_starts h3 h4 hg
  have hm := hW.2.1
  have g1 : ∀ j, j < 131 → s1.1 190 j = nI (g j) := by rw [e3.1 190 (by decide) (by decide)]; exact hg
  refine ⟨s1, ?_, e3.qf⟩
  unfold f_X7_count
  rw [e1, cl_s]
  refine lp_run (fun k => (nI (sm (fun i => g (38 + g (12 + 2 * i) % 4)) k), nI k, s1)) ns _ (fun k hk => ?_) ?_ rfl (Fu_lt (by omega))
  · dsimp only
    have hp := (hW.2.2.2.2.1 k hk).1
    unfold f_X7_count_L8
    simp only [pk_mul, nI_add]
    rw [e2.2.1, if_neg (nI_ge hk (by omega)), if_pos (ib190 (by omega)), nI_clamp (by omega), g1 _ (by omega), pk_rem (by omega) (by decide) (by decide), nI_add, if_pos (ib190 (by omega)), bd_s, nI_clamp (by omega), g1 _ (by omega), nI_add]
    rfl
  · exact hv s1 e2 e3
theorem op_count : Op1 f_X6_count f_X7_count Good := by
  intro n s a hn hG
  obtain ⟨-, nl, ns, g, hG⟩ := hG
  have hG' := hG
  obtain ⟨h1, h2, h3, h4, h5, h6, h7, h8, h9, h10, h11, h12⟩ := hG'
  have hnl := h2.1
  have hns := h2.2.1
  have fin : ∀ v, f_X6_count a s = some (v, s) → (∀ s2, NR s2 nl ns g → Sn s s2 → f_X7_count_L8 a (nI (sm (fun i => g (38 + g (12 + 2 * i) % 4)) ns)) (nI ns) s2 = some (Sum.inr (v, s2))) → ∃ v s1 s2, f_X6_count a s = some (v, s1) ∧ f_X7_count a s1 = some (v, s2) ∧ Good (n + 1) s2 := by
    intro v e1 e2
    obtain ⟨s2, k1, k2⟩ := b7_count h6 h7 h8 h2 e2
    exact ⟨v, s, s2, e1, k1, by omega, nl, ns, g, (hG.qf k2).mono (by omega)⟩
  have st : ∀ s2 : St, NR s2 nl ns g → s2.1 189 4 = nI ns := fun s2 q => q.2.1
  rcases rng a 6 with ⟨k, hk, hk2, rfl⟩ | ha
  · rcases (show k = 0 ∨ k = 1 ∨ k = 2 ∨ k = 3 ∨ k = 4 ∨ k = 5 by omega) with rfl | rfl | rfl | rfl | rfl | rfl
    · refine fin (nI (g 106)) ?_ (fun s2 q1 q2 => ?_)
      · unfold f_X6_count
        rw [if_pos rfl, (R27 h4).1]
      · unfold f_X7_count_L8
        rw [q1.2.1, if_pos (nI_le (Nat.le_refl _) (by omega)), if_pos rfl, if_pos (ib190 (by decide)), nI_clamp (by decide), q2.1 190 (by decide) (by decide), h8 106 (by decide)]
    · have fl : ∀ k, k < 2 → ∃ x : Nat, s.1 (143 + 19 * k) 0 = nI x ∧ s.1 192 k = nI x ∧ (x = 0 ∨ x = 1) := fun k hk => by
        rcases h9 k hk with ⟨e1, e2⟩ | ⟨e1, e2, -⟩
        · exact ⟨0, e1, e2, Or.inl rfl⟩
        · exact ⟨1, e1, e2, Or.inr rfl⟩
      obtain ⟨x, x1, x2, x3⟩ := fl 0 (by decide)
      obtain ⟨y, y1, y2, y3⟩ := fl 1 (by decide)
      refine fin (nI (x + y)) ?_ (fun s2 q1 q2 => ?_)
      · have J : ∀ k0 : Nat, f_X6_count_J65 (nI k0) s = some (nI (k0 + y), s) := fun k0 => by
          unfold f_X6_count_J65
          rw [if_pos (by decide), bd_s, nI_clamp (by decide), if_pos (by decide), y1, nI_add, nI_add]
          rcases y3 with rfl | rfl <;> rfl
        unfold f_X6_count
        rw [if_neg (by decide), if_pos rfl, if_pos (by decide), bd_s, nI_clamp (by decide), if_pos (by decide), x1, J, J]
        rcases x3 with rfl | rfl <;> rfl
      · unfold f_X7_count_L8
        rw [q1.2.1, if_pos (nI_le (Nat.le_refl _) (by omega)), if_neg (by decide), if_pos rfl, if_pos (by decide), nI_clamp (by decide), q2.1 192 (by decide) (by decide), x2, b7_flag, cl_s, if_pos (by decide), nI_clamp (by decide), q2.1 192 (by decide) (by decide), y2, b7_flag, cl_s]
        rcases x3 with rfl | rfl <;> rcases y3 with rfl | rfl <;> rfl
    · obtain ⟨len, t1, t2, t3, t4, t5⟩ := h10
      refine fin (nI len) ?_ (fun s2 q1 q2 => ?_)
      · unfold f_X6_count
        rw [if_neg (by decide), if_neg (by decide), if_pos rfl, t2]
      · unfold f_X7_count_L8
        rw [q1.2.1, if_pos (nI_le (Nat.le_refl _) (by omega)), if_neg (by decide), if_neg (by decide), if_pos rfl, q2.1 189 (by decide) (by decide), t3]
    · obtain ⟨q1, ⟨z, hz, z2, z3⟩, q4⟩ := h11 0 (by decide)
      rcases q1 with ⟨x1, x2⟩ | ⟨L, hL, x1, x2⟩
      · refine fin (-4) ?_ (fun s2 q1 q2 => ?_)
        · unfold f_X6_count
          rw [if_neg (by decide), if_neg (by decide), if_neg (by decide), if_pos rfl, if_pos (by decide), bd_s, nI_clamp (by decide), if_pos (by decide), b_isNothing (by decide) x1, cl_s, if1']
        · unfold f_X7_count_L8
          rw [q1.2.1, if_pos (nI_le (Nat.le_refl _) (by omega)), if_neg (by decide), if_neg (by decide), if_neg (by decide), if_pos rfl, if_pos (by decide), nI_clamp (by decide), q2.1 197 (by decide) (by decide), if_neg (fun q => q x2)]
      · refine fin (nI z) ?_ (fun s2 q1 q2 => ?_)
        · unfold f_X6_count
          rw [if_neg (by decide), if_neg (by decide), if_neg (by decide), if_pos rfl, if_pos (by decide), bd_s, nI_clamp (by decide), if_pos (by decide), b_isNothing_n (by decide) hL x1, cl_s, if0', bd_s, if_pos (by decide), z2]
        · unfold f_X7_count_L8
          rw [q1.2.1, if_pos (nI_le (Nat.le_refl _) (by omega)), if_neg (by decide), if_neg (by decide), if_neg (by decide), if_pos rfl, if_pos (by decide), nI_clamp (by decide), q2.1 197 (by decide) (by decide), x2, if_pos (lane4 hL), if_pos (by decide), q2.1 198 (by decide) (by decide), z3]
    · refine fin (nI (sm (fun l => g (4 * l + 3)) nl)) ?_ (fun s2 q1 q2 => ?_)
      · unfold f_X6_count
        rw [if_neg (by decide), if_neg (by decide), if_neg (by decide), if_neg (by decide), if_pos rfl, b_sumOfLives isR1 h1 hnl (by decide) (f := fun l => g (4 * l + 3)) (fun l hl => ((R1 h1).2.2.2.1 l hl).2.2.2), cl_s]
      · unfold f_X7_count_L8
        rw [q1.2.1, if_pos (nI_le (Nat.le_refl _) (by omega)), if_neg (by decide), if_neg (by decide), if_neg (by decide), if_neg (by decide), if_pos rfl, b7_allLeft q1 hnl, cl_s]
    · refine fin (nI (sm (fun i => g (38 + g (12 + 2 * i) % 4)) ns)) ?_ (fun s2 q1 q2 => ?_)
      · unfold f_X6_count
        rw [if_neg (by decide), if_neg (by decide), if_neg (by decide), if_neg (by decide), if_neg (by decide), if_pos rfl, b_prices isR1 h1 h2, cl_s]
      · unfold f_X7_count_L8
        rw [q1.2.1, if_pos (nI_le (Nat.le_refl _) (by omega)), if_neg (by decide), if_neg (by decide), if_neg (by decide), if_neg (by decide), if_neg (by decide), if_pos rfl]
  · refine fin (-1) ?_ (fun s2 q1 q2 => ?_)
    · unfold f_X6_count
      rw [if_neg (ne_n ha (k := 0) (by decide) (by decide)), if_neg (ne_n ha (k := 1) (by decide) (by decide)), if_neg (ne_n ha (k := 2) (by decide) (by decide)), if_neg (ne_n ha (k := 3) (by decide) (by decide)), if_neg (ne_n ha (k := 4) (by decide) (by decide)), if_neg (ne_n ha (k := 5) (by decide) (by decide)), if_pos (by omega)]
    · unfold f_X7_count_L8
      rw [q1.2.1, if_pos (nI_le (Nat.le_refl _) (by omega)), if_neg (ne_n ha (k := 0) (by decide) (by decide)), if_neg (ne_n ha (k := 1) (by decide) (by decide)), if_neg (ne_n ha (k := 2) (by decide) (by decide)), if_neg (ne_n ha (k := 3) (by decide) (by decide)), if_neg (ne_n ha (k := 4) (by decide) (by decide)), if_neg (ne_n ha (k := 5) (by decide) (by decide)), if_pos (by omega)]

/-! luck and mean: the reference's sums -/
theorem wts_s {v k : Nat} {b : Nat → Bool} : wts v b (k + 1) = wts v b k * (if b k = true then v else 10 - v) := rfl
theorem pth_s {nl ns k : Nat} {b : Nat → Bool} {g : Nat → Nat} : pth nl ns b g (k + 1) = stp nl ns (if b k = true then 0 else wy (pth nl ns b g k)) (pth nl ns b g k) := rfl
theorem r_path {s : St} {nl ns T v i n j A B : Nat} {g : Nat → Nat} (hR : NR s nl ns g) (hW : WF nl ns T g) (h42 : g 42 + n ≤ 2000) (hn : n ≤ 8) (hj : j < 256) (hv : v ≤ 10) (hi : i < ns) (e19 : s.2 189 19 = lN A) (e20 : s.2 189 20 = lN B) : ∃ s2, lp (fun q : Int64 × Int32 × St => f_X7_findOdds_L70 (nI v) (nI i) (nI n) (nI j) (nI (hb g i)) q.1 q.2.1 q.2.2) Fu (lN 1, nI 0, s) = some (Sum.inl (nI (j + 1), s2)) ∧ (∀ k, k ≠ 191 → k ≠ 195 → s2.1 k = s.1 k) ∧ s2.2 189 19 = lN (A + (if 0 < hb (pth nl ns (bt j) g n) i - hb g i then wts v (bt j) n else 0)) ∧ s2.2 189 20 = lN (B + wts v (bt j) n * (hb (pth nl ns (bt j) g n) i - hb g i)) ∧ s2.2 189 21 = s.2 189 21 := by
  have hns := hW.2.1
  obtain ⟨t, k1, s2, k2, k3⟩ := lp_inv (body := fun q : Int64 × Int32 × St => f_X7_findOdds_L70 (nI v) (nI i) (nI n) (nI j) (nI (hb g i)) q.1 q.2.1 q.2.2) (fun k q => q.1 = lN (wts v (bt j) k) ∧ q.2.1 = nI k ∧ NR q.2.2 nl ns (pth nl ns (bt j) g k) ∧ Sn s q.2.2) (fun t => ∃ s2, t = Sum.inl (nI (j + 1), s2) ∧ (∀ k, k ≠ 191 → k ≠ 195 → s2.1 k = s.1 k) ∧ s2.2 189 19 = lN (A + (if 0 < hb (pth nl ns (bt j) g n) i - hb g i then wts v (bt j) n else 0)) ∧ s2.2 189 20 = lN (B + wts v (bt j) n * (hb (pth nl ns (bt j) g n) i - hb g i)) ∧ s2.2 189 21 = s.2 189 21) n (fun k q hk hq => by
    obtain ⟨x, y, s3⟩ := q
    obtain ⟨q1, q2, q3, q4⟩ := hq
    dsimp only at q1 q2 q3 q4 ⊢
    subst q1; subst q2
    obtain ⟨w1, w2⟩ := pth_WF (b := bt j) hW (k := k) (by omega)
    unfold f_X7_findOdds_L70
    rw [if_neg (nI_ge hk (by omega)), bitm k (by omega) j hj]
    by_cases c : j / 2 ^ k % 2 = 1
    · have hbt : bt j k = true := by unfold bt; rw [c]; rfl
      obtain ⟨s4, a1, a2, a3⟩ := b7_stepw q3 w1 (nI 1)
      rw [if1'] at a2
      rw [c, if_neg (fun q => q rfl)]
      unfold f_X7_findOdds_J92 f_X7_findOdds_J111
      rw [if1', bd_s, a1, cl_s, nI_l (by omega), lN_mul, nI_add]
      refine ⟨_, rfl, ?_, rfl, ?_, q4.tr a3⟩
      · rw [wts_s, if_pos hbt]
      · rw [pth_s, if_pos hbt]; exact a2
    · have hbt : ¬ bt j k = true := by unfold bt; simp [c]
      have c0 : j / 2 ^ k % 2 = 0 := by omega
      obtain ⟨s4, a1, a2, a3⟩ := b7_stepw q3 w1 (nI 0)
      rw [if0'] at a2
      rw [c0, if_pos (by decide)]
      unfold f_X7_findOdds_J92 f_X7_findOdds_J111
      rw [if0', bd_s, a1, cl_s, pk_sub hv, nI_l (by omega), lN_mul, nI_add]
      refine ⟨_, rfl, ?_, rfl, ?_, q4.tr a3⟩
      · rw [wts_s, if_neg hbt]
      · rw [pth_s, if_neg hbt]; exact a2) (fun q hq => by
    obtain ⟨x, y, s3⟩ := q
    obtain ⟨q1, q2, q3, q4⟩ := hq
    dsimp only at q1 q2 q3 q4 ⊢
    subst q1; subst q2
    obtain ⟨w1, w2⟩ := pth_WF (b := bt j) hW (k := n) (by omega)
    have hle := pth_hb (b := bt j) hW hi (k := n) (by omega)
    have h6 := hb_le w1 (i := i) (by omega)
    have f19 : s3.2 189 19 = lN A := by rw [q4.2]; exact e19
    have f20 : s3.2 189 20 = lN B := by rw [q4.2]; exact e20
    unfold f_X7_findOdds_L70
    rw [if_pos (nI_le (Nat.le_refl _) (by omega)), b7_hb q3 (by omega), cl_s, bd_s, pk_sub hle, f19]
    have hd6 : hb (pth nl ns (bt j) g n) i - hb g i ≤ 60000 := by omega
    generalize hb (pth nl ns (bt j) g n) i - hb g i = d at *
    by_cases c : 0 < d
    · rw [if_neg (fun q => by rw [nI_le0 (by omega)] at q; omega)]
      unfold f_X7_findOdds_J152
      rw [bd_s, bd_s, ox_s, nI_add]
      refine ⟨_, rfl, _, rfl, fun k h1 h2 => q4.1 k h1 h2, ?_, ?_, ?_⟩
      · rw [wJ_ne (by decide), wJ_at, lN_add, if_pos c]
      · rw [wJ_at, wJ_ne (by decide), f20, nI_l (by omega), lN_mul, lN_add]
      · rw [wJ_ne (by decide), wJ_ne (by decide), q4.2]
    · have d0 : d = 0 := by omega
      rw [if_pos ((nI_le0 (by omega)).mpr d0)]
      unfold f_X7_findOdds_J152
      rw [bd_s, bd_s, ox_s, nI_add]
      refine ⟨_, rfl, _, rfl, fun k h1 h2 => q4.1 k h1 h2, ?_, ?_, ?_⟩
      · rw [wJ_ne (by decide), wJ_at, lN_add, if_neg c]
      · rw [wJ_at, wJ_ne (by decide), f20, nI_l (by omega), lN_mul, lN_add]
      · rw [wJ_ne (by decide), wJ_ne (by decide), q4.2]) (q := (lN 1, nI 0, s)) ⟨rfl, rfl, hR, Sn.rf⟩ (Fu_lt (by omega))
  subst k2
  exact ⟨s2, k1, k3⟩
theorem r_odds2 {s : St} {nl ns T v i n : Nat} {g : Nat → Nat} (h3 : s.1 189 3 = nI nl) (h4 : s.1 189 4 = nI ns) (hg : ∀ j, j < 131 → s.1 190 j = nI (g j)) (hW : WF nl ns T g) (h42 : g 42 + n ≤ 2000) (hn : n ≤ 8) (hv : v ≤ 10) (hi : i < ns) (e19 : s.2 189 19 = lN 0) (e20 : s.2 189 20 = lN 0) : ∃ s2, lp (fun q : Int32 × St => f_X7_findOdds_L45 (nI v) (nI i) (nI n) q.1 q.2) Fu (nI 0, s) = some ((), s2) ∧ (∀ k, k ≠ 191 → k ≠ 195 → s2.1 k = s.1 k) ∧ s2.2 189 19 = lN (vl nl ns v i false n g) ∧ s2.2 189 20 = lN (vl nl ns v i true n g) ∧ s2.2 189 21 = s.2 189 21 := by
  have hns := hW.2.1
  have hp : 2 ^ n ≤ 256 := Nat.le_trans (Nat.pow_le_pow_right (by decide) hn) (by decide)
  have r0 := rsum_vl false hv hi hW h42
  have r1 := rsum_vl true hv hi hW h42
  unfold rsum at r0 r1
  simp only [Bool.false_eq_true, if_false] at r0
  simp only [if_true] at r1
  obtain ⟨t, k1, k2⟩ := lp_inv (body := fun q : Int32 × St => f_X7_findOdds_L45 (nI v) (nI i) (nI n) q.1 q.2) (fun j q => q.1 = nI j ∧ (∀ k, k ≠ 191 → k ≠ 195 → q.2.1 k = s.1 k) ∧ q.2.2 189 19 = lN (sm (fun s => if 0 < hb (pth nl ns (bt s) g n) i - hb g i then wts v (bt s) n else 0) j) ∧ q.2.2 189 20 = lN (sm (fun s => wts v (bt s) n * (hb (pth nl ns (bt s) g n) i - hb g i)) j) ∧ q.2.2 189 21 = s.2 189 21) (fun t => (∀ k, k ≠ 191 → k ≠ 195 → t.2.1 k = s.1 k) ∧ t.2.2 189 19 = lN (vl nl ns v i false n g) ∧ t.2.2 189 20 = lN (vl nl ns v i true n g) ∧ t.2.2 189 21 = s.2 189 21) (2 ^ n) (fun j q hj hq => by
    obtain ⟨x, s3⟩ := q
    obtain ⟨q1, q2, q3, q4, q5⟩ := hq
    dsimp only at q1 q2 q3 q4 q5 ⊢
    subst q1
    unfold f_X7_findOdds_L45
    obtain ⟨s4, a1, a2, a3⟩ := b7_starts (s := s3) (nl := nl) (ns := ns) (g := g) (by rw [q2 189 (by decide) (by decide)]; exact h3) (by rw [q2 189 (by decide) (by decide)]; exact h4) (fun j hj => by rw [q2 190 (by decide) (by decide)]; exact hg j hj)
    obtain ⟨s5, b1, b2, b3, b4, b5⟩ := r_path (j := j) a2 hW h42 hn (by omega) hv hi (by rw [a3.2]; exact q3) (by rw [a3.2]; exact q4)
    rw [shl1 n hn, if_neg (nI_ge hj (by omega)), a1, cl_s, b7_hb a2 (by omega), cl_s, b1]
    refine ⟨_, rfl, rfl, fun k h1 h2 => ?_, b3, b4, ?_⟩
    · rw [b2 k h1 h2, a3.1 k h1 h2, q2 k h1 h2]
    · rw [b5, a3.2]; exact q5) (fun q hq => by
    obtain ⟨x, s3⟩ := q
    obtain ⟨q1, q2, q3, q4, q5⟩ := hq
    dsimp only at q1 q2 q3 q4 q5 ⊢
    subst q1
    unfold f_X7_findOdds_L45
    rw [shl1 n hn, if_pos (nI_le (Nat.le_refl _) (by omega))]
    exact ⟨_, rfl, q2, by rw [q3, r0], by rw [q4, r1], q5⟩) (q := (nI 0, s)) ⟨rfl, fun _ _ _ => rfl, e19, e20, rfl⟩ (Fu_lt (by omega))
  exact ⟨t.2, k1, k2⟩
theorem r_odds {n' nl ns : Nat} {s : St} {g : Nat → Nat} (hG : Gd n' s nl ns g) {v i n : Nat} (hv : v ≤ 10) (hi : i < ns) (hn : n ≤ 8) : ∃ s2, f_X7_findOdds (nI v) (nI i) (nI n) s = some ((), s2) ∧ Qf s s2 ∧ s2.2 189 19 = lN (vl nl ns v i false n g) ∧ s2.2 189 20 = lN (vl nl ns v i true n g) ∧ s2.2 189 21 = lN (10 ^ n) := by
  have h42 := hG.2.2.1
  unfold f_X7_findOdds
  rw [bd_s, bd_s, bd_s]
  obtain ⟨t, k1, k2, k3, k4, k5⟩ := lp_inv (body := fun q : Int32 × St => f_X7_findOdds_L18 (nI v) (nI i) (nI n) q.1 q.2) (fun k q => q.1 = nI k ∧ q.2.1 = s.1 ∧ q.2.2 189 19 = lN 0 ∧ q.2.2 189 20 = lN 0 ∧ q.2.2 189 21 = lN (10 ^ k)) (fun t => (∀ k, k ≠ 191 → k ≠ 195 → t.2.1 k = s.1 k) ∧ t.2.2 189 19 = lN (vl nl ns v i false n g) ∧ t.2.2 189 20 = lN (vl nl ns v i true n g) ∧ t.2.2 189 21 = lN (10 ^ n)) n (fun k q hk hq => by
    obtain ⟨x, s3⟩ := q
    obtain ⟨q1, q2, q3, q4, q5⟩ := hq
    dsimp only at q1 q2 q3 q4 q5 ⊢
    subst q1
    unfold f_X7_findOdds_L18
    rw [if_neg (nI_ge hk (by omega)), bd_s, nI_add, q5, lN_mul]
    refine ⟨_, rfl, rfl, q2, ?_, ?_, ?_⟩
    · rw [wJ_ne (by decide)]; exact q3
    · rw [wJ_ne (by decide)]; exact q4
    · rw [wJ_at, Nat.pow_succ]) (fun q hq => by
    obtain ⟨x, s3⟩ := q
    obtain ⟨q1, q2, q3, q4, q5⟩ := hq
    dsimp only at q1 q2 q3 q4 q5 ⊢
    subst q1
    unfold f_X7_findOdds_L18
    obtain ⟨s4, a1, a2, a3, a4, a5⟩ := r_odds2 (s := s3) (by rw [q2]; exact hG.2.2.2.2.2.1) (by rw [q2]; exact hG.2.2.2.2.2.2.1) (by rw [q2]; exact hG.2.2.2.2.2.2.2.1) hG.2.1 (show g 42 + n ≤ 2000 by omega) hn hv hi q3 q4
    rw [if_pos (nI_le (Nat.le_refl _) (by omega)), a1, ox_s]
    exact ⟨_, rfl, fun k h1 h2 => by rw [a2 k h1 h2, q2], a3, a4, by rw [a5]; exact q5⟩) (q := (nI 0, wJ (wJ (wJ s 189 19 (lN 0)) 189 20 (lN 0)) 189 21 (lN 1))) ⟨rfl, rfl, by rw [wJ_ne (by decide), wJ_ne (by decide), wJ_at], by rw [wJ_ne (by decide), wJ_at], by rw [wJ_at, Nat.pow_zero]⟩ (Fu_lt (by omega))
  exact ⟨t.2, k1, fun k a b c d e f i => k2 k c e, k3, k4, k5⟩
theorem g_odds {s : St} {n' nl ns v i n w : Nat} {g : Nat → Nat} (hG : Gd n' s nl ns g) (hv : v ≤ 10) (hi : i < ns) (hn : n ≤ 8) (hw : w ≤ 1) : f_X6_areOdds (nI v) (nI i) (nI n) (nI w) s = some (nI 1, s) := by
  unfold f_X6_areOdds
  rw [g_win hv (by decide), cl_s, if1', g_sit isR1 hG.1 hG.2.1.2.1 hi, cl_s, if1', g_win hn (by decide), cl_s, if1', g_win hw (by decide), cl_s, if1']
theorem g7_odds {s : St} {n' nl ns v i n w : Nat} {g : Nat → Nat} (hG : Gd n' s nl ns g) (hv : v ≤ 10) (hi : i < ns) (hn : n ≤ 8) (hw : w ≤ 1) : f_X7_isOdds (nI v) (nI i) (nI n) (nI w) s = some (nI 1, s) := by
  unfold f_X7_isOdds
  rw [g7_win hv (by decide), cl_s, if1', g7_sit hG.2.2.2.2.2.2.1 hG.2.1.2.1 hi, cl_s, if1', g7_win hn (by decide), cl_s, if1', g7_part hw, cl_s, if1']
/-- either the numbers are as told, or both refuse -/
theorem odds_or {n' nl ns : Nat} {s : St} {g : Nat → Nat} (hG : Gd n' s nl ns g) (a b c d : Int32) : (∃ v i n w, v ≤ 10 ∧ i < ns ∧ n ≤ 8 ∧ w ≤ 1 ∧ a = nI v ∧ b = nI i ∧ c = nI n ∧ d = nI w) ∨ (∀ s', Gd n' s' nl ns g → f_X6_areOdds a b c d s' = some (nI 0, s') ∧ f_X7_isOdds a b c d s' = some (nI 0, s')) := by
  have hns := hG.2.1.2.1
  rcases rng a (10 + 1) with ⟨v, hv, -, rfl⟩ | ha
  · rcases rng b ns with ⟨i, hi, -, rfl⟩ | hb
    · rcases rng c (8 + 1) with ⟨n, hn, -, rfl⟩ | hc
      · rcases rng d (1 + 1) with ⟨w, hw, -, rfl⟩ | hd
        · exact Or.inl ⟨v, i, n, w, by omega, hi, by omega, by omega, rfl, rfl, rfl, rfl⟩
        · refine Or.inr (fun s' h' => ⟨?_, ?_⟩)
          · unfold f_X6_areOdds
            rw [g_win (by omega) (by decide), cl_s, if1', g_sit isR1 h'.1 hns hi, cl_s, if1', g_win (by omega) (by decide), cl_s, if1', g_win_n hd (by decide), cl_s, if0']
          · unfold f_X7_isOdds
            rw [g7_win (by omega) (by decide), cl_s, if1', g7_sit h'.2.2.2.2.2.2.1 hns hi, cl_s, if1', g7_win (by omega) (by decide), cl_s, if1', g7_part_n hd, cl_s, if0']
      · refine Or.inr (fun s' h' => ⟨?_, ?_⟩)
        · unfold f_X6_areOdds
          rw [g_win (by omega) (by decide), cl_s, if1', g_sit isR1 h'.1 hns hi, cl_s, if1', g_win_n hc (by decide), cl_s, if0']
        · unfold f_X7_isOdds
          rw [g7_win (by omega) (by decide), cl_s, if1', g7_sit h'.2.2.2.2.2.2.1 hns hi, cl_s, if1', g7_win_n hc (by decide), cl_s, if0']
    · refine Or.inr (fun s' h' => ⟨?_, ?_⟩)
      · unfold f_X6_areOdds
        rw [g_win (by omega) (by decide), cl_s, if1', g_sit_n isR1 h'.1 hns hb, cl_s, if0']
      · unfold f_X7_isOdds
        rw [g7_win (by omega) (by decide), cl_s, if1', g7_sit_n h'.2.2.2.2.2.2.1 hns hb, cl_s, if0']
  · refine Or.inr (fun s' h' => ⟨?_, ?_⟩)
    · unfold f_X6_areOdds
      rw [g_win_n ha (by decide), cl_s, if0']
    · unfold f_X7_isOdds
      rw [g7_win_n ha (by decide), cl_s, if0']
theorem op_luck : Op4L f_X6_luck f_X7_luck Good := by
  intro n s a b c d hn hG
  obtain ⟨-, nl, ns, g, hG⟩ := hG
  rcases odds_or hG a b c d with ⟨v, i, k, w, hv, hi, hk, hw, rfl, rfl, rfl, rfl⟩ | hno
  · have h42 := hG.2.2.1
    have h63 := vl_63 (m := false) hv hi hk hG.2.1 (by omega)
    refine qy (if w = 0 then lN (vl nl ns v i false k g / Nat.gcd (vl nl ns v i false k g) (10 ^ k)) else lN (10 ^ k / Nat.gcd (vl nl ns v i false k g) (10 ^ k))) hn hG ?_ (fun s' h' => ?_)
    · obtain ⟨s2, a1, a2, a3, a4⟩ := c_weigh hG false hv hi hk
      rw [if_neg (show ¬ false = true by decide)] at a1
      refine ⟨s2, ?_, a2⟩
      unfold f_X6_luck
      rw [g_odds hG hv hi hk hw, cl_s, if1, a1, cl_s, a3, a4]
      by_cases w0 : w = 0
      · subst w0; rw [if0, if_pos rfl]
      · rw [if_pos (fun q => w0 ((nI_e0 (by omega)).mp q)), if_neg w0]
    · obtain ⟨s2, a1, a2, a3, a4, a5⟩ := r_odds h' hv hi hk
      refine ⟨s2, ?_, a2⟩
      unfold f_X7_luck
      rw [g7_odds h' hv hi hk hw, cl_s, if1, a1, cl_s, a3, a5, b7_toldL h63 hk (by omega), cl_s]
  · refine qy (-1) hn hG ⟨s, ?_, Qf.rf⟩ (fun s' h' => ⟨s', ?_, Qf.rf⟩)
    · unfold f_X6_luck
      rw [(hno s hG).1, cl_s, if0]
    · unfold f_X7_luck
      rw [(hno s' h').2, cl_s, if0]
theorem op_mean : Op4L f_X6_mean f_X7_mean Good := by
  intro n s a b c d hn hG
  obtain ⟨-, nl, ns, g, hG⟩ := hG
  rcases odds_or hG a b c d with ⟨v, i, k, w, hv, hi, hk, hw, rfl, rfl, rfl, rfl⟩ | hno
  · have h42 := hG.2.2.1
    have h63 := vl_63 (m := true) hv hi hk hG.2.1 (by omega)
    refine qy (if w = 0 then lN (vl nl ns v i true k g / Nat.gcd (vl nl ns v i true k g) (10 ^ k)) else lN (10 ^ k / Nat.gcd (vl nl ns v i true k g) (10 ^ k))) hn hG ?_ (fun s' h' => ?_)
    · obtain ⟨s2, a1, a2, a3, a4⟩ := c_weigh hG true hv hi hk
      rw [if_pos rfl] at a1
      refine ⟨s2, ?_, a2⟩
      unfold f_X6_mean
      rw [g_odds hG hv hi hk hw, cl_s, if1, a1, cl_s, a3, a4]
      by_cases w0 : w = 0
      · subst w0; rw [if0, if_pos rfl]
      · rw [if_pos (fun q => w0 ((nI_e0 (by omega)).mp q)), if_neg w0]
    · obtain ⟨s2, a1, a2, a3, a4, a5⟩ := r_odds h' hv hi hk
      refine ⟨s2, ?_, a2⟩
      unfold f_X7_mean
      rw [g7_odds h' hv hi hk hw, cl_s, if1, a1, cl_s, a4, a5, b7_toldL h63 hk (by omega), cl_s]
  · refine qy (-1) hn hG ⟨s, ?_, Qf.rf⟩ (fun s' h' => ⟨s', ?_, Qf.rf⟩)
    · unfold f_X6_mean
      rw [(hno s hG).1, cl_s, if0]
    · unfold f_X7_mean
      rw [(hno s' h').2, cl_s, if0]

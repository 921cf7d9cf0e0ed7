/-! cheap, clean, need -/
def chf (P M : Nat → Nat) (v c : Nat) (a : Option (Nat × Nat)) : Option (Nat × Nat) := if M c < v then a else match a with
  | none => some (P c, c)
  | some q => if q.1 ≤ P c then some q else some (P c, c)
theorem chf_b {P M : Nat → Nat} {v : Nat} (hP : ∀ c, P c ≤ 9) : ∀ {k : Nat}, ∀ q, it (chf P M v) none k = some q → q.1 ≤ 9 ∧ q.2 < k
  | 0, q, h => by cases h
  | k + 1, q, h => by
    have ih := chf_b (M := M) (v := v) hP (k := k)
    change chf P M v k (it (chf P M v) none k) = some q at h
    unfold chf at h
    by_cases h0 : M k < v
    · rw [if_pos h0] at h
      have := ih q h
      exact ⟨this.1, by omega⟩
    · rw [if_neg h0] at h
      change (match it (chf P M v) none k with
        | none => some (P k, k)
        | some q => if q.1 ≤ P k then some q else some (P k, k)) = some q at h
      cases e : it (chf P M v) none k with
      | none =>
        rw [e] at h
        cases h
        exact ⟨hP k, Nat.lt_succ_self k⟩
      | some r =>
        rw [e] at h
        dsimp only at h
        by_cases h2 : r.1 ≤ P k
        · rw [if_pos h2] at h
          have e2 := Option.some.inj h
          have := ih r e
          rw [← e2]
          exact ⟨this.1, by omega⟩
        · rw [if_neg h2] at h
          cases h
          exact ⟨hP k, Nat.lt_succ_self k⟩
theorem c_enough {n nl ns : Nat} {s : St} {g : Nat → Nat} (hG : Gd n s nl ns g) {s1 : St} (hS : Sm s s1 14 13) {i l c v : Nat} (hi : i < ns) (hl : l < nl) (hc : c < 20) (hv : v < 2 ^ 31) : ∃ s2, f_X6_isEnoughThere (nI i) (nI l) (nI c) (nI v) s1 = some (if stn nl ns (up g (12 + 2 * i) c) 30 (20 + 3 * i + l) < v then nI 0 else nI 1, s2) ∧ Sm s s2 14 13 := by
  have hnl := hG.2.1.1
  have hns := hG.2.1.2.1
  have hT := hG.2.1.T
  have h42 : up g (12 + 2 * i) c 42 ≤ 999 := by rw [up_o (by omega)]; exact hG.2.2.1
  have hb := (stn_WF (wf_place hG.2.1 hi hc) (k := 30) (by omega)).1.has (i := i) (l := l) (by omega) (by omega)
  obtain ⟨s2, a1, a2, a3⟩ := c_sit hG hS hi hc (show 30 ≤ 60 by omega)
  refine ⟨s2, ?_, a3⟩
  unfold f_X6_isEnoughThere
  rw [a1, cl_s, b_held isR14 a2 (by omega) (by omega), cl_s]
  by_cases h0 : stn nl ns (up g (12 + 2 * i) c) 30 (20 + 3 * i + l) < v
  · rw [if_pos (nI_lt h0 hv), if_pos h0]
  · rw [if_neg (nI_nlt (by omega) (by omega)), if_neg h0]
def che (o : Option (Nat × Nat)) : Int32 := match o with
  | none => -4
  | some q => nI (nm q.2)
theorem op_cheap : Op3 f_X6_cheap f_X7_cheap Good := by
  intro n s a b c hn hG
  obtain ⟨-, nl, ns, g, hG⟩ := hG
  have hnl := hG.2.1.1
  have hns := hG.2.1.2.1
  have h42 := hG.2.2.1
  have hT := hG.2.1.T
  rcases rng a ns with ⟨i, hi, hi2, rfl⟩ | ha
  · rcases rng b nl with ⟨l, hl, hl2, rfl⟩ | hb
    · rcases rng1 c (999 + 1) with ⟨v, hv0, hv, hv2, rfl⟩ | hc
      · have hP : ∀ c, g (38 + c % 4) ≤ 9 := fun c => hG.2.1.2.2.2.2.2.2.1 (c % 4) (by omega)
        have hcb := @chf_b (fun c => g (38 + c % 4)) (fun c => stn nl ns (up g (12 + 2 * i) c) 30 (20 + 3 * i + l)) v hP
        refine qy (che (it (chf (fun c => g (38 + c % 4)) (fun c => stn nl ns (up g (12 + 2 * i) c) 30 (20 + 3 * i + l)) v) none 20)) hn hG ?_ (fun s' h' => ?_)
        · obtain ⟨t, h1, h2⟩ := lp_inv (body := fun q : Int32 × Int32 × Int32 × St => f_X6_cheap_L45 (nI i) (nI l) (nI v) q.1 q.2.1 q.2.2.1 q.2.2.2) (fun j q => (q.1, q.2.1) = (match it (chf (fun c => g (38 + c % 4)) (fun c => stn nl ns (up g (12 + 2 * i) c) 30 (20 + 3 * i + l)) v) none j with | none => (nI 10, -1) | some r => (nI r.1, nI r.2)) ∧ q.2.2.1 = nI j ∧ Sm s q.2.2.2 14 13) (fun t => t.1 = che (it (chf (fun c => g (38 + c % 4)) (fun c => stn nl ns (up g (12 + 2 * i) c) 30 (20 + 3 * i + l)) v) none 20) ∧ Sm s t.2 14 13) 20 (fun j q hj hq => by
            obtain ⟨x, y, z, s3⟩ := q
            obtain ⟨q1, q2, q3⟩ := hq
            dsimp only at q1 q2 q3 ⊢
            subst q2
            obtain ⟨s4, c1, c2⟩ := c_enough hG q3 hi hl hj (v := v) (by omega)
            have hpj := hP j
            unfold f_X6_cheap_L45
            rw [if_neg (nI_ge hj (by decide)), b_rowOf (by omega), cl_s, if_pos (ib4 (by decide) (by omega)), bd_s, nI_clamp (by omega), q3.1 13 (by omega), (R1 hG.1).2.2.2.2.2.2.2.2.2 _ (by omega), c1, cl_s, nI_add]
            cases e : it (chf (fun c => g (38 + c % 4)) (fun c => stn nl ns (up g (12 + 2 * i) c) 30 (20 + 3 * i + l)) v) none j with
            | none =>
              rw [e, Prod.mk.injEq] at q1
              obtain ⟨rfl, rfl⟩ := q1
              rw [if_neg (nI_ge (by omega) (by decide))]
              by_cases h0 : stn nl ns (up g (12 + 2 * i) j) 30 (20 + 3 * i + l) < v
              · rw [if_pos h0, if0']
                refine ⟨_, rfl, ?_, rfl, c2⟩
                show _ = (match chf _ _ _ j (it _ none j) with | none => (nI 10, -1) | some r => (nI r.1, nI r.2))
                rw [e]
                unfold chf
                rw [if_pos h0]
              · rw [if_neg h0, if1']
                refine ⟨_, rfl, ?_, rfl, c2⟩
                show _ = (match chf _ _ _ j (it _ none j) with | none => (nI 10, -1) | some r => (nI r.1, nI r.2))
                rw [e]
                unfold chf
                rw [if_neg h0]
            | some r =>
              have hr := hcb r e
              rw [e, Prod.mk.injEq] at q1
              obtain ⟨rfl, rfl⟩ := q1
              by_cases h1 : r.1 ≤ g (38 + j % 4)
              · rw [if_pos (nI_le h1 (by omega))]
                refine ⟨_, rfl, ?_, rfl, q3⟩
                show _ = (match chf _ _ _ j (it _ none j) with | none => (nI 10, -1) | some r => (nI r.1, nI r.2))
                rw [e]
                unfold chf
                by_cases h0 : stn nl ns (up g (12 + 2 * i) j) 30 (20 + 3 * i + l) < v
                · rw [if_pos h0]
                · rw [if_neg h0]; dsimp only; rw [if_pos h1]
              · rw [if_neg (nI_ge (by omega) (by omega))]
                by_cases h0 : stn nl ns (up g (12 + 2 * i) j) 30 (20 + 3 * i + l) < v
                · rw [if_pos h0, if0']
                  refine ⟨_, rfl, ?_, rfl, c2⟩
                  show _ = (match chf _ _ _ j (it _ none j) with | none => (nI 10, -1) | some r => (nI r.1, nI r.2))
                  rw [e]
                  unfold chf
                  rw [if_pos h0]
                · rw [if_neg h0, if1']
                  refine ⟨_, rfl, ?_, rfl, c2⟩
                  show _ = (match chf _ _ _ j (it _ none j) with | none => (nI 10, -1) | some r => (nI r.1, nI r.2))
                  rw [e]
                  unfold chf
                  rw [if_neg h0]; dsimp only; rw [if_neg h1]) (fun q hq => by
            obtain ⟨x, y, z, s3⟩ := q
            obtain ⟨q1, q2, q3⟩ := hq
            dsimp only at q1 q2 q3 ⊢
            subst q2
            unfold f_X6_cheap_L45
            rw [if_pos (by decide)]
            cases e : it (chf (fun c => g (38 + c % 4)) (fun c => stn nl ns (up g (12 + 2 * i) c) 30 (20 + 3 * i + l)) v) none 20 with
            | none =>
              rw [e, Prod.mk.injEq] at q1
              obtain ⟨rfl, rfl⟩ := q1
              rw [if_neg (by decide)]
              exact ⟨_, rfl, rfl, q3⟩
            | some r =>
              have hr := hcb r e
              rw [e, Prod.mk.injEq] at q1
              obtain ⟨rfl, rfl⟩ := q1
              rw [if_pos (nI_pos' (by omega)), b_nameOf (by omega), cl_s]
              exact ⟨_, rfl, rfl, q3⟩) (q := (nI 10, -1, nI 0, s)) ⟨rfl, rfl, Sm.rf⟩ (Fu_lt (by omega))
          obtain ⟨x, s2⟩ := t
          obtain ⟨h3a, h3⟩ := h2
          dsimp only at h3a
          refine ⟨s2, ?_, h3.qf⟩
          unfold f_X6_cheap
          rw [g_sit isR1 hG.1 hns hi, cl_s, if1', g_life isR1 hG.1 hnl hl, cl_s, if1', g_win1 hv0 (by omega) (by decide), cl_s, if1, h1, h3a]
        · obtain ⟨t, h1, h2⟩ := lp_inv (body := fun q : Int32 × Int32 × Int32 × St => f_X7_cheap_L41 (nI i) (nI l) (nI v) q.1 q.2.1 q.2.2.1 q.2.2.2) (fun j q => (q.1, q.2.1) = (match it (chf (fun c => g (38 + c % 4)) (fun c => stn nl ns (up g (12 + 2 * i) c) 30 (20 + 3 * i + l)) v) none j with | none => (nI 1000000, -4) | some r => (nI r.1, nI r.2)) ∧ q.2.2.1 = nI j ∧ Sn s' q.2.2.2) (fun t => t.1 = che (it (chf (fun c => g (38 + c % 4)) (fun c => stn nl ns (up g (12 + 2 * i) c) 30 (20 + 3 * i + l)) v) none 20) ∧ Sn s' t.2) 20 (fun j q hj hq => by
            obtain ⟨x, y, z, s3⟩ := q
            obtain ⟨q1, q2, q3⟩ := hq
            dsimp only at q1 q2 q3 ⊢
            subst q2
            obtain ⟨s4, c1, c2, c3⟩ := r_sit h' q3 hi (show l < 3 by omega) hj (show 30 ≤ 60 by omega)
            have hpj := hP j
            have h42b : up g (12 + 2 * i) j 42 ≤ 999 := by rw [up_o (by omega)]; exact h42
            have hbb := (stn_WF (wf_place hG.2.1 hi hj) (k := 30) (by omega)).1.has (i := i) (l := l) (by omega) (by omega)
            unfold f_X7_cheap_L41
            rw [if_neg (nI_ge hj (by decide)), c1, cl_s, pk_rem (by omega) (by decide) (by decide), nI_add, nI_add, if_pos (ib190 (by omega)), bd_s, nI_clamp (by omega), c3.1 190 (by decide) (by decide), h'.2.2.2.2.2.2.2.1 _ (by omega)]
            cases e : it (chf (fun c => g (38 + c % 4)) (fun c => stn nl ns (up g (12 + 2 * i) c) 30 (20 + 3 * i + l)) v) none j with
            | none =>
              rw [e, Prod.mk.injEq] at q1
              obtain ⟨rfl, rfl⟩ := q1
              by_cases h0 : stn nl ns (up g (12 + 2 * i) j) 30 (20 + 3 * i + l) < v
              · rw [if_pos (nI_lt h0 hv2)]
                refine ⟨_, rfl, ?_, rfl, c3⟩
                show _ = (match chf _ _ _ j (it _ none j) with | none => (nI 1000000, -4) | some r => (nI r.1, nI r.2))
                rw [e]
                unfold chf
                rw [if_pos h0]
              · rw [if_neg (nI_nlt (by omega) (by omega)), if_neg (nI_ge (by omega) (by decide))]
                refine ⟨_, rfl, ?_, rfl, c3⟩
                show _ = (match chf _ _ _ j (it _ none j) with | none => (nI 1000000, -4) | some r => (nI r.1, nI r.2))
                rw [e]
                unfold chf
                rw [if_neg h0]
            | some r =>
              have hr := hcb r e
              rw [e, Prod.mk.injEq] at q1
              obtain ⟨rfl, rfl⟩ := q1
              by_cases h0 : stn nl ns (up g (12 + 2 * i) j) 30 (20 + 3 * i + l) < v
              · rw [if_pos (nI_lt h0 hv2)]
                refine ⟨_, rfl, ?_, rfl, c3⟩
                show _ = (match chf _ _ _ j (it _ none j) with | none => (nI 1000000, -4) | some r => (nI r.1, nI r.2))
                rw [e]
                unfold chf
                rw [if_pos h0]
              · rw [if_neg (nI_nlt (by omega) (by omega))]
                by_cases h1 : r.1 ≤ g (38 + j % 4)
                · rw [if_pos (nI_le h1 (by omega))]
                  refine ⟨_, rfl, ?_, rfl, c3⟩
                  show _ = (match chf _ _ _ j (it _ none j) with | none => (nI 1000000, -4) | some r => (nI r.1, nI r.2))
                  rw [e]
                  unfold chf
                  rw [if_neg h0]; dsimp only; rw [if_pos h1]
                · rw [if_neg (nI_ge (by omega) (by omega))]
                  refine ⟨_, rfl, ?_, rfl, c3⟩
                  show _ = (match chf _ _ _ j (it _ none j) with | none => (nI 1000000, -4) | some r => (nI r.1, nI r.2))
                  rw [e]
                  unfold chf
                  rw [if_neg h0]; dsimp only; rw [if_neg h1]) (fun q hq => by
            obtain ⟨x, y, z, s3⟩ := q
            obtain ⟨q1, q2, q3⟩ := hq
            dsimp only at q1 q2 q3 ⊢
            subst q2
            unfold f_X7_cheap_L41
            rw [if_pos (by decide)]
            cases e : it (chf (fun c => g (38 + c % 4)) (fun c => stn nl ns (up g (12 + 2 * i) c) 30 (20 + 3 * i + l)) v) none 20 with
            | none =>
              rw [e, Prod.mk.injEq] at q1
              obtain ⟨rfl, rfl⟩ := q1
              rw [if_neg (fun q => q rfl)]
              exact ⟨_, rfl, rfl, q3⟩
            | some r =>
              have hr := hcb r e
              rw [e, Prod.mk.injEq] at q1
              obtain ⟨rfl, rfl⟩ := q1
              have hm4 : ¬ nI r.2 = -4 := fun q => by
                have h5 := congrArg Int32.toInt q
                rw [nI_toInt (by omega), show (-4 : Int32).toInt = -4 by decide] at h5
                omega
              rw [if_pos hm4, b7_nameOf (by omega), cl_s]
              exact ⟨_, rfl, rfl, q3⟩) (q := (nI 1000000, -4, nI 0, s')) ⟨rfl, rfl, Sn.rf⟩ (Fu_lt (by omega))
          obtain ⟨x, s2⟩ := t
          obtain ⟨h3a, h3⟩ := h2
          dsimp only at h3a
          refine ⟨s2, ?_, h3.qf⟩
          unfold f_X7_cheap
          rw [g7_sit h'.2.2.2.2.2.2.1 hns hi, cl_s, if1', g7_life h'.2.2.2.2.2.1 hnl hl, cl_s, if1', g7_win1 hv0 (by omega) (by decide), cl_s, if1, h1, h3a]
      · refine qs (-1) hn hG ?_ ?_
        · unfold f_X6_cheap
          rw [g_sit isR1 hG.1 hns hi, cl_s, if1', g_life isR1 hG.1 hnl hl, cl_s, if1', g_win1_n hc (by decide), cl_s, if0]
        · unfold f_X7_cheap
          rw [g7_sit hG.2.2.2.2.2.2.1 hns hi, cl_s, if1', g7_life hG.2.2.2.2.2.1 hnl hl, cl_s, if1', g7_win1_n hc (by decide), cl_s, if0]
    · refine qs (-1) hn hG ?_ ?_
      · unfold f_X6_cheap
        rw [g_sit isR1 hG.1 hns hi, cl_s, if1', g_life_n isR1 hG.1 hnl hb, cl_s, if0']
      · unfold f_X7_cheap
        rw [g7_sit hG.2.2.2.2.2.2.1 hns hi, cl_s, if1', g7_life_n hG.2.2.2.2.2.1 hnl hb, cl_s, if0']
  · refine qs (-1) hn hG ?_ ?_
    · unfold f_X6_cheap
      rw [g_sit_n isR1 hG.1 hns ha, cl_s, if0']
    · unfold f_X7_cheap
      rw [g7_sit_n hG.2.2.2.2.2.2.1 hns ha, cl_s, if0']
def clf (M : Nat → Nat) (c : Nat) (a : Option (Nat × Nat)) : Option (Nat × Nat) := match a with
  | none => some (M c, c)
  | some q => if q.1 ≤ M c then some q else some (M c, c)
theorem clf_b {M : Nat → Nat} (hM : ∀ c, c < 20 → M c ≤ 540) : ∀ {k : Nat}, k ≤ 20 → ∀ q, it (clf M) none k = some q → q.1 ≤ 540 ∧ q.2 < k
  | 0, _, q, h => by cases h
  | k + 1, hk, q, h => by
    have ih := clf_b hM (k := k) (by omega)
    change clf M k (it (clf M) none k) = some q at h
    cases e : it (clf M) none k with
    | none =>
      rw [e] at h
      cases h
      exact ⟨hM k (by omega), Nat.lt_succ_self k⟩
    | some r =>
      rw [e] at h
      unfold clf at h
      dsimp only at h
      by_cases h2 : r.1 ≤ M k
      · rw [if_pos h2] at h
        have e2 := Option.some.inj h
        have := ih r e
        rw [← e2]
        exact ⟨this.1, by omega⟩
      · rw [if_neg h2] at h
        cases h
        exact ⟨hM k (by omega), Nat.lt_succ_self k⟩
theorem clf_s {M : Nat → Nat} {k : Nat} (h : 0 < k) : ∃ q, it (clf M) none k = some q := by
  obtain ⟨j, rfl⟩ : ∃ j, k = j + 1 := ⟨k - 1, by omega⟩
  show ∃ q, clf M j (it (clf M) none j) = some q
  cases e : it (clf M) none j with
  | none => exact ⟨_, rfl⟩
  | some r =>
    unfold clf
    dsimp only
    by_cases h2 : r.1 ≤ M j
    · rw [if_pos h2]; exact ⟨_, rfl⟩
    · rw [if_neg h2]; exact ⟨_, rfl⟩
theorem op_clean : Op3 f_X6_clean f_X7_clean Good := by
  intro n s a b c hn hG
  obtain ⟨-, nl, ns, g, hG⟩ := hG
  have hnl := hG.2.1.1
  have hns := hG.2.1.2.1
  have h42 := hG.2.2.1
  have hT := hG.2.1.T
  rcases rng a ns with ⟨i, hi, hi2, rfl⟩ | ha
  · rcases rng b (60 + 1) with ⟨k, hk, hk2, rfl⟩ | hb
    · rcases rng c (1 + 1) with ⟨w, hw, hw2, rfl⟩ | hc
      · have key : ∀ c, c < 20 → hb g i ≤ hb (stn nl ns (up g (12 + 2 * i) c) k) i ∧ hb (stn nl ns (up g (12 + 2 * i) c) k) i ≤ hb g i + 540 ∧ WF nl ns (99 * (n + 1)) (stn nl ns (up g (12 + 2 * i) c) k) := by
          intro c hc
          have h42b : up g (12 + 2 * i) c 42 ≤ 999 := by rw [up_o (by omega)]; exact h42
          have w0 := wf_place hG.2.1 hi hc
          have h9 := stn_hb9 w0 hi (k := k) (by omega)
          have e : hb (up g (12 + 2 * i) c) i = hb g i := hb_has (fun j h1 h2 => up_o (by omega)) (by omega)
          rw [e] at h9
          exact ⟨h9.1, by omega, (stn_WF w0 (k := k) (by omega)).1⟩
        have hM : ∀ c, c < 20 → hb (stn nl ns (up g (12 + 2 * i) c) k) i - hb g i ≤ 540 := fun c hc => by
          have := key c hc
          omega
        have hbg := hb_le hG.2.1 (i := i) (by omega)
        have hcb := @clf_b (fun c => hb (stn nl ns (up g (12 + 2 * i) c) k) i - hb g i) hM
        obtain ⟨r, hr⟩ := clf_s (M := fun c => hb (stn nl ns (up g (12 + 2 * i) c) k) i - hb g i) (k := 20) (by decide)
        have hrb := hcb (Nat.le_refl _) r hr
        refine qy (if w = 0 then nI (nm r.2) else nI r.1) hn hG ?_ (fun s' h' => ?_)
        · obtain ⟨t, h1, h2⟩ := lp_inv (body := fun q : Int32 × Int32 × Int32 × St => f_X6_clean_L43 (nI i) (nI k) (nI w) q.1 q.2.1 q.2.2.1 q.2.2.2) (fun j q => (q.1, q.2.1) = (match it (clf (fun c => hb (stn nl ns (up g (12 + 2 * i) c) k) i - hb g i)) none j with | none => (nI 541, nI 0) | some r => (nI r.1, nI r.2)) ∧ q.2.2.1 = nI j ∧ Sm s q.2.2.2 14 13) (fun t => t.1 = (if w = 0 then nI (nm r.2) else nI r.1) ∧ Sm s t.2 14 13) 20 (fun j q hj hq => by
            obtain ⟨x, y, z, s3⟩ := q
            obtain ⟨q1, q2, q3⟩ := hq
            dsimp only at q1 q2 q3 ⊢
            subst q2
            obtain ⟨s4, c1, c2, c3⟩ := c_sit hG q3 hi hj (show k ≤ 60 by omega)
            obtain ⟨k1, k2, k3⟩ := key j hj
            unfold f_X6_clean_L43
            rw [if_neg (nI_ge hj (by decide)), c1, cl_s, b_hb isR14 c2 k3 (by omega), cl_s, b_hb isR1 (hG.1.sm c3 (by omega)) hG.2.1 (by omega), cl_s, bd_s, pk_sub k1, nI_add]
            cases e : it (clf (fun c => hb (stn nl ns (up g (12 + 2 * i) c) k) i - hb g i)) none j with
            | none =>
              rw [e, Prod.mk.injEq] at q1
              obtain ⟨rfl, rfl⟩ := q1
              rw [if_neg (nI_ge (by omega) (by decide))]
              refine ⟨_, rfl, ?_, rfl, c3⟩
              show _ = (match clf _ j (it _ none j) with | none => (nI 541, nI 0) | some r => (nI r.1, nI r.2))
              rw [e]
              rfl
            | some r =>
              have hr := hcb (by omega) r e
              rw [e, Prod.mk.injEq] at q1
              obtain ⟨rfl, rfl⟩ := q1
              by_cases h1 : r.1 ≤ hb (stn nl ns (up g (12 + 2 * i) j) k) i - hb g i
              · rw [if_pos (nI_le h1 (by omega))]
                refine ⟨_, rfl, ?_, rfl, c3⟩
                show _ = (match clf _ j (it _ none j) with | none => (nI 541, nI 0) | some r => (nI r.1, nI r.2))
                rw [e]
                unfold clf
                dsimp only; rw [if_pos h1]
              · rw [if_neg (nI_ge (by omega) (by omega))]
                refine ⟨_, rfl, ?_, rfl, c3⟩
                show _ = (match clf _ j (it _ none j) with | none => (nI 541, nI 0) | some r => (nI r.1, nI r.2))
                rw [e]
                unfold clf
                dsimp only; rw [if_neg h1]) (fun q hq => by
            obtain ⟨x, y, z, s3⟩ := q
            obtain ⟨q1, q2, q3⟩ := hq
            dsimp only at q1 q2 q3 ⊢
            subst q2
            rw [hr, Prod.mk.injEq] at q1
            obtain ⟨rfl, rfl⟩ := q1
            unfold f_X6_clean_L43
            rw [if_pos (by decide), b_nameOf (by omega), cl_s]
            by_cases hw0 : w = 0
            · subst hw0
              rw [if0]
              exact ⟨_, rfl, rfl, q3⟩
            · rw [if_pos (fun q => hw0 ((nI_e0 hw2).mp q))]
              refine ⟨_, rfl, ?_, q3⟩
              rw [if_neg hw0]) (q := (nI 541, nI 0, nI 0, s)) ⟨rfl, rfl, Sm.rf⟩ (Fu_lt (by omega))
          obtain ⟨x, s2⟩ := t
          obtain ⟨h3a, h3⟩ := h2
          dsimp only at h3a
          refine ⟨s2, ?_, h3.qf⟩
          unfold f_X6_clean
          rw [g_sit isR1 hG.1 hns hi, cl_s, if1', g_win (by omega) (by decide), cl_s, if1', g_win (by omega) (by decide), cl_s, if1, h1, h3a]
        · obtain ⟨s1, a1, a2, a3⟩ := r_start h' Sn.rf
          obtain ⟨t, h1, h2⟩ := lp_inv (body := fun q : Int32 × Int32 × Int32 × St => f_X7_clean_L45 (nI i) (nI k) (nI w) (nI (hb g i)) q.1 q.2.1 q.2.2.1 q.2.2.2) (fun j q => (q.1, q.2.1) = (match it (clf (fun c => hb (stn nl ns (up g (12 + 2 * i) c) k) i - hb g i)) none j with | none => (nI 1000000, nI 0) | some r => (nI r.1, nI r.2)) ∧ q.2.2.1 = nI j ∧ Sn s' q.2.2.2) (fun t => t.1 = (if w = 0 then nI (nm r.2) else nI r.1) ∧ Sn s' t.2) 20 (fun j q hj hq => by
            obtain ⟨x, y, z, s3⟩ := q
            obtain ⟨q1, q2, q3⟩ := hq
            dsimp only at q1 q2 q3 ⊢
            subst q2
            obtain ⟨s4, c1, c2, c3⟩ := r_sit h' q3 hi (show 0 < 3 by omega) hj (show k ≤ 60 by omega)
            obtain ⟨k1, k2, k3⟩ := key j hj
            unfold f_X7_clean_L45 f_X7_clean_J86
            rw [if_neg (nI_ge hj (by decide)), c1, cl_s, b7_hb c2 (by omega), cl_s, bd_s, pk_sub k1, nI_add]
            cases e : it (clf (fun c => hb (stn nl ns (up g (12 + 2 * i) c) k) i - hb g i)) none j with
            | none =>
              rw [e, Prod.mk.injEq] at q1
              obtain ⟨rfl, rfl⟩ := q1
              rw [b7_lesser (by omega) (by omega), cl_s, cl_s, if_neg (nI_ge (by omega) (by decide)), Nat.min_eq_left (by omega)]
              refine ⟨_, rfl, ?_, rfl, c3⟩
              show _ = (match clf _ j (it _ none j) with | none => (nI 1000000, nI 0) | some r => (nI r.1, nI r.2))
              rw [e]
              rfl
            | some r =>
              have hr := hcb (by omega) r e
              rw [e, Prod.mk.injEq] at q1
              obtain ⟨rfl, rfl⟩ := q1
              rw [b7_lesser (by omega) (by omega), cl_s, cl_s]
              by_cases h1 : r.1 ≤ hb (stn nl ns (up g (12 + 2 * i) j) k) i - hb g i
              · rw [if_pos (nI_le h1 (by omega)), Nat.min_eq_right h1]
                refine ⟨_, rfl, ?_, rfl, c3⟩
                show _ = (match clf _ j (it _ none j) with | none => (nI 1000000, nI 0) | some r => (nI r.1, nI r.2))
                rw [e]
                unfold clf
                dsimp only; rw [if_pos h1]
              · rw [if_neg (nI_ge (by omega) (by omega)), Nat.min_eq_left (by omega)]
                refine ⟨_, rfl, ?_, rfl, c3⟩
                show _ = (match clf _ j (it _ none j) with | none => (nI 1000000, nI 0) | some r => (nI r.1, nI r.2))
                rw [e]
                unfold clf
                dsimp only; rw [if_neg h1]) (fun q hq => by
            obtain ⟨x, y, z, s3⟩ := q
            obtain ⟨q1, q2, q3⟩ := hq
            dsimp only at q1 q2 q3 ⊢
            subst q2
            rw [hr, Prod.mk.injEq] at q1
            obtain ⟨rfl, rfl⟩ := q1
            unfold f_X7_clean_L45
            rw [if_pos (by decide), b7_nameOf (by omega), cl_s]
            by_cases hw0 : w = 0
            · subst hw0
              rw [if0]
              exact ⟨_, rfl, rfl, q3⟩
            · rw [if_pos (fun q => hw0 ((nI_e0 hw2).mp q))]
              refine ⟨_, rfl, ?_, q3⟩
              rw [if_neg hw0]) (q := (nI 1000000, nI 0, nI 0, s1)) ⟨rfl, rfl, a3⟩ (Fu_lt (by omega))
          obtain ⟨x, s2⟩ := t
          obtain ⟨h3a, h3⟩ := h2
          dsimp only at h3a
          refine ⟨s2, ?_, h3.qf⟩
          unfold f_X7_clean
          rw [g7_sit h'.2.2.2.2.2.2.1 hns hi, cl_s, if1', g7_far (by omega), cl_s, if1', g7_part (by omega), cl_s, if1, a1, cl_s, b7_hb a2 (by omega), cl_s, h1, h3a]
      · refine qs (-1) hn hG ?_ ?_
        · unfold f_X6_clean
          rw [g_sit isR1 hG.1 hns hi, cl_s, if1', g_win (by omega) (by decide), cl_s, if1', g_win_n hc (by decide), cl_s, if0]
        · unfold f_X7_clean
          rw [g7_sit hG.2.2.2.2.2.2.1 hns hi, cl_s, if1', g7_far (by omega), cl_s, if1', g7_part_n hc, cl_s, if0]
    · refine qs (-1) hn hG ?_ ?_
      · unfold f_X6_clean
        rw [g_sit isR1 hG.1 hns hi, cl_s, if1', g_win_n hb (by decide), cl_s, if0']
      · unfold f_X7_clean
        rw [g7_sit hG.2.2.2.2.2.2.1 hns hi, cl_s, if1', g7_far_n hb, cl_s, if0']
  · refine qs (-1) hn hG ?_ ?_
    · unfold f_X6_clean
      rw [g_sit_n isR1 hG.1 hns ha, cl_s, if0']
    · unfold f_X7_clean
      rw [g7_sit_n hG.2.2.2.2.2.2.1 hns ha, cl_s, if0']
theorem op_need : Op3 f_X6_need f_X7_need Good := by
  intro n s a b c hn hG
  obtain ⟨-, nl, ns, g, hG⟩ := hG
  have hnl := hG.2.1.1
  have hns := hG.2.1.2.1
  have h42 := hG.2.2.1
  have hT := hG.2.1.T
  rcases rng a ns with ⟨i, hi, hi2, rfl⟩ | ha
  · rcases rng b nl with ⟨l, hl, hl2, rfl⟩ | hb
    · rcases rng1 c (999 + 1) with ⟨v, hv0, hv, hv2, rfl⟩ | hc
      · have bnd : ∀ j, j < 10 → WF nl ns (99 * (n + 1)) (up g (13 + 2 * i) j) ∧ up g (13 + 2 * i) j 42 ≤ 999 ∧ stn nl ns (up g (13 + 2 * i) j) 30 (20 + 3 * i + l) ≤ 20000 := by
          intro j hj
          have w0 := wf_sleeve hG.2.1 hi (show j ≤ 9 by omega)
          have h42b : up g (13 + 2 * i) j 42 ≤ 999 := by rw [up_o (by omega)]; exact h42
          exact ⟨w0, h42b, Nat.le_trans ((stn_WF w0 (k := 30) (by omega)).1.has (i := i) (l := l) (by omega) (by omega)) hT⟩
        refine qy (fz (fun j => decide (v ≤ stn nl ns (up g (13 + 2 * i) j) 30 (20 + 3 * i + l))) 10) hn hG ?_ (fun s' h' => ?_)
        · obtain ⟨t, h1, h2⟩ := lp_brk (body := fun q : Int32 × St => f_X6_need_L38 (nI i) (nI l) (nI v) q.1 q.2) (fun j q => q.1 = nI j ∧ Sm s q.2 14 13 ∧ fst0 (fun j => decide (v ≤ stn nl ns (up g (13 + 2 * i) j) 30 (20 + 3 * i + l))) j = j) (fun t => t.1 = fz (fun j => decide (v ≤ stn nl ns (up g (13 + 2 * i) j) 30 (20 + 3 * i + l))) 10 ∧ Sm s t.2 14 13) 10 (fun j q hj hq => by
            obtain ⟨x, s3⟩ := q
            obtain ⟨q1, q3, q4⟩ := hq
            dsimp only at q1 q3 q4 ⊢
            subst q1
            obtain ⟨b1, b2, b3⟩ := bnd j hj
            obtain ⟨s4, c1, c2, c3⟩ := c_copy hG q3
            have hR : RR (wI s4 23 i (nI j)) 14 nl ns (up g (13 + 2 * i) j) := rr_sleeve c2 hnl hns hi
            obtain ⟨s5, d1, d2, d3⟩ := b_goOn (n := 30) isR14 hR b1 (by omega) (by omega)
            unfold f_X6_need_L38
            rw [if_neg (nI_nlt (by omega) (by omega)), c1, cl_s, if_pos (ib4 (by decide) (by omega)), bd_s, nI_clamp (by omega), d1, cl_s, b_held isR14 d2 (by omega) (by omega), cl_s]
            by_cases h0 : stn nl ns (up g (13 + 2 * i) j) 30 (20 + 3 * i + l) < v
            · left
              rw [if_pos (nI_lt h0 hv2), nI_add]
              exact ⟨_, rfl, rfl, (c3.tr (Sm.wi (by omega) (by omega))).tr d3, fst0_miss q4 (by simp; omega)⟩
            · right
              rw [if_neg (nI_nlt (by omega) (by omega))]
              exact ⟨_, rfl, (fz_hit q4 (by simp; omega) (by omega)).symm, (c3.tr (Sm.wi (by omega) (by omega))).tr d3⟩) (fun q hq => by
            obtain ⟨x, s3⟩ := q
            obtain ⟨q1, q3, q4⟩ := hq
            dsimp only at q1 q3 q4 ⊢
            subst q1
            unfold f_X6_need_L38
            rw [if_pos (nI_lt (by omega) (by omega))]
            exact ⟨_, rfl, (fz_none q4).symm, q3⟩) (q := (nI 0, s)) ⟨rfl, Sm.rf, rfl⟩ (Fu_lt (by omega))
          obtain ⟨x, s2⟩ := t
          obtain ⟨h3a, h3⟩ := h2
          dsimp only at h3a
          refine ⟨s2, ?_, h3.qf⟩
          unfold f_X6_need
          rw [g_sit isR1 hG.1 hns hi, cl_s, if1', g_life isR1 hG.1 hnl hl, cl_s, if1', g_win1 hv0 (by omega) (by decide), cl_s, if1, h1, h3a]
        · obtain ⟨t, h1, h2⟩ := lp_brk (body := fun q : Int32 × St => f_X7_need_L33 (nI i) (nI l) (nI v) q.1 q.2) (fun j q => q.1 = nI j ∧ Sn s' q.2 ∧ fst0 (fun j => decide (v ≤ stn nl ns (up g (13 + 2 * i) j) 30 (20 + 3 * i + l))) j = j) (fun t => t.1 = fz (fun j => decide (v ≤ stn nl ns (up g (13 + 2 * i) j) 30 (20 + 3 * i + l))) 10 ∧ Sn s' t.2) 10 (fun j q hj hq => by
            obtain ⟨x, s3⟩ := q
            obtain ⟨q1, q3, q4⟩ := hq
            dsimp only at q1 q3 q4 ⊢
            subst q1
            obtain ⟨b1, b2, b3⟩ := bnd j hj
            obtain ⟨s4, c1, c2, c3⟩ := r_start h' q3
            obtain ⟨s5, d1, d2, d3⟩ := b7_stepsGo (n := 30) (c2.wi (k := 13 + 2 * i) (v := j)) b1 (by omega) (by omega)
            unfold f_X7_need_L33
            simp only [pk_mul, nI_add]
            rw [if_neg (nI_nlt (by omega) (by omega)), c1, cl_s, show 12 + 2 * i + 1 = 13 + 2 * i by omega, if_pos (ib191 (by omega)), bd_s, nI_clamp (by omega), d1, cl_s, if_pos (ib191 (by omega)), nI_clamp (by omega), d2.2.2 _ (by omega)]
            by_cases h0 : stn nl ns (up g (13 + 2 * i) j) 30 (20 + 3 * i + l) < v
            · left
              rw [if_pos (nI_lt h0 hv2)]
              exact ⟨_, rfl, rfl, (c3.tr Sn.wi).tr d3, fst0_miss q4 (by simp; omega)⟩
            · right
              rw [if_neg (nI_nlt (by omega) (by omega))]
              exact ⟨_, rfl, (fz_hit q4 (by simp; omega) (by omega)).symm, (c3.tr Sn.wi).tr d3⟩) (fun q hq => by
            obtain ⟨x, s3⟩ := q
            obtain ⟨q1, q3, q4⟩ := hq
            dsimp only at q1 q3 q4 ⊢
            subst q1
            unfold f_X7_need_L33
            rw [if_pos (nI_lt (by omega) (by omega))]
            exact ⟨_, rfl, (fz_none q4).symm, q3⟩) (q := (nI 0, s')) ⟨rfl, Sn.rf, rfl⟩ (Fu_lt (by omega))
          obtain ⟨x, s2⟩ := t
          obtain ⟨h3a, h3⟩ := h2
          dsimp only at h3a
          refine ⟨s2, ?_, h3.qf⟩
          unfold f_X7_need
          rw [g7_sit h'.2.2.2.2.2.2.1 hns hi, cl_s, if1', g7_life h'.2.2.2.2.2.1 hnl hl, cl_s, if1', g7_win1 hv0 (by omega) (by decide), cl_s, if1, h1, h3a]
      · refine qs (-1) hn hG ?_ ?_
        · unfold f_X6_need
          rw [g_sit isR1 hG.1 hns hi, cl_s, if1', g_life isR1 hG.1 hnl hl, cl_s, if1', g_win1_n hc (by decide), cl_s, if0]
        · unfold f_X7_need
          rw [g7_sit hG.2.2.2.2.2.2.1 hns hi, cl_s, if1', g7_life hG.2.2.2.2.2.1 hnl hl, cl_s, if1', g7_win1_n hc (by decide), cl_s, if0]
    · refine qs (-1) hn hG ?_ ?_
      · unfold f_X6_need
        rw [g_sit isR1 hG.1 hns hi, cl_s, if1', g_life_n isR1 hG.1 hnl hb, cl_s, if0']
      · unfold f_X7_need
        rw [g7_sit hG.2.2.2.2.2.2.1 hns hi, cl_s, if1', g7_life_n hG.2.2.2.2.2.1 hnl hb, cl_s, if0']
  · refine qs (-1) hn hG ?_ ?_
    · unfold f_X6_need
      rw [g_sit_n isR1 hG.1 hns ha, cl_s, if0']
    · unfold f_X7_need
      rw [g7_sit_n hG.2.2.2.2.2.2.1 hns ha, cl_s, if0']

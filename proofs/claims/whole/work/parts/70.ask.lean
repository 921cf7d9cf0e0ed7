/-! kinds, froms, ask -/
def allb (p : Nat → Bool) : Nat → Bool
  | 0 => true
  | k + 1 => allb p k && p k
theorem allb_iff {p : Nat → Bool} : ∀ {n : Nat}, allb p n = true ↔ ∀ k, k < n → p k = true
  | 0 => ⟨fun _ k hk => absurd hk (by omega), fun _ => rfl⟩
  | n + 1 => by
    show (allb p n && p n) = true ↔ _
    rw [Bool.and_eq_true, allb_iff (n := n)]
    constructor
    · rintro ⟨h1, h2⟩ k hk
      by_cases e : k = n
      · subst e; exact h2
      · exact h1 k (by omega)
    · intro h
      exact ⟨fun k hk => h k (by omega), h n (by omega)⟩
/-- with what was SEEN, the room h may be -/
def fitb (nl ns : Nat) (g h : Nat → Nat) : Bool := allb (fun n => allb (fun k => decide (¬ g (109 + 4 * k) = n ∨ stn nl ns h n (20 + 3 * g (107 + 4 * k) + g (108 + 4 * k)) = g (110 + 4 * k))) (g 106)) 31
theorem fit1_iff {g h : Nat → Nat} {n k : Nat} : decide (¬ g (109 + 4 * k) = n ∨ h (20 + 3 * g (107 + 4 * k) + g (108 + 4 * k)) = g (110 + 4 * k)) = true ↔ fit1 g h n k := by
  rw [decide_eq_true_iff]
  unfold fit1
  constructor
  · intro q e
    rcases q with q | q
    · exact absurd e q
    · exact q
  · intro q
    by_cases e : g (109 + 4 * k) = n
    · exact Or.inr (q e)
    · exact Or.inl e
theorem fitb_iff {nl ns : Nat} {g h : Nat → Nat} : fitb nl ns g h = true ↔ ∀ n, n ≤ 30 → fitB g (stn nl ns h n) n := by
  unfold fitb
  rw [allb_iff]
  constructor
  · intro q n hn k hk
    have := allb_iff.mp (q n (by omega)) k hk
    exact fit1_iff.mp this
  · intro q n hn
    rw [allb_iff]
    intro k hk
    exact fit1_iff.mpr (q n (by omega) k hk)
theorem fit_far {nl ns a b : Nat} {g h : Nat → Nat} (hW : WS nl ns g) : (∀ n, n ≤ far g (g 106) → fitB g (stn a b h n) n) ↔ ∀ n, n ≤ 30 → fitB g (stn a b h n) n := by
  have hf := far_le hW (k := g 106) (Nat.le_refl _)
  constructor
  · intro q n hn
    by_cases e : n ≤ far g (g 106)
    · exact q n e
    · intro k hk e2
      have := far_ge (g := g) (n := g 106) hk
      omega
  · intro q n hn
    exact q n (by omega)
theorem c_fits {n nl ns T : Nat} {s s1 : St} {g h : Nat → Nat} (hG : Gd n s nl ns g) (hS : Sm s s1 14 13) (hR : RR s1 14 nl ns h) (hW : WF nl ns T h) (h42 : h 42 ≤ 999) {k : Nat} (hk : k = 30 ∨ k = far g (g 106)) : ∃ s2, f_X3_fits 27 14 (nI k) s1 = some (if fitb nl ns g h = true then nI 1 else nI 0, s2) ∧ Sm s s2 14 13 ∧ (k = 30 → fitb nl ns g h = true → RR s2 14 nl ns (stn nl ns h 30)) := by
  have hf := far_le hG.2.2.2.2.1 (k := g 106) (Nat.le_refl _)
  obtain ⟨v, s2, a1, a2, a3⟩ := b_fits (n := k) isS27 isR14 (by omega) (hG.2.2.2.1.sm hS (by omega)) hG.2.2.2.2.1 hR hW (by omega) (by omega)
  have e : (∀ j, j ≤ k → fitB g (stn nl ns h j) j) ↔ fitb nl ns g h = true := by
    rw [fitb_iff]
    rcases hk with rfl | rfl
    · exact Iff.rfl
    · exact fit_far hG.2.2.2.2.1
  refine ⟨s2, ?_, hS.tr a2, fun k0 hb => ?_⟩
  · rcases a3 with ⟨rfl, q, -⟩ | ⟨rfl, q⟩
    · rw [if_pos (e.mp q)]; exact a1
    · rw [if_neg (fun q2 => q (e.mpr q2))]; exact a1
  · rcases a3 with ⟨rfl, q, q2⟩ | ⟨rfl, q⟩
    · rw [k0] at q2; exact q2
    · exact absurd (e.mpr hb) q
theorem r_so {n nl ns T : Nat} {s s1 : St} {g h : Nat → Nat} {l w x : Nat} (hG : Gd n s nl ns g) (hS : Sn s s1) (hl : l < nl) (hw : w < 2) (he : h = up g (4 * l + w) x) (hW : WF nl ns T h) (h42 : h 42 ≤ 999) : ∃ s2, f_X7_isSoWith (nI l) (nI w) (nI x) s1 = some (if fitb nl ns g h = true then nI 1 else nI 0, s2) ∧ NR s2 nl ns (stn nl ns h 30) ∧ Sn s s2 := by
  have hnl := hG.2.1.1
  have hns := hG.2.1.2.1
  have hws := hG.2.2.2.2.1
  have h6 := hws.1
  have hg := hG.2.2.2.2.2.2.2.1
  obtain ⟨s2, a1, a2, a3⟩ := r_start hG hS
  have hN : NR (wI s2 191 (4 * l + w) (nI x)) nl ns h := by rw [he]; exact a2.wi
  have hT := hW.T
  obtain ⟨t, h1, h2⟩ := lp_inv (body := fun q : Int32 × Int32 × St => f_X7_isSoWith_L21 q.1 q.2.1 q.2.2) (fun m q => ((q.1 = nI 1 ∧ ∀ j, j < m → fitB g (stn nl ns h j) j) ∨ (q.1 = nI 0 ∧ ¬ ∀ j, j < m → fitB g (stn nl ns h j) j)) ∧ q.2.1 = nI m ∧ NR q.2.2 nl ns (stn nl ns h (if m ≤ 30 then m else 30)) ∧ Sn s q.2.2) (fun t => t.1 = (if fitb nl ns g h = true then nI 1 else nI 0) ∧ NR t.2 nl ns (stn nl ns h 30) ∧ Sn s t.2) 31 (fun m q hm hq => by
    obtain ⟨v, y, s3⟩ := q
    obtain ⟨q1, q2, q3, q4⟩ := hq
    dsimp only at q1 q2 q3 q4 ⊢
    subst q2
    rw [if_pos (show m ≤ 30 by omega)] at q3
    obtain ⟨w1, w2⟩ := stn_WF hW (k := m) (by omega)
    obtain ⟨t, j1, j2⟩ := lp_inv (body := fun q : Int32 × Int32 × St => f_X7_isSoWith_L31 (nI m) q.1 q.2.1 q.2.2) (fun k q => ((q.1 = nI 1 ∧ (∀ j, j < m → fitB g (stn nl ns h j) j) ∧ ∀ j, j < k → fit1 g (stn nl ns h m) m j) ∨ (q.1 = nI 0 ∧ ¬ ((∀ j, j < m → fitB g (stn nl ns h j) j) ∧ ∀ j, j < k → fit1 g (stn nl ns h m) m j))) ∧ q.2.1 = nI k ∧ NR q.2.2 nl ns (stn nl ns h m) ∧ Sn s q.2.2) (fun t => ∃ q : Int32 × Int32 × St, t = Sum.inl q ∧ ((q.1 = nI 1 ∧ ∀ j, j < m + 1 → fitB g (stn nl ns h j) j) ∨ (q.1 = nI 0 ∧ ¬ ∀ j, j < m + 1 → fitB g (stn nl ns h j) j)) ∧ q.2.1 = nI (m + 1) ∧ NR q.2.2 nl ns (stn nl ns h (if m + 1 ≤ 30 then m + 1 else 30)) ∧ Sn s q.2.2) (g 106) (fun k q hk hq => by
      obtain ⟨v1, y1, s4⟩ := q
      obtain ⟨p1, p2, p3, p4⟩ := hq
      dsimp only at p1 p2 p3 p4 ⊢
      subst p2
      obtain ⟨z1, z2, z3, z4⟩ := hws.2 k hk
      have hha := w1.has (i := g (107 + 4 * k)) (l := g (108 + 4 * k)) (by omega) (by omega)
      have e190 : s4.1 190 = s.1 190 := p4.1 190 (by decide) (by decide)
      unfold f_X7_isSoWith_L31 f_X7_isSoWith_J110
      simp only [pk_mul, nI_add, bd_s]
      rw [if_pos (ib190 (by decide)), nI_clamp (by decide), e190, hg 106 (by decide), if_neg (nI_ge hk (by omega))]
      rcases p1 with ⟨rfl, p1⟩ | ⟨rfl, p1⟩
      · rw [if1', if_pos (ib190 (by omega)), nI_clamp (by omega), hg _ (by omega)]
        have e2 : 107 + 4 * k + 2 = 109 + 4 * k := by omega
        have e3 : 107 + 4 * k + 3 = 110 + 4 * k := by omega
        have e1 : 107 + 4 * k + 1 = 108 + 4 * k := by omega
        rw [e2, e3, e1]
        by_cases c1 : g (109 + 4 * k) = m
        · rw [if_neg (fun q => q (by rw [c1])), if_pos (ib190 (by omega)), if_pos (ib190 (by omega)), nI_clamp (by omega), nI_clamp (by omega), hg _ (by omega), hg _ (by omega), pk_mul, nI_add, nI_add, if_pos (ib191 (by omega)), if_pos (ib190 (by omega)), nI_clamp (by omega), nI_clamp (by omega), p3.2.2 _ (by omega), hg _ (by omega)]
          by_cases c2 : stn nl ns h m (20 + 3 * g (107 + 4 * k) + g (108 + 4 * k)) = g (110 + 4 * k)
          · rw [if_neg (fun q => q (by rw [c2]))]
            refine ⟨_, rfl, Or.inl ⟨rfl, p1.1, fun j hj => ?_⟩, rfl, p3, p4⟩
            by_cases ej : j = k
            · subst ej; exact fun _ => c2
            · exact p1.2 j (by omega)
          · rw [if_pos (fun q => c2 ((nI_eq (by omega) (by omega)).mp q))]
            exact ⟨_, rfl, Or.inr ⟨rfl, fun q => c2 (q.2 k (by omega) c1)⟩, rfl, p3, p4⟩
        · rw [if_pos (fun q => c1 ((nI_eq (by omega) (by omega)).mp q))]
          refine ⟨_, rfl, Or.inl ⟨rfl, p1.1, fun j hj => ?_⟩, rfl, p3, p4⟩
          by_cases ej : j = k
          · subst ej; exact fun q => absurd q c1
          · exact p1.2 j (by omega)
      · rw [if0']
        exact ⟨_, rfl, Or.inr ⟨rfl, fun q => p1 ⟨q.1, fun j hj => q.2 j (by omega)⟩⟩, rfl, p3, p4⟩) (fun q hq => by
      obtain ⟨v1, y1, s4⟩ := q
      obtain ⟨p1, p2, p3, p4⟩ := hq
      dsimp only at p1 p2 p3 p4 ⊢
      subst p2
      have e190 : s4.1 190 = s.1 190 := p4.1 190 (by decide) (by decide)
      have pp : (v1 = nI 1 ∧ ∀ j, j < m + 1 → fitB g (stn nl ns h j) j) ∨ (v1 = nI 0 ∧ ¬ ∀ j, j < m + 1 → fitB g (stn nl ns h j) j) := by
        rcases p1 with ⟨r1, r2, r3⟩ | ⟨r1, r2⟩
        · refine Or.inl ⟨r1, fun j hj => ?_⟩
          by_cases ej : j = m
          · subst ej; exact r3
          · exact r2 j (by omega)
        · exact Or.inr ⟨r1, fun q => r2 ⟨fun j hj => q j (by omega), q m (by omega)⟩⟩
      unfold f_X7_isSoWith_L31
      rw [if_pos (ib190 (by decide)), nI_clamp (by decide), e190, hg 106 (by decide), if_pos (nI_le (Nat.le_refl _) (by omega)), nI_add m 1]
      by_cases c : m = 30
      · rw [if_pos (nI_le (by omega) (by omega))]
        refine ⟨_, rfl, (v1, nI (m + 1), s4), rfl, pp, rfl, ?_, p4⟩
        rw [if_neg (by omega)]
        rw [c] at p3
        exact p3
      · rw [if_neg (nI_ge (by omega) (by omega))]
        obtain ⟨s5, d1, d2, d3⟩ := b7_step p3 w1
        rw [d1, cl_s]
        refine ⟨_, rfl, (v1, nI (m + 1), s5), rfl, pp, rfl, ?_, p4.tr d3⟩
        rw [if_pos (by omega)]
        exact d2) (q := (v, nI 0, s3)) ⟨by
        rcases q1 with ⟨r1, r2⟩ | ⟨r1, r2⟩
        · exact Or.inl ⟨r1, r2, fun j hj => absurd hj (by omega)⟩
        · exact Or.inr ⟨r1, fun q => r2 q.1⟩, rfl, q3, q4⟩ (Fu_lt (by omega))
    obtain ⟨q, rfl, r1, r2, r3, r4⟩ := j2
    unfold f_X7_isSoWith_L21
    rw [if_neg (nI_nlt (by omega) (by omega)), j1]
    exact ⟨q, rfl, r1, r2, r3, r4⟩) (fun q hq => by
    obtain ⟨v, y, s3⟩ := q
    obtain ⟨q1, q2, q3, q4⟩ := hq
    dsimp only at q1 q2 q3 q4 ⊢
    subst q2
    rw [if_neg (by omega)] at q3
    have e : (∀ j, j < 31 → fitB g (stn nl ns h j) j) ↔ fitb nl ns g h = true := by
      rw [fitb_iff]
      exact ⟨fun q j hj => q j (by omega), fun q j hj => q j (by omega)⟩
    unfold f_X7_isSoWith_L21
    rw [if_pos (by decide)]
    rcases q1 with ⟨rfl, q1⟩ | ⟨rfl, q1⟩
    · rw [if_pos (Or.inr (by decide)), if_pos (e.mp q1)]; exact ⟨_, rfl, rfl, q3, q4⟩
    · rw [if_pos (Or.inl (by decide)), if_neg (fun q => q1 (e.mpr q))]; exact ⟨_, rfl, rfl, q3, q4⟩) (q := (nI 1, nI 0, wI s2 191 (4 * l + w) (nI x))) ⟨Or.inl ⟨rfl, fun j hj => absurd hj (by omega)⟩, rfl, hN, a3.tr Sn.wi⟩ (Fu_lt (by omega))
  obtain ⟨v, s3⟩ := t
  obtain ⟨h3a, h3, h4⟩ := h2
  dsimp only at h3a
  refine ⟨s3, ?_, h3, h4⟩
  unfold f_X7_isSoWith
  simp only [pk_mul, nI_add]
  rw [a1, cl_s, if_pos (ib191 (by omega)), bd_s, nI_clamp (by omega), h1, h3a]
theorem op_kinds : Op1 f_X6_kinds f_X7_kinds Good := by
  intro n s a hn hG
  obtain ⟨-, nl, ns, g, hG⟩ := hG
  have hnl := hG.2.1.1
  have hns := hG.2.1.2.1
  have h42 := hG.2.2.1
  rcases rng a nl with ⟨l, hl, hl2, rfl⟩ | ha
  · obtain ⟨P, eP⟩ : ∃ P : Nat → Bool, ∀ k, P k = fitb nl ns g (up g (4 * l) k) := ⟨_, fun _ => rfl⟩
    refine qy (it (fun k v => if P k = true then v ||| (nI 1 <<< (nI k &&& 31)) else v) (nI 0) 4) hn hG ?_ (fun s' h' => ?_)
    · obtain ⟨t, h1, h2⟩ := lp_inv (body := fun q : Int32 × Int32 × St => f_X6_kinds_L17 (nI l) q.1 q.2.1 q.2.2) (fun j q => q.1 = it (fun k v => if P k = true then v ||| (nI 1 <<< (nI k &&& 31)) else v) (nI 0) j ∧ q.2.1 = nI j ∧ Sm s q.2.2 14 13) (fun t => t.1 = it (fun k v => if P k = true then v ||| (nI 1 <<< (nI k &&& 31)) else v) (nI 0) 4 ∧ Sm s t.2 14 13) 4 (fun j q hj hq => by
        obtain ⟨v, y, s3⟩ := q
        obtain ⟨q1, q2, q3⟩ := hq
        dsimp only at q1 q2 q3 ⊢
        subst q2
        obtain ⟨s4, c1, c2, c3⟩ := c_copy hG q3
        have hR : RR (wI s4 15 l (nI j)) 14 nl ns (up g (4 * l) j) := rr_kind c2 hnl hns hl
        have hS4 : Sm s (wI s4 15 l (nI j)) 14 13 := c3.tr (Sm.wi (by omega) (by omega))
        obtain ⟨s5, d1, d2, -⟩ := c_fits hG hS4 hR (wf_kind hG.2.1 hl (by omega)) (by rw [up_o (by omega)]; exact h42) (Or.inr rfl)
        rw [← eP] at d1
        unfold f_X6_kinds_L17
        rw [if_neg (nI_nlt (by omega) (by omega)), c1, cl_s, if_pos (ib3 (by decide) (by omega)), bd_s, nI_clamp (by omega), b_farthest isS27 (hG.2.2.2.1.sm hS4 (by omega)) hG.2.2.2.2.1, cl_s, d1, cl_s, bd_s, nI_add j 1]
        by_cases h0 : P j = true
        · rw [if_pos h0, if1']
          refine ⟨_, rfl, ?_, rfl, d2⟩
          rw [it_s, if_pos h0, ← q1]
        · rw [if_neg h0, if0']
          refine ⟨_, rfl, ?_, rfl, d2⟩
          rw [it_s, if_neg h0, ← q1]) (fun q hq => by
        obtain ⟨v, y, s3⟩ := q
        obtain ⟨q1, q2, q3⟩ := hq
        dsimp only at q1 q2 q3 ⊢
        subst q2
        unfold f_X6_kinds_L17
        rw [if_pos (by decide)]
        exact ⟨_, rfl, q1, q3⟩) (q := (nI 0, nI 0, s)) ⟨rfl, rfl, Sm.rf⟩ (Fu_lt (by omega))
      obtain ⟨x, s2⟩ := t
      obtain ⟨h3a, h3⟩ := h2
      dsimp only at h3a
      refine ⟨s2, ?_, h3.qf⟩
      unfold f_X6_kinds
      rw [g_life isR1 hG.1 hnl hl, cl_s, if1, h1, h3a]
    · obtain ⟨t, h1, h2⟩ := lp_inv (body := fun q : Int32 × Int32 × St => f_X7_kinds_L14 (nI l) q.1 q.2.1 q.2.2) (fun j q => q.1 = it (fun k v => if P k = true then v ||| (nI 1 <<< (nI k &&& 31)) else v) (nI 0) j ∧ q.2.1 = nI j ∧ Sn s' q.2.2) (fun t => t.1 = it (fun k v => if P k = true then v ||| (nI 1 <<< (nI k &&& 31)) else v) (nI 0) 4 ∧ Sn s' t.2) 4 (fun j q hj hq => by
        obtain ⟨v, y, s3⟩ := q
        obtain ⟨q1, q2, q3⟩ := hq
        dsimp only at q1 q2 q3 ⊢
        subst q2
        obtain ⟨s5, d1, d2, d3⟩ := r_so (w := 0) (x := j) h' q3 hl (by decide) rfl (wf_kind hG.2.1 hl (show j ≤ 3 by omega)) (by rw [up_o (by omega)]; exact h42)
        rw [Nat.add_zero, ← eP] at d1
        unfold f_X7_kinds_L14
        rw [if_neg (nI_ge hj (by decide)), d1, cl_s, b7_flag, cl_s, bd_s, nI_add j 1]
        by_cases h0 : P j = true
        · rw [if_pos h0, if_neg (by decide)]
          refine ⟨_, rfl, ?_, rfl, d3⟩
          rw [it_s, if_pos h0, ← q1]
        · rw [if_neg h0, if_pos (by decide)]
          refine ⟨_, rfl, ?_, rfl, d3⟩
          rw [it_s, if_neg h0, ← q1]
          have : ∀ j, j < 4 → nI 0 <<< (nI j &&& 31) = 0 := by decide
          rw [this j hj, Int32.or_zero]) (fun q hq => by
        obtain ⟨v, y, s3⟩ := q
        obtain ⟨q1, q2, q3⟩ := hq
        dsimp only at q1 q2 q3 ⊢
        subst q2
        unfold f_X7_kinds_L14
        rw [if_pos (by decide)]
        exact ⟨_, rfl, q1, q3⟩) (q := (nI 0, nI 0, s')) ⟨rfl, rfl, Sn.rf⟩ (Fu_lt (by omega))
      obtain ⟨x, s2⟩ := t
      obtain ⟨h3a, h3⟩ := h2
      dsimp only at h3a
      refine ⟨s2, ?_, h3.qf⟩
      unfold f_X7_kinds
      rw [g7_life h'.2.2.2.2.2.1 hnl hl, cl_s, if1, h1, h3a]
  · refine qs (-1) hn hG ?_ ?_
    · unfold f_X6_kinds
      rw [g_life_n isR1 hG.1 hnl ha, cl_s, if0]
    · unfold f_X7_kinds
      rw [g7_life_n hG.2.2.2.2.2.1 hnl ha, cl_s, if0]
theorem c_from {n nl ns : Nat} {s s1 : St} {g : Nat → Nat} {l c k : Nat} (hG : Gd n s nl ns g) (hS : Sm s s1 14 13) (hl : l < nl) (hc : c < 20) (hk : k = 30 ∨ k = far g (g 106)) : ∃ s2, f_X6_isFrom (nI l) (nI c) (nI k) s1 = some (if fitb nl ns g (up g (4 * l + 1) c) = true then nI 1 else nI 0, s2) ∧ Sm s s2 14 13 ∧ (k = 30 → fitb nl ns g (up g (4 * l + 1) c) = true → RR s2 14 nl ns (stn nl ns (up g (4 * l + 1) c) 30)) := by
  have hnl := hG.2.1.1
  have hns := hG.2.1.2.1
  obtain ⟨s4, c1, c2, c3⟩ := c_copy hG hS
  have hR : RR (wI s4 16 l (nI c)) 14 nl ns (up g (4 * l + 1) c) := rr_table c2 hnl hns hl
  have hS4 : Sm s (wI s4 16 l (nI c)) 14 13 := c3.tr (Sm.wi (by omega) (by omega))
  obtain ⟨s5, d1, d2, d3⟩ := c_fits hG hS4 hR (wf_table hG.2.1 hl hc) (by rw [up_o (by omega)]; exact hG.2.2.1) hk
  refine ⟨s5, ?_, d2, d3⟩
  unfold f_X6_isFrom
  rw [c1, cl_s, if_pos (ib3 (by decide) (by omega)), bd_s, nI_clamp (by omega), d1, cl_s]
  by_cases h0 : fitb nl ns g (up g (4 * l + 1) c) = true
  · rw [if_pos h0, if_pos (Or.inr (by decide))]
  · rw [if_neg h0, if_pos (Or.inl (by decide))]
def frf (P : Nat → Bool) (c : Nat) (q : Int32 × Int32) : Int32 × Int32 := if P c = true then (if ¬ q.2 = 0 then q.1 else nI (nm c), q.2 + nI 1) else q
theorem op_froms : Op2 f_X6_froms f_X7_froms Good := by
  intro n s a b hn hG
  obtain ⟨-, nl, ns, g, hG⟩ := hG
  have hnl := hG.2.1.1
  have hns := hG.2.1.2.1
  have h42 := hG.2.2.1
  rcases rng a nl with ⟨l, hl, hl2, rfl⟩ | ha
  · rcases rng b (1 + 1) with ⟨w, hw, hw2, rfl⟩ | hb
    · obtain ⟨P, eP⟩ : ∃ P : Nat → Bool, ∀ k, P k = fitb nl ns g (up g (4 * l + 1) k) := ⟨_, fun _ => rfl⟩
      refine qy (if w = 0 then (it (frf P) (-4, nI 0) 20).2 else (it (frf P) (-4, nI 0) 20).1) hn hG ?_ (fun s' h' => ?_)
      · obtain ⟨t, h1, h2⟩ := lp_inv (body := fun q : Int32 × Int32 × Int32 × St => f_X6_froms_L31 (nI l) (nI w) q.1 q.2.1 q.2.2.1 q.2.2.2) (fun j q => (q.1, q.2.1) = it (frf P) (-4, nI 0) j ∧ q.2.2.1 = nI j ∧ Sm s q.2.2.2 14 13) (fun t => t.1 = (if w = 0 then (it (frf P) (-4, nI 0) 20).2 else (it (frf P) (-4, nI 0) 20).1) ∧ Sm s t.2 14 13) 20 (fun j q hj hq => by
          obtain ⟨x, v, y, s3⟩ := q
          obtain ⟨q1, q2, q3⟩ := hq
          dsimp only at q1 q2 q3 ⊢
          subst q2
          obtain ⟨s5, d1, d2, -⟩ := c_from hG q3 hl hj (Or.inr rfl)
          rw [← eP] at d1
          unfold f_X6_froms_L31
          rw [if_neg (nI_ge hj (by decide)), b_farthest isS27 (hG.2.2.2.1.sm q3 (by omega)) hG.2.2.2.2.1, cl_s, d1, cl_s, b_nameOf (by omega), cl_s, nI_add j 1]
          by_cases h0 : P j = true
          · rw [if_pos h0, if1']
            by_cases h5 : v = 0
            · rw [if_neg (fun q => q h5)]
              refine ⟨_, rfl, ?_, rfl, d2⟩
              rw [it_s, ← q1]
              unfold frf
              rw [if_pos h0, if_neg (fun q => q h5)]
            · rw [if_pos h5]
              refine ⟨_, rfl, ?_, rfl, d2⟩
              rw [it_s, ← q1]
              unfold frf
              rw [if_pos h0, if_pos h5]
          · rw [if_neg h0, if0']
            refine ⟨_, rfl, ?_, rfl, d2⟩
            rw [it_s, ← q1]
            unfold frf
            rw [if_neg h0]) (fun q hq => by
          obtain ⟨x, v, y, s3⟩ := q
          obtain ⟨q1, q2, q3⟩ := hq
          dsimp only at q1 q2 q3 ⊢
          subst q2
          unfold f_X6_froms_L31
          rw [if_pos (by decide), ← q1]
          by_cases hw0 : w = 0
          · subst hw0
            rw [if0, if_pos rfl]
            exact ⟨_, rfl, rfl, q3⟩
          · rw [if_pos (fun q => hw0 ((nI_e0 hw2).mp q)), if_neg hw0]
            exact ⟨_, rfl, rfl, q3⟩) (q := (-4, nI 0, nI 0, s)) ⟨rfl, rfl, Sm.rf⟩ (Fu_lt (by omega))
        obtain ⟨x, s2⟩ := t
        obtain ⟨h3a, h3⟩ := h2
        dsimp only at h3a
        refine ⟨s2, ?_, h3.qf⟩
        unfold f_X6_froms
        rw [g_life isR1 hG.1 hnl hl, cl_s, if1', g_win (by omega) (by decide), cl_s, if1, h1, h3a]
      · obtain ⟨t, h1, h2⟩ := lp_inv (body := fun q : Int32 × Int32 × Int32 × St => f_X7_froms_L26 (nI l) (nI w) q.1 q.2.1 q.2.2.1 q.2.2.2) (fun j q => (q.2.1, q.1) = it (frf P) (-4, nI 0) j ∧ q.2.2.1 = nI j ∧ Sn s' q.2.2.2) (fun t => t.1 = (if w = 0 then (it (frf P) (-4, nI 0) 20).2 else (it (frf P) (-4, nI 0) 20).1) ∧ Sn s' t.2) 20 (fun j q hj hq => by
          obtain ⟨v, x, y, s3⟩ := q
          obtain ⟨q1, q2, q3⟩ := hq
          dsimp only at q1 q2 q3 ⊢
          subst q2
          obtain ⟨s5, d1, d2, d3⟩ := r_so (w := 1) (x := j) h' q3 hl (by decide) rfl (wf_table hG.2.1 hl hj) (by rw [up_o (by omega)]; exact h42)
          rw [← eP] at d1
          unfold f_X7_froms_L26
          rw [if_neg (nI_ge hj (by decide)), d1, cl_s, b7_nameOf (by omega), cl_s, nI_add j 1]
          by_cases h0 : P j = true
          · rw [if_pos h0, if1']
            by_cases h5 : v = 0
            · rw [if_neg (fun q => q h5)]
              refine ⟨_, rfl, ?_, rfl, d3⟩
              rw [it_s, ← q1]
              unfold frf
              rw [if_pos h0, if_neg (fun q => q h5)]
            · rw [if_pos h5]
              refine ⟨_, rfl, ?_, rfl, d3⟩
              rw [it_s, ← q1]
              unfold frf
              rw [if_pos h0, if_pos h5]
          · rw [if_neg h0, if0']
            refine ⟨_, rfl, ?_, rfl, d3⟩
            rw [it_s, ← q1]
            unfold frf
            rw [if_neg h0]) (fun q hq => by
          obtain ⟨v, x, y, s3⟩ := q
          obtain ⟨q1, q2, q3⟩ := hq
          dsimp only at q1 q2 q3 ⊢
          subst q2
          unfold f_X7_froms_L26
          rw [if_pos (by decide), ← q1]
          by_cases hw0 : w = 0
          · subst hw0
            rw [if0, if_pos rfl]
            exact ⟨_, rfl, rfl, q3⟩
          · rw [if_pos (fun q => hw0 ((nI_e0 hw2).mp q)), if_neg hw0]
            exact ⟨_, rfl, rfl, q3⟩) (q := (nI 0, -4, nI 0, s')) ⟨rfl, rfl, Sn.rf⟩ (Fu_lt (by omega))
        obtain ⟨x, s2⟩ := t
        obtain ⟨h3a, h3⟩ := h2
        dsimp only at h3a
        refine ⟨s2, ?_, h3.qf⟩
        unfold f_X7_froms
        rw [g7_life h'.2.2.2.2.2.1 hnl hl, cl_s, if1', g7_part (by omega), cl_s, if1, h1, h3a]
    · refine qs (-1) hn hG ?_ ?_
      · unfold f_X6_froms
        rw [g_life isR1 hG.1 hnl hl, cl_s, if1', g_win_n hb (by decide), cl_s, if0]
      · unfold f_X7_froms
        rw [g7_life hG.2.2.2.2.2.1 hnl hl, cl_s, if1', g7_part_n hb, cl_s, if0]
  · refine qs (-1) hn hG ?_ ?_
    · unfold f_X6_froms
      rw [g_life_n isR1 hG.1 hnl ha, cl_s, if0']
    · unfold f_X7_froms
      rw [g7_life_n hG.2.2.2.2.2.1 hnl ha, cl_s, if0']

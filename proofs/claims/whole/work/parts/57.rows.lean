/-! the class's rows: copies, what was SEEN, sheets, cells by name -/
theorem lnI_kd {k N : Nat} (h : lnI k = N) (h0 : 0 < N) : kd k = 9 ∧ ln k = N := by
  unfold lnI at h
  by_cases e : kd k = 9
  · rw [if_pos e] at h; exact ⟨e, h⟩
  · rw [if_neg e] at h; omega
theorem cp_ok {a r N : Nat} (ha : lnI a = N) (hr : lnI r = N) (h0 : 0 < N) (hN : N < 2 ^ 31) : kd a = 9 ∧ kd r = 9 ∧ ¬ (nI 0) < 0 ∧ ¬ (nI 0) < 0 ∧ ¬ (nI N) < 0 ∧ ((nI 0)).toNatClampNeg + ((nI N)).toNatClampNeg ≤ ln a ∧ ((nI 0)).toNatClampNeg + ((nI N)).toNatClampNeg ≤ ln r := by
  obtain ⟨a1, a2⟩ := lnI_kd ha h0
  obtain ⟨r1, r2⟩ := lnI_kd hr h0
  rw [nI_clamp (show 0 < 2 ^ 31 by decide), nI_clamp hN, a2, r2]
  exact ⟨a1, r1, nI_pos (by decide), nI_pos (by decide), nI_pos hN, by omega, by omega⟩
theorem cp_k {s : St} {k N j : Nat} {f h : Nat → Int32} (hj : j < N) (hN : N < 2 ^ 31) : (wR s k (va_cpy f h ((nI 0)).toNatClampNeg ((nI 0)).toNatClampNeg ((nI N)).toNatClampNeg)).1 k j = f j := by
  have e : (wR s k (va_cpy f h ((nI 0)).toNatClampNeg ((nI 0)).toNatClampNeg ((nI N)).toNatClampNeg)).1 k = va_cpy f h ((nI 0)).toNatClampNeg ((nI 0)).toNatClampNeg ((nI N)).toNatClampNeg := if_pos rfl
  rw [e, nI_clamp (show 0 < 2 ^ 31 by decide), nI_clamp hN, pk_cpy_in (by omega) (by omega)]
  simp
theorem RR.sm {s s2 : St} {a nl ns b m : Nat} {g : Nat → Nat} (h : RR s a nl ns g) (hS : Sm s s2 b m) (hd : a + 13 ≤ b ∨ b + m ≤ a) : RR s2 a nl ns g := by
  unfold RR at h ⊢
  rw [hS.1 a (by omega), hS.1 (a + 1) (by omega), hS.1 (a + 2) (by omega), hS.1 (a + 3) (by omega), hS.1 (a + 4) (by omega), hS.1 (a + 5) (by omega), hS.1 (a + 6) (by omega), hS.1 (a + 7) (by omega), hS.1 (a + 8) (by omega), hS.1 (a + 9) (by omega), hS.1 (a + 10) (by omega), hS.1 (a + 11) (by omega), hS.1 (a + 12) (by omega)]
  exact h
set_option maxHeartbeats 2000000 in
theorem b_copyOf {s : St} {r a nl ns : Nat} {g : Nat → Nat} (hr : isR r) (ha : isR a) (hd : a + 13 ≤ r ∨ r + 13 ≤ a) (hn : nl ≤ 3) (hm : ns ≤ 4) (hR : RR s a nl ns g) : ∃ s2, f_X2_copyOf r a s = some ((), s2) ∧ RR s2 r nl ns g ∧ Sm s s2 r 13 := by
  obtain ⟨k0, k1, k2, k3, k4, k5, k6, k7, k8, k9, k10, k11, k12⟩ := hr
  obtain ⟨j0, j1, j2, j3, j4, j5, j6, j7, j8, j9, j10, j11, j12⟩ := ha
  obtain ⟨q0, q1, q2, q3, q4, q5, q6, q7, q8, q9⟩ := hR
  unfold f_X2_copyOf
  rw [if_pos j0, if_pos k0, bd_s, bd_s, bd_s, if_pos (cp_ok j1 k1 (by decide) (by decide)), bd_s, if_pos (cp_ok j2 k2 (by decide) (by decide)), bd_s, if_pos (cp_ok j3 k3 (by decide) (by decide)), bd_s, if_pos (cp_ok j4 k4 (by decide) (by decide)), bd_s, if_pos (cp_ok j5 k5 (by decide) (by decide)), bd_s, if_pos (cp_ok j6 k6 (by decide) (by decide)), bd_s, if_pos (cp_ok j7 k7 (by decide) (by decide)), bd_s, if_pos (cp_ok j8 k8 (by decide) (by decide)), bd_s, if_pos (cp_ok j9 k9 (by decide) (by decide)), bd_s, if_pos (cp_ok j10 k10 (by decide) (by decide)), bd_s, if_pos (cp_ok j11 k11 (by decide) (by decide)), bd_s, if_pos (cp_ok j12 k12 (by decide) (by decide)), bd_s]
  refine ⟨_, rfl, ⟨?_, ?_, ?_, fun l hl => ⟨?_, ?_, ?_, ?_⟩, fun l hl => ⟨?_, ?_⟩, fun j hj => ?_, fun i hi => ⟨?_, ?_⟩, fun j hj => ?_, fun k hk => ?_, fun y hy => ?_⟩, ?_⟩
  · simp (disch := omega) only [wR_1o, wI_1o, wI_ne, wI_at]; exact q0
  · simp (disch := omega) only [wR_1o, wI_1o, wI_ne, wI_at]; exact q1
  · simp (disch := omega) only [wR_1o, wI_1o, wI_ne, wI_at]; exact q2
  · simp (disch := omega) only [wR_1o, wI_1o, cp_k]; exact (q3 l hl).1
  · simp (disch := omega) only [wR_1o, wI_1o, cp_k]; exact (q3 l hl).2.1
  · simp (disch := omega) only [wR_1o, wI_1o, cp_k]; exact (q3 l hl).2.2.1
  · simp (disch := omega) only [wR_1o, wI_1o, cp_k]; exact (q3 l hl).2.2.2
  · simp (disch := omega) only [wR_1o, wI_1o, cp_k]; exact (q4 l hl).1
  · simp (disch := omega) only [wR_1o, wI_1o, cp_k]; exact (q4 l hl).2
  · simp (disch := omega) only [wR_1o, wI_1o, cp_k]; exact q5 j hj
  · simp (disch := omega) only [wR_1o, wI_1o, cp_k]; exact (q6 i hi).1
  · simp (disch := omega) only [wR_1o, wI_1o, cp_k]; exact (q6 i hi).2
  · simp (disch := omega) only [wR_1o, wI_1o, cp_k]; exact q7 j hj
  · simp (disch := omega) only [wR_1o, wI_1o, cp_k]; exact q8 k hk
  · simp (disch := omega) only [wR_1o, wI_1o, cp_k]; exact q9 y hy
  · refine ⟨fun k hk => ?_, rfl⟩
    simp (disch := omega) only [wR_1o, wI_1o]
theorem b_fill {s : St} {a N : Nat} (ha : lnI a = N) (h0 : 0 < N) (hN : N < 1000) : ∃ s2, f_J7_fill_53178 a (nI 0) s = some ((), s2) ∧ (∀ j, j < N → s2.1 a j = nI 0) ∧ (∀ k, k ≠ a → s2.1 k = s.1 k) ∧ s2.2 = s.2 := by
  obtain ⟨a1, a2⟩ := lnI_kd ha h0
  unfold f_J7_fill_53178
  rw [if_pos a1, bd_s, a2]
  obtain ⟨t, h1, h2⟩ := lp_inv (body := fun q : Int32 × St => f_J7_fill_53178_L5 a (nI 0) (nI N) q.1 q.2) (fun k q => q.1 = nI k ∧ (∀ j, j < k → q.2.1 a j = nI 0) ∧ (∀ k, k ≠ a → q.2.1 k = s.1 k) ∧ q.2.2 = s.2) (fun t => (∀ j, j < N → t.2.1 a j = nI 0) ∧ (∀ k, k ≠ a → t.2.1 k = s.1 k) ∧ t.2.2 = s.2) N (fun k q hk hq => by
    obtain ⟨x, s3⟩ := q
    obtain ⟨q1, q2, q3, q4⟩ := hq
    dsimp only at q1 q2 q3 q4 ⊢
    subst q1
    unfold f_J7_fill_53178_L5
    rw [if_neg (nI_ge hk (by omega)), ha, if_pos (inb_t hk (by omega)), bd_s, nI_add, nI_clamp (by omega)]
    refine ⟨_, rfl, rfl, fun j hj => ?_, fun j hj => ?_, q4⟩
    · by_cases e : j = k
      · subst e; rw [wI_at]
      · rw [wI_ne e]; exact q2 j (by omega)
    · rw [wI_1o hj]; exact q3 j hj) (fun q hq => by
    obtain ⟨x, s3⟩ := q
    obtain ⟨q1, q2⟩ := hq
    dsimp only at q1 q2 ⊢
    subst q1
    unfold f_J7_fill_53178_L5
    rw [if_pos (nI_le (Nat.le_refl _) (by omega))]
    exact ⟨_, rfl, q2⟩) (q := (nI 0, s)) ⟨rfl, fun j hj => absurd hj (by omega), fun _ _ => rfl, rfl⟩ (Fu_lt (by omega))
  exact ⟨t.2, h1, h2⟩
/-- what was SEEN, as a Seen of the class holds it -/
def isS (r : Nat) : Prop := kd r = 3 ∧ lnI (r + 1) = 6 ∧ lnI (r + 2) = 6 ∧ lnI (r + 3) = 6 ∧ lnI (r + 4) = 6
def SR (s : St) (r : Nat) (g : Nat → Nat) : Prop := s.1 r 0 = nI (g 106) ∧ ∀ k, k < g 106 → s.1 (r + 1) k = nI (g (107 + 4 * k)) ∧ s.1 (r + 2) k = nI (g (108 + 4 * k)) ∧ s.1 (r + 3) k = nI (g (109 + 4 * k)) ∧ s.1 (r + 4) k = nI (g (110 + 4 * k))
def WS (nl ns : Nat) (g : Nat → Nat) : Prop := g 106 ≤ 6 ∧ ∀ k, k < g 106 → g (107 + 4 * k) < ns ∧ g (108 + 4 * k) < nl ∧ g (109 + 4 * k) ≤ 30 ∧ g (110 + 4 * k) ≤ 999
theorem SR.sm {s s2 : St} {a b m : Nat} {g : Nat → Nat} (h : SR s a g) (hS : Sm s s2 b m) (hd : a + 5 ≤ b ∨ b + m ≤ a) : SR s2 a g := by
  unfold SR at h ⊢
  rw [hS.1 a (by omega), hS.1 (a + 1) (by omega), hS.1 (a + 2) (by omega), hS.1 (a + 3) (by omega), hS.1 (a + 4) (by omega)]
  exact h
theorem SR.cong {s : St} {a : Nat} {g g2 : Nat → Nat} (h : SR s a g) (hW : g 106 ≤ 6) (he : ∀ j, 106 ≤ j → j < 131 → g2 j = g j) : SR s a g2 := by
  unfold SR at h ⊢
  rw [he 106 (by omega) (by omega)]
  refine ⟨h.1, fun k hk => ?_⟩
  rw [he (107 + 4 * k) (by omega) (by omega), he (108 + 4 * k) (by omega) (by omega), he (109 + 4 * k) (by omega) (by omega), he (110 + 4 * k) (by omega) (by omega)]
  exact h.2 k hk
theorem WS.cong {nl ns : Nat} {g g2 : Nat → Nat} (h : WS nl ns g) (he : ∀ j, 106 ≤ j → j < 131 → g2 j = g j) : WS nl ns g2 := by
  have h6 := h.1
  unfold WS at h ⊢
  rw [he 106 (by omega) (by omega)]
  refine ⟨h.1, fun k hk => ?_⟩
  rw [he (107 + 4 * k) (by omega) (by omega), he (108 + 4 * k) (by omega) (by omega), he (109 + 4 * k) (by omega) (by omega), he (110 + 4 * k) (by omega) (by omega)]
  exact h.2 k hk
theorem b_copyS {s : St} {r a : Nat} {g : Nat → Nat} (hr : isS r) (ha : isS a) (hd : a + 5 ≤ r ∨ r + 5 ≤ a) (h6 : g 106 ≤ 6) (hR : SR s a g) : ∃ s2, f_X3_copyOf r a s = some ((), s2) ∧ SR s2 r g ∧ Sm s s2 r 5 := by
  obtain ⟨k0, k1, k2, k3, k4⟩ := hr
  obtain ⟨j0, j1, j2, j3, j4⟩ := ha
  obtain ⟨q0, q1⟩ := hR
  unfold f_X3_copyOf
  rw [if_pos j0, if_pos k0, bd_s, if_pos (cp_ok j1 k1 (by decide) (by decide)), bd_s, if_pos (cp_ok j2 k2 (by decide) (by decide)), bd_s, if_pos (cp_ok j3 k3 (by decide) (by decide)), bd_s, if_pos (cp_ok j4 k4 (by decide) (by decide)), bd_s]
  refine ⟨_, rfl, ⟨?_, fun l hl => ⟨?_, ?_, ?_, ?_⟩⟩, ?_⟩
  · simp (disch := omega) only [wR_1o, wI_1o, wI_ne, wI_at]; exact q0
  · simp (disch := omega) only [wR_1o, wI_1o, cp_k]; exact (q1 l hl).1
  · simp (disch := omega) only [wR_1o, wI_1o, cp_k]; exact (q1 l hl).2.1
  · simp (disch := omega) only [wR_1o, wI_1o, cp_k]; exact (q1 l hl).2.2.1
  · simp (disch := omega) only [wR_1o, wI_1o, cp_k]; exact (q1 l hl).2.2.2
  · refine ⟨fun k hk => ?_, rfl⟩
    simp (disch := omega) only [wR_1o, wI_1o]
/-- the farthest STEP of what was SEEN -/
def far (g : Nat → Nat) : Nat → Nat
  | 0 => 0
  | k + 1 => max (far g k) (g (109 + 4 * k))
theorem far_le {nl ns : Nat} {g : Nat → Nat} (h : WS nl ns g) : ∀ {k : Nat}, k ≤ g 106 → far g k ≤ 30
  | 0, _ => Nat.zero_le _
  | k + 1, hk => by
    have h1 := far_le h (k := k) (by omega)
    have h2 := (h.2 k (by omega)).2.2.1
    exact Nat.max_le.mpr ⟨h1, h2⟩
theorem far_ge {g : Nat → Nat} : ∀ {n k : Nat}, k < n → g (109 + 4 * k) ≤ far g n
  | 0, k, hk => absurd hk (by omega)
  | n + 1, k, hk => by
    show _ ≤ max (far g n) (g (109 + 4 * n))
    by_cases e : k = n
    · subst e; exact Nat.le_max_right _ _
    · exact Nat.le_trans (far_ge (n := n) (by omega)) (Nat.le_max_left _ _)
theorem b_farthest {s : St} {r nl ns : Nat} {g : Nat → Nat} (hr : isS r) (hR : SR s r g) (hW : WS nl ns g) : f_X3_farthest r s = some (nI (far g (g 106)), s) := by
  have h6 := hW.1
  unfold f_X3_farthest
  refine lp_run (fun k => (nI (far g k), nI k, s)) (g 106) _ (fun k hk => ?_) ?_ rfl (Fu_lt (by omega))
  · dsimp only
    have h1 := far_le hW (k := k) (by omega)
    have h2 := (hW.2 k hk).2.2.1
    unfold f_X3_farthest_L4
    rw [if_pos hr.1, hR.1, if_neg (nI_ge hk (by omega)), hr.2.2.2.1, if_pos (inb_t (by omega) (by decide)), bd_s, nI_clamp (by omega), (hR.2 k hk).2.2.1, nI_max (by omega) (by omega), nI_add]
    rfl
  · dsimp only
    unfold f_X3_farthest_L4
    rw [if_pos hr.1, hR.1, if_pos (nI_le (Nat.le_refl _) (by omega))]
/-- all that was SEEN behind n STEPS is so in the room h -/
def fit1 (g h : Nat → Nat) (n k : Nat) : Prop := g (109 + 4 * k) = n → h (20 + 3 * g (107 + 4 * k) + g (108 + 4 * k)) = g (110 + 4 * k)
def fitB (g h : Nat → Nat) (n : Nat) : Prop := ∀ k, k < g 106 → fit1 g h n k
theorem fitB_dec (g h : Nat → Nat) (n : Nat) : fitB g h n ∨ ¬ fitB g h n := Classical.em _
theorem b_fitsBehind {s : St} {r m nl ns T : Nat} {g h : Nat → Nat} {n : Nat} (hr : isS r) (hm : isR m) (hR : SR s r g) (hW : WS nl ns g) (hM : RR s m nl ns h) (hH : WF nl ns T h) (hn : n < 1000) : ∃ v, f_X3_fitsBehind r m (nI n) s = some (v, s) ∧ ((v = nI 1 ∧ fitB g h n) ∨ (v = nI 0 ∧ ¬ fitB g h n)) := by
  have h6 := hW.1
  have hl3 := hH.1
  have hs4 := hH.2.1
  have hT := hH.T
  unfold f_X3_fitsBehind
  obtain ⟨t, h1, h2⟩ := lp_brk (body := fun q : Int32 × St => f_X3_fitsBehind_L2 r m (nI n) q.1 q.2) (fun k q => q.1 = nI k ∧ q.2 = s ∧ ∀ j, j < k → fit1 g h n j) (fun t => t.2 = s ∧ ((t.1 = nI 1 ∧ fitB g h n) ∨ (t.1 = nI 0 ∧ ¬ fitB g h n))) (g 106) (fun k q hk hq => by
    obtain ⟨x, s3⟩ := q
    obtain ⟨q1, q2, q3⟩ := hq
    dsimp only at q1 q2 q3 ⊢
    subst q1; subst q2
    obtain ⟨w1, w2, w3, w4⟩ := hW.2 k hk
    obtain ⟨p1, p2, p3, p4⟩ := hR.2 k hk
    have hha := hH.has (i := g (107 + 4 * k)) (l := g (108 + 4 * k)) (by omega) (by omega)
    unfold f_X3_fitsBehind_L2
    rw [if_pos hr.1, hR.1, if_neg (nI_ge hk (by omega)), hr.2.2.2.1, if_pos (inb_t (by omega) (by decide)), nI_clamp (by omega), p3]
    by_cases e : g (109 + 4 * k) = n
    · rw [if_neg (fun q => q (by rw [e])), hr.2.1, if_pos (inb_t (by omega) (by decide)), hr.2.2.1, if_pos (inb_t (by omega) (by decide)), if_pos hm.1, p1, p2, b_held hm hM (by omega) (by omega), cl_s, hr.2.2.2.2, if_pos (inb_t (by omega) (by decide)), p4]
      by_cases e2 : h (20 + 3 * g (107 + 4 * k) + g (108 + 4 * k)) = g (110 + 4 * k)
      · left
        rw [if_pos (by rw [e2]), nI_add]
        refine ⟨_, rfl, rfl, rfl, fun j hj => ?_⟩
        by_cases ej : j = k
        · subst ej; exact fun _ => e2
        · exact q3 j (by omega)
      · right
        rw [if_neg (fun q => e2 ((nI_eq (by omega) (by omega)).mp q))]
        exact ⟨_, rfl, rfl, Or.inr ⟨rfl, fun q => e2 (q k hk e)⟩⟩
    · left
      rw [if_pos (fun q => e ((nI_eq (by omega) (by omega)).mp q)), nI_add]
      refine ⟨_, rfl, rfl, rfl, fun j hj => ?_⟩
      by_cases ej : j = k
      · subst ej; exact fun q => absurd q e
      · exact q3 j (by omega)) (fun q hq => by
    obtain ⟨x, s3⟩ := q
    obtain ⟨q1, q2, q3⟩ := hq
    dsimp only at q1 q2 q3 ⊢
    subst q1; subst q2
    unfold f_X3_fitsBehind_L2
    rw [if_pos hr.1, hR.1, if_pos (nI_le (Nat.le_refl _) (by omega))]
    exact ⟨_, rfl, rfl, Or.inl ⟨rfl, q3⟩⟩) (q := (nI 0, s)) ⟨rfl, rfl, fun j hj => absurd hj (by omega)⟩ (Fu_lt (by omega))
  obtain ⟨v, s3⟩ := t
  obtain ⟨e, h3⟩ := h2
  dsimp only at e h3
  subst e
  exact ⟨v, h1, h3⟩
theorem b_fits {s : St} {r m nl ns T : Nat} {g h : Nat → Nat} {n : Nat} (hr : isS r) (hm : isR m) (hd : r + 5 ≤ m ∨ m + 13 ≤ r) (hR : SR s r g) (hW : WS nl ns g) (hM : RR s m nl ns h) (hH : WF nl ns T h) (hn : n < 100) (h42 : h 42 + n ≤ 2000) : ∃ v s2, f_X3_fits r m (nI n) s = some (v, s2) ∧ Sm s s2 m 13 ∧ ((v = nI 1 ∧ (∀ k, k ≤ n → fitB g (stn nl ns h k) k) ∧ RR s2 m nl ns (stn nl ns h n)) ∨ (v = nI 0 ∧ ¬ ∀ k, k ≤ n → fitB g (stn nl ns h k) k)) := by
  unfold f_X3_fits
  obtain ⟨t, h1, h2⟩ := lp_brk (body := fun q : Int32 × St => f_X3_fits_L2 r m (nI n) q.1 q.2) (fun k q => q.1 = nI k ∧ Sm s q.2 m 13 ∧ RR q.2 m nl ns (stn nl ns h k) ∧ ∀ j, j < k → fitB g (stn nl ns h j) j) (fun t => Sm s t.2 m 13 ∧ ((t.1 = nI 1 ∧ (∀ k, k ≤ n → fitB g (stn nl ns h k) k) ∧ RR t.2 m nl ns (stn nl ns h n)) ∨ (t.1 = nI 0 ∧ ¬ ∀ k, k ≤ n → fitB g (stn nl ns h k) k))) n (fun k q hk hq => by
    obtain ⟨x, s3⟩ := q
    obtain ⟨q1, q2, q3, q4⟩ := hq
    dsimp only at q1 q2 q3 q4 ⊢
    subst q1
    obtain ⟨w1, w2⟩ := stn_WF hH (k := k) (by omega)
    obtain ⟨v, k1, k2⟩ := b_fitsBehind (n := k) hr hm (hR.sm q2 hd) hW q3 w1 (by omega)
    unfold f_X3_fits_L2
    rw [if_neg (nI_ge hk (by omega)), if_pos hr.1, k1, cl_s]
    rcases k2 with ⟨rfl, k2⟩ | ⟨rfl, k2⟩
    · left
      rw [if_pos (by decide), if_pos hm.1, b_wayNow hm q3 w1, cl_s]
      obtain ⟨s4, j1, j2, j3⟩ := b_pass hm q3 w1 (wy_lt w1)
      unfold wy at j1
      rw [j1, cl_s, nI_add]
      refine ⟨_, rfl, rfl, q2.tr j3, j2, fun j hj => ?_⟩
      by_cases ej : j = k
      · subst ej; exact k2
      · exact q4 j (by omega)
    · right
      rw [if_neg (by decide)]
      exact ⟨_, rfl, q2, Or.inr ⟨rfl, fun q => k2 (q k (by omega))⟩⟩) (fun q hq => by
    obtain ⟨x, s3⟩ := q
    obtain ⟨q1, q2, q3, q4⟩ := hq
    dsimp only at q1 q2 q3 q4 ⊢
    subst q1
    obtain ⟨w1, w2⟩ := stn_WF hH (k := n) (by omega)
    obtain ⟨v, k1, k2⟩ := b_fitsBehind (n := n) hr hm (hR.sm q2 hd) hW q3 w1 (by omega)
    unfold f_X3_fits_L2
    rw [if_pos (nI_le (Nat.le_refl _) (by omega)), if_pos hr.1, k1, cl_s]
    rcases k2 with ⟨rfl, k2⟩ | ⟨rfl, k2⟩
    · rw [if_pos (by decide)]
      refine ⟨_, rfl, q2, Or.inl ⟨rfl, fun j hj => ?_, q3⟩⟩
      by_cases ej : j = n
      · subst ej; exact k2
      · exact q4 j (by omega)
    · rw [if_pos (by decide)]
      exact ⟨_, rfl, q2, Or.inr ⟨rfl, fun q => k2 (q n (by omega))⟩⟩) (q := (nI 0, s)) ⟨rfl, Sm.rf, hM, fun j hj => absurd hj (by omega)⟩ (Fu_lt (by omega))
  exact ⟨t.1, t.2, h1, h2.1, h2.2⟩
theorem b_isWithin (a : Int32) {lo hi : Nat} (h1 : lo < 2 ^ 31) (h2 : hi < 2 ^ 31) (s : St) : f_X6_isWithin a (nI lo) (nI hi) s = some (if (lo : Int) ≤ a.toInt ∧ a.toInt ≤ hi then nI 1 else nI 0, s) := by
  unfold f_X6_isWithin
  simp only [Int32.lt_iff_toInt_lt, nI_toInt h1, nI_toInt h2]
  by_cases e1 : a.toInt < lo
  · rw [if_pos e1, if_neg (by omega)]
  · rw [if_neg e1]
    by_cases e2 : (hi : Int) < a.toInt
    · rw [if_pos e2, if_neg (by omega)]
    · rw [if_neg e2, if_pos (by omega)]
/-- an int is a number of 0 to N - 1, or is not -/
theorem rng (a : Int32) (N : Nat) : (∃ i : Nat, i < N ∧ i < 2 ^ 31 ∧ a = nI i) ∨ ¬ (0 ≤ a.toInt ∧ a.toInt < N) := by
  by_cases h : 0 ≤ a.toInt ∧ a.toInt < N
  · left
    obtain ⟨j, hj, e⟩ := nI_of (x := a) (by rw [Int32.lt_iff_toInt_lt]; have h00 : (0 : Int32).toInt = 0 := (by decide); omega)
    subst e
    rw [nI_toInt hj] at h
    exact ⟨j, by omega, hj, rfl⟩
  · exact Or.inr h
theorem nI_ti {n : Nat} (h : n < 2 ^ 31) {N : Nat} (hN : n < N) : 0 ≤ (nI n).toInt ∧ (nI n).toInt < N := by rw [nI_toInt h]; omega
/-- the name of a CELL -/
def isC (a : Int32) : Prop := ∃ n : Nat, a = nI n ∧ n < 50 ∧ n % 10 < 4
theorem b_cellOf {n : Nat} (h : n < 50) (h2 : n % 10 < 4) (s : St) : f_X6_cellOf (nI n) s = some (nI (4 * (n / 10) + n % 10), s) := by
  unfold f_X6_cellOf
  rw [if_neg (nI_pos (by omega)), pk_rem (by omega) (by decide) (by decide), pk_div (by omega) (by decide) (by decide), if_neg (nI_ge (by omega) (by decide)), if_pos (nI_lt h2 (by decide)), pk_mul, nI_add, Nat.mul_comm (n / 10) 4]
theorem b_cellOf_n {a : Int32} (h : ¬ isC a) (s : St) : f_X6_cellOf a s = some (-1, s) := by
  unfold f_X6_cellOf
  by_cases h0 : a < 0
  · rw [if_pos h0]
  · obtain ⟨n, hn, rfl⟩ := nI_of h0
    rw [if_neg h0, pk_rem hn (by decide) (by decide), pk_div hn (by decide) (by decide)]
    by_cases h5 : 5 ≤ n / 10
    · rw [if_pos (nI_le h5 (by omega))]
    · rw [if_neg (nI_ge (by omega) (by decide)), if_neg]
      intro q
      rw [nI_ltI (by omega) (by decide)] at q
      exact h ⟨n, rfl, by omega, q⟩
theorem b_isCell {n : Nat} (h : n < 50) (h2 : n % 10 < 4) (s : St) : f_X6_isCell (nI n) s = some (nI 1, s) := by
  unfold f_X6_isCell
  rw [b_cellOf h h2, cl_s, if_neg (nI_pos (by omega))]
theorem b_isCell_n {a : Int32} (h : ¬ isC a) (s : St) : f_X6_isCell a s = some (nI 0, s) := by
  unfold f_X6_isCell
  rw [b_cellOf_n h, cl_s, if_pos (by decide)]
theorem b7_isCell {n : Nat} (h : n < 50) (h2 : n % 10 < 4) (s : St) : f_X7_isCell (nI n) s = some (nI 1, s) := by
  unfold f_X7_isCell
  rw [b7_win _ (by decide) (by decide), cl_s, nI_toInt (by omega), if_pos (show (((0 : Nat) : Int) ≤ n ∧ (n : Int) ≤ ((49 : Nat) : Int)) by omega), if_neg (by decide), pk_rem (by omega) (by decide) (by decide), if_neg (nI_ge h2 (by decide))]
theorem b7_isCell_n {a : Int32} (h : ¬ isC a) (s : St) : f_X7_isCell a s = some (nI 0, s) := by
  unfold f_X7_isCell
  rw [b7_win _ (by decide) (by decide), cl_s]
  by_cases h0 : ((0 : Nat) : Int) ≤ a.toInt ∧ a.toInt ≤ ((49 : Nat) : Int)
  · rw [if_pos h0, if_neg (by decide)]
    obtain ⟨n, hn, rfl⟩ := nI_of (x := a) (by rw [Int32.lt_iff_toInt_lt]; have h00 : (0 : Int32).toInt = 0 := (by decide); omega)
    rw [nI_toInt hn] at h0
    rw [pk_rem hn (by decide) (by decide), if_pos]
    rw [nI_leI (by decide) (by omega)]
    by_cases q : n % 10 < 4
    · exact absurd ⟨n, rfl, by omega, q⟩ h
    · omega
  · rw [if_neg h0, if_pos (by decide)]
theorem b7_cellOf {n : Nat} (h : n < 50) (s : St) : f_X7_cellOf (nI n) s = some (nI (4 * (n / 10) + n % 10), s) := by
  unfold f_X7_cellOf
  rw [pk_rem (by omega) (by decide) (by decide), pk_div (by omega) (by decide) (by decide), pk_mul, nI_add]
def nm (c : Nat) : Nat := 10 * (c / 4) + c % 4
theorem b_nameOf {c : Nat} (h : c < 2 ^ 31) (s : St) : f_X6_nameOf (nI c) s = some (nI (nm c), s) := by
  unfold f_X6_nameOf nm
  rw [pk_rem h (by decide) (by decide), pk_div h (by decide) (by decide), pk_mul, nI_add, Nat.mul_comm]
theorem b7_nameOf {c : Nat} (h : c < 2 ^ 31) (s : St) : f_X7_nameOf (nI c) s = some (nI (nm c), s) := by
  unfold f_X7_nameOf nm
  rw [pk_rem h (by decide) (by decide), pk_div h (by decide) (by decide), pk_mul, nI_add]
theorem b_rowOf {c : Nat} (h : c < 2 ^ 31) (s : St) : f_X6_rowOf (nI c) s = some (nI (c % 4), s) := by
  unfold f_X6_rowOf
  rw [pk_rem h (by decide) (by decide)]
theorem isR1 : isR 1 := by unfold isR; decide
theorem isR14 : isR 14 := by unfold isR; decide
theorem isR144 : isR 144 := by unfold isR; decide
theorem isR163 : isR 163 := by unfold isR; decide
theorem isS27 : isS 27 := by unfold isS; decide
theorem isS157 : isS 157 := by unfold isS; decide
theorem isS176 : isS 176 := by unfold isS; decide
theorem isRo : ∀ j, j < 8 → isR (38 + 13 * j) := by unfold isR; decide
/-! the guards, by cases -/
theorem g_life {s : St} {r nl ns : Nat} {g : Nat → Nat} (hr : isR r) (hR : RR s r nl ns g) (hn : nl ≤ 3) {l : Nat} (hl : l < nl) : f_X2_isLife r (nI l) s = some (nI 1, s) := by
  rw [b_isLife hr hR hn, if_pos (nI_ti (by omega) hl)]
theorem g_life_n {s : St} {r nl ns : Nat} {g : Nat → Nat} (hr : isR r) (hR : RR s r nl ns g) (hn : nl ≤ 3) {a : Int32} (hl : ¬ (0 ≤ a.toInt ∧ a.toInt < nl)) : f_X2_isLife r a s = some (nI 0, s) := by
  rw [b_isLife hr hR hn, if_neg hl]
theorem g_sit {s : St} {r nl ns : Nat} {g : Nat → Nat} (hr : isR r) (hR : RR s r nl ns g) (hn : ns ≤ 4) {l : Nat} (hl : l < ns) : f_X2_isSitter r (nI l) s = some (nI 1, s) := by
  rw [b_isSitter hr hR hn, if_pos (nI_ti (by omega) hl)]
theorem g_sit_n {s : St} {r nl ns : Nat} {g : Nat → Nat} (hr : isR r) (hR : RR s r nl ns g) (hn : ns ≤ 4) {a : Int32} (hl : ¬ (0 ≤ a.toInt ∧ a.toInt < ns)) : f_X2_isSitter r a s = some (nI 0, s) := by
  rw [b_isSitter hr hR hn, if_neg hl]
theorem g7_life {s : St} {nl : Nat} (h : s.1 189 3 = nI nl) (hn : nl ≤ 3) {l : Nat} (hl : l < nl) : f_X7_isLife (nI l) s = some (nI 1, s) := by
  rw [b7_isLife h hn, if_pos (nI_ti (by omega) hl)]
theorem g7_life_n {s : St} {nl : Nat} (h : s.1 189 3 = nI nl) (hn : nl ≤ 3) {a : Int32} (hl : ¬ (0 ≤ a.toInt ∧ a.toInt < nl)) : f_X7_isLife a s = some (nI 0, s) := by
  rw [b7_isLife h hn, if_neg hl]
theorem g7_sit {s : St} {ns : Nat} (h : s.1 189 4 = nI ns) (hn : ns ≤ 4) {l : Nat} (hl : l < ns) : f_X7_isSitter (nI l) s = some (nI 1, s) := by
  rw [b7_isSitter h hn, if_pos (nI_ti (by omega) hl)]
theorem g7_sit_n {s : St} {ns : Nat} (h : s.1 189 4 = nI ns) (hn : ns ≤ 4) {a : Int32} (hl : ¬ (0 ≤ a.toInt ∧ a.toInt < ns)) : f_X7_isSitter a s = some (nI 0, s) := by
  rw [b7_isSitter h hn, if_neg hl]
/-- a bound: from 0 to hi -/
theorem g_win {n hi : Nat} (h : n ≤ hi) (h2 : hi < 2 ^ 31) (s : St) : f_X6_isWithin (nI n) (nI 0) (nI hi) s = some (nI 1, s) := by
  rw [b_isWithin _ (by decide) h2, nI_toInt (by omega), if_pos (by omega)]
theorem g_win_n {a : Int32} {hi : Nat} (h : ¬ (0 ≤ a.toInt ∧ a.toInt < (hi + 1 : Nat))) (h2 : hi < 2 ^ 31) (s : St) : f_X6_isWithin a (nI 0) (nI hi) s = some (nI 0, s) := by
  rw [b_isWithin _ (by decide) h2, if_neg (by omega)]
theorem g7_win {n hi : Nat} (h : n ≤ hi) (h2 : hi < 2 ^ 31) (s : St) : f_X7_within (nI n).toInt64 (lN 0) (lN hi) s = some (nI 1, s) := by
  rw [b7_win _ (by decide) h2, nI_toInt (by omega), if_pos (by omega)]
theorem g7_win_n {a : Int32} {hi : Nat} (h : ¬ (0 ≤ a.toInt ∧ a.toInt < (hi + 1 : Nat))) (h2 : hi < 2 ^ 31) (s : St) : f_X7_within a.toInt64 (lN 0) (lN hi) s = some (nI 0, s) := by
  rw [b7_win _ (by decide) h2, if_neg (by omega)]
/-- from 1 to hi -/
theorem g_win1 {n hi : Nat} (h0 : 0 < n) (h : n ≤ hi) (h2 : hi < 2 ^ 31) (s : St) : f_X6_isWithin (nI n) (nI 1) (nI hi) s = some (nI 1, s) := by
  rw [b_isWithin _ (by decide) h2, nI_toInt (by omega), if_pos (by omega)]
theorem g_win1_n {a : Int32} {hi : Nat} (h : ¬ (1 ≤ a.toInt ∧ a.toInt < (hi + 1 : Nat))) (h2 : hi < 2 ^ 31) (s : St) : f_X6_isWithin a (nI 1) (nI hi) s = some (nI 0, s) := by
  rw [b_isWithin _ (by decide) h2, if_neg (by omega)]
theorem g7_win1 {n hi : Nat} (h0 : 0 < n) (h : n ≤ hi) (h2 : hi < 2 ^ 31) (s : St) : f_X7_within (nI n).toInt64 (lN 1) (lN hi) s = some (nI 1, s) := by
  rw [b7_win _ (by decide) h2, nI_toInt (by omega), if_pos (by omega)]
theorem g7_win1_n {a : Int32} {hi : Nat} (h : ¬ (1 ≤ a.toInt ∧ a.toInt < (hi + 1 : Nat))) (h2 : hi < 2 ^ 31) (s : St) : f_X7_within a.toInt64 (lN 1) (lN hi) s = some (nI 0, s) := by
  rw [b7_win _ (by decide) h2, if_neg (by omega)]
theorem rng1 (a : Int32) (N : Nat) : (∃ i : Nat, 0 < i ∧ i < N ∧ i < 2 ^ 31 ∧ a = nI i) ∨ ¬ (1 ≤ a.toInt ∧ a.toInt < N) := by
  rcases rng a N with ⟨i, h1, h2, rfl⟩ | h
  · by_cases h0 : 0 < i
    · exact Or.inl ⟨i, h0, h1, h2, rfl⟩
    · right
      rw [nI_toInt h2]
      omega
  · right; omega
theorem g7_part {n : Nat} (h : n ≤ 1) (s : St) : f_X7_isPart (nI n) s = some (nI 1, s) := by
  rw [b7_isPart, nI_toInt (by omega), if_pos (by omega)]
theorem g7_part_n {a : Int32} (h : ¬ (0 ≤ a.toInt ∧ a.toInt < (1 + 1 : Nat))) (s : St) : f_X7_isPart a s = some (nI 0, s) := by
  rw [b7_isPart, if_neg (by omega)]
theorem g7_far {n : Nat} (h : n ≤ 60) (s : St) : f_X7_isFar (nI n) s = some (nI 1, s) := by
  rw [b7_isFar, nI_toInt (by omega), if_pos (by omega)]
theorem g7_far_n {a : Int32} (h : ¬ (0 ≤ a.toInt ∧ a.toInt < (60 + 1 : Nat))) (s : St) : f_X7_isFar a s = some (nI 0, s) := by
  rw [b7_isFar, if_neg (by omega)]
theorem cellC (a : Int32) : (∃ n : Nat, n < 50 ∧ n % 10 < 4 ∧ a = nI n) ∨ ¬ isC a := by
  by_cases h : isC a
  · obtain ⟨n, h1, h2, h3⟩ := h
    exact Or.inl ⟨n, h2, h3, h1⟩
  · exact Or.inr h
theorem if1 {α : Sort _} {a b : α} : (if ¬ nI 1 = 0 then a else b) = a := if_pos (by decide)
theorem if0 {α : Sort _} {a b : α} : (if ¬ nI 0 = 0 then a else b) = b := if_neg (by decide)
theorem if1' {α : Sort _} {a b : α} : (if nI 1 = 0 then a else b) = b := if_neg (by decide)
theorem if0' {α : Sort _} {a b : α} : (if nI 0 = 0 then a else b) = a := if_pos (by decide)
theorem b_prices {s : St} {r nl ns T : Nat} {g : Nat → Nat} (hr : isR r) (hR : RR s r nl ns g) (hW : WF nl ns T g) : f_X2_pricesOfSitters r s = some (nI (sm (fun i => g (38 + g (12 + 2 * i) % 4)) ns), s) := by
  have hm := hW.2.1
  unfold f_X2_pricesOfSitters
  refine lp_run (fun k => (nI (sm (fun i => g (38 + g (12 + 2 * i) % 4)) k), nI k, s)) ns _ (fun k hk => ?_) ?_ rfl (Fu_lt (by omega))
  · dsimp only
    have hp := (hW.2.2.2.2.1 k hk).1
    unfold f_X2_pricesOfSitters_L4
    rw [if_pos hr.1, hR.2.1, if_neg (nI_ge hk (by omega)), hr.2.2.2.2.2.2.2.2.1, if_pos (inb_t (by omega) (by decide)), nI_clamp (by omega), (hR.2.2.2.2.2.2.1 k hk).1, b_rowOf (by omega), cl_s, hr.2.2.2.2.2.2.2.2.2.2.2.2, if_pos (inb_t (by omega) (by decide)), bd_s, nI_clamp (by omega), hR.2.2.2.2.2.2.2.2.2 _ (by omega), nI_add, nI_add]
    rfl
  · dsimp only
    unfold f_X2_pricesOfSitters_L4
    rw [if_pos hr.1, hR.2.1, if_pos (nI_le (Nat.le_refl _) (by omega))]
/-- sums over LIVES or SITTERS that are not there -/
theorem sm_ext {f : Nat → Nat} {a b : Nat} (h : a ≤ b) (hz : ∀ k, a ≤ k → k < b → f k = 0) : sm f a = sm f b := by
  obtain ⟨d, rfl⟩ : ∃ d, b = a + d := ⟨b - a, by omega⟩
  exact (sm_zeros hz).symm
theorem wf_al0 {nl ns T : Nat} {g : Nat → Nat} (h : WF nl ns T g) {l : Nat} (h1 : nl ≤ l) (h2 : l < 3) : al g l = 0 ∧ g (103 + l) = 0 ∧ hd g l = 0 ∧ ∀ i, i < 4 → g (20 + 3 * i + l) = 0 := by
  have := h.2.2.2.2.2.2.2.2.2.1 l h2 h1
  unfold tot at this
  have h0 : hd g l = 0 := by omega
  exact ⟨by omega, by omega, h0, fun i hi => sm_all0 (f := fun i => g (20 + 3 * i + l)) h0 i hi⟩
theorem wf_sal {nl ns T : Nat} {g : Nat → Nat} (h : WF nl ns T g) : sm (al g) nl = sm (al g) 3 := sm_ext h.1 (fun k h1 h2 => (wf_al0 h h1 h2).1)
theorem wf_slo {nl ns T : Nat} {g : Nat → Nat} (h : WF nl ns T g) : sm (fun l => g (103 + l)) nl = sm (fun l => g (103 + l)) 3 := sm_ext h.1 (fun k h1 h2 => (wf_al0 h h1 h2).2.1)
theorem wf_shb {nl ns T : Nat} {g : Nat → Nat} (h : WF nl ns T g) {i : Nat} (hi : i < 4) : sm (fun l => g (20 + 3 * i + l)) nl = sm (fun l => g (20 + 3 * i + l)) 3 := sm_ext h.1 (fun k h1 h2 => (wf_al0 h h1 h2).2.2.2 i hi)
theorem wf_sho {nl ns T : Nat} {g : Nat → Nat} (h : WF nl ns T g) {l : Nat} (hl : l < 3) : sm (fun i => g (20 + 3 * i + l)) ns = hd g l := sm_ext h.2.1 (fun k h1 h2 => h.2.2.2.2.2.2.2.2.2.2 k l h2 hl h1)
theorem wf_sha {nl ns T : Nat} {g : Nat → Nat} (h : WF nl ns T g) : sm (fun i => sm (fun l => g (20 + 3 * i + l)) nl) ns = sm (hd g) 3 := by
  have hm := h.2.1
  rw [sm_cong (fun i hi => wf_shb h (i := i) (by omega)), sm_ext hm (fun k h1 h2 => sm_zero (fun l hl => h.2.2.2.2.2.2.2.2.2.2 k l h2 hl h1))]
  simp only [sm, hd]
  omega
theorem wf_big {nl ns T : Nat} {g : Nat → Nat} (h : WF nl ns T g) : sm (hd g) 3 ≤ 60000 ∧ sm (al g) 3 ≤ 60000 ∧ sm (fun l => g (103 + l)) 3 ≤ 60000 := by
  have hT := h.T
  have h0 := h.2.2.2.2.2.2.2.2.1 0 (by decide)
  have h1 := h.2.2.2.2.2.2.2.2.1 1 (by decide)
  have h2 := h.2.2.2.2.2.2.2.2.1 2 (by decide)
  unfold tot at h0 h1 h2
  simp only [sm]
  omega

/-! whom to ask -/
/-- the CELLS that may be, and what each SITTER would answer for each -/
def gaf (P : Nat → Bool) (V : Nat → Nat → Nat) (c : Nat) (q : Nat × (Nat → Nat → Nat)) : Nat × (Nat → Nat → Nat) := if P c = true then (q.1 + 1, fun x i => if x = q.1 then V c i else q.2 x i) else q
theorem gaf_p {P : Nat → Bool} {V : Nat → Nat → Nat} {c : Nat} {q : Nat × (Nat → Nat → Nat)} (h : P c = true) : gaf P V c q = (q.1 + 1, fun x i => if x = q.1 then V c i else q.2 x i) := by
  unfold gaf
  rw [if_pos h]
theorem gaf_n {P : Nat → Bool} {V : Nat → Nat → Nat} {c : Nat} {q : Nat × (Nat → Nat → Nat)} (h : ¬ P c = true) : gaf P V c q = q := by
  unfold gaf
  rw [if_neg h]
theorem gaf_le {P : Nat → Bool} {V : Nat → Nat → Nat} : ∀ {k : Nat}, (it (gaf P V) (0, fun _ _ => 0) k).1 ≤ k
  | 0 => Nat.le_refl _
  | k + 1 => by
    have := gaf_le (P := P) (V := V) (k := k)
    rw [it_s]
    by_cases h : P k = true
    · rw [gaf_p h]; dsimp only; omega
    · rw [gaf_n h]; omega
/-- how many of the first m answers are like answer a -/
def cnt (A : Nat → Nat → Nat) (i a m : Nat) : Nat := it (fun b v => if nI (A a i) = nI (A b i) then v + 1 else v) 0 m
theorem cnt_le {A : Nat → Nat → Nat} {i a : Nat} : ∀ {m : Nat}, cnt A i a m ≤ m
  | 0 => Nat.le_refl _
  | m + 1 => by
    have := cnt_le (A := A) (i := i) (a := a) (m := m)
    unfold cnt at this ⊢
    rw [it_s]
    by_cases h : nI (A a i) = nI (A m i)
    · rw [if_pos h]; omega
    · rw [if_neg h]; omega
def mst (A : Nat → Nat → Nat) (i m : Nat) : Nat → Nat := it (fun a v => max v (cnt A i a m)) 0
theorem mst_le {A : Nat → Nat → Nat} {i m : Nat} : ∀ {k : Nat}, mst A i m k ≤ m
  | 0 => Nat.zero_le _
  | k + 1 => by
    have h1 := mst_le (A := A) (i := i) (m := m) (k := k)
    have h2 := cnt_le (A := A) (i := i) (a := k) (m := m)
    unfold mst at h1 ⊢
    rw [it_s]
    omega
def akf (A : Nat → Nat → Nat) (m i : Nat) (q : Nat × Int32) : Nat × Int32 := if q.1 ≤ mst A i m m then q else (mst A i m m, nI i)
theorem akf_p {A : Nat → Nat → Nat} {m i : Nat} {q : Nat × Int32} (h : q.1 ≤ mst A i m m) : akf A m i q = q := by
  unfold akf
  rw [if_pos h]
theorem akf_n {A : Nat → Nat → Nat} {m i : Nat} {q : Nat × Int32} (h : ¬ q.1 ≤ mst A i m m) : akf A m i q = (mst A i m m, nI i) := by
  unfold akf
  rw [if_neg h]
theorem akf_le {A : Nat → Nat → Nat} {m : Nat} : ∀ {k : Nat}, (it (akf A m) (m, -4) k).1 ≤ m
  | 0 => Nat.le_refl _
  | k + 1 => by
    have h1 := akf_le (A := A) (m := m) (k := k)
    have h2 := mst_le (A := A) (i := k) (m := m) (k := m)
    rw [it_s]
    by_cases h : (it (akf A m) (m, -4) k).1 ≤ mst A k m m
    · rw [akf_p h]; exact h1
    · rw [akf_n h]; exact h2
theorem l142 : lnI 142 = 80 := by decide
theorem l196 : lnI 196 = 80 := by decide
theorem ib142 {e : Nat} (h : e < 80) : inb (nI e) (lnI 142) = true := by rw [l142]; exact inb_t h (by decide)
theorem ib196 {e : Nat} (h : e < 80) : inb (nI e) (lnI 196) = true := by rw [l196]; exact inb_t h (by decide)
theorem Qf.w142 {s : St} {i : Nat} {x : Int32} : Qf s (wI s 142 i x) := fun k a b c d e f i => wI_1o (by omega)
theorem Qf.w196 {s : St} {i : Nat} {x : Int32} : Qf s (wI s 196 i x) := fun k a b c d e f i => wI_1o (by omega)
theorem c_alike {s : St} {ns i m : Nat} {A : Nat → Nat → Nat} (hns : ns ≤ 4) (hi : i < ns) (hm : m ≤ 20) (hA : ∀ x i, x < m → i < ns → s.1 142 (i * 20 + x) = nI (A x i)) : f_X6_mostAlike (nI i) (nI m) s = some (nI (mst A i m m), s) := by
  unfold f_X6_mostAlike
  refine lp_run (fun a => (nI (mst A i m a), nI a, s)) m _ (fun a ha => ?_) ?_ rfl (Fu_lt (by omega))
  · dsimp only
    have h1 := mst_le (A := A) (i := i) (m := m) (k := a)
    have h2 := cnt_le (A := A) (i := i) (a := a) (m := m)
    unfold f_X6_mostAlike_L5
    rw [if_neg (nI_ge ha (by omega))]
    refine lp_run (fun b => (nI (cnt A i a b), nI b, s)) m _ (fun b hb => ?_) ?_ rfl (Fu_lt (by omega))
    · dsimp only
      unfold f_X6_mostAlike_L17
      simp only [pk_mul, nI_add]
      rw [if_neg (nI_ge hb (by omega)), if_pos (ib142 (by omega)), if_pos (ib142 (by omega)), nI_clamp (by omega), nI_clamp (by omega), hA a i ha hi, hA b i hb hi]
      by_cases e : nI (A a i) = nI (A b i)
      · rw [if_neg (fun q => q e)]
        have : cnt A i a (b + 1) = cnt A i a b + 1 := by unfold cnt; rw [it_s, if_pos e]
        rw [this]
      · rw [if_pos e]
        have : cnt A i a (b + 1) = cnt A i a b := by unfold cnt; rw [it_s, if_neg e]
        rw [this]
    · dsimp only
      unfold f_X6_mostAlike_L17
      rw [if_pos (nI_le (Nat.le_refl _) (by omega)), bd_s, nI_max (by omega) (by omega), nI_add]
      rfl
  · dsimp only
    unfold f_X6_mostAlike_L5
    rw [if_pos (nI_le (Nat.le_refl _) (by omega))]
theorem c_gather {n nl ns : Nat} {s : St} {g : Nat → Nat} {l : Nat} {P : Nat → Bool} {V : Nat → Nat → Nat} (hG : Gd n s nl ns g) (hl : l < nl) (eP : ∀ k, P k = fitb nl ns g (up g (4 * l + 1) k)) (eV : ∀ c i, V c i = stn nl ns (up g (4 * l + 1) c) 30 (20 + 3 * i + l)) : ∃ s2, f_X6_gatherAnswers (nI l) s = some (nI (it (gaf P V) (0, fun _ _ => 0) 20).1, s2) ∧ Qf s s2 ∧ ∀ x i, x < (it (gaf P V) (0, fun _ _ => 0) 20).1 → i < ns → s2.1 142 (i * 20 + x) = nI ((it (gaf P V) (0, fun _ _ => 0) 20).2 x i) := by
  have hnl := hG.2.1.1
  have hns := hG.2.1.2.1
  unfold f_X6_gatherAnswers
  obtain ⟨t, h1, h2⟩ := lp_inv (body := fun q : Int32 × Int32 × St => f_X6_gatherAnswers_L4 (nI l) q.1 q.2.1 q.2.2) (fun j q => q.1 = nI (it (gaf P V) (0, fun _ _ => 0) j).1 ∧ q.2.1 = nI j ∧ Qf s q.2.2 ∧ ∀ x i, x < (it (gaf P V) (0, fun _ _ => 0) j).1 → i < ns → q.2.2.1 142 (i * 20 + x) = nI ((it (gaf P V) (0, fun _ _ => 0) j).2 x i)) (fun t => t.1 = nI (it (gaf P V) (0, fun _ _ => 0) 20).1 ∧ Qf s t.2 ∧ ∀ x i, x < (it (gaf P V) (0, fun _ _ => 0) 20).1 → i < ns → t.2.1 142 (i * 20 + x) = nI ((it (gaf P V) (0, fun _ _ => 0) 20).2 x i)) 20 (fun j q hj hq => by
    obtain ⟨v, y, s3⟩ := q
    obtain ⟨q1, q2, q3, q4⟩ := hq
    dsimp only at q1 q2 q3 q4 ⊢
    subst q1; subst q2
    have hm := gaf_le (P := P) (V := V) (k := j)
    have hG3 := hG.qf q3
    obtain ⟨s5, d1, d2, d3⟩ := c_from hG3 Sm.rf hl hj (k := 30) (Or.inl rfl)
    rw [← eP] at d1 d3
    have q5 : Qf s s5 := q3.tr d2.qf
    have a5 : s5.1 142 = s3.1 142 := d2.1 142 (by omega)
    unfold f_X6_gatherAnswers_L4
    rw [if_neg (nI_ge hj (by decide)), d1, cl_s]
    by_cases h0 : P j = true
    · have hR := d3 rfl h0
      have eg : it (gaf P V) (0, fun _ _ => 0) (j + 1) = ((it (gaf P V) (0, fun _ _ => 0) j).1 + 1, fun x i => if x = (it (gaf P V) (0, fun _ _ => 0) j).1 then V j i else (it (gaf P V) (0, fun _ _ => 0) j).2 x i) := by
        rw [it_s, gaf_p h0]
      rw [if_pos h0, if1']
      obtain ⟨t, j1, j2⟩ := lp_inv (body := fun q : Int32 × St => f_X6_gatherAnswers_L24 (nI l) (nI (it (gaf P V) (0, fun _ _ => 0) j).1) (nI j) q.1 q.2) (fun i q => q.1 = nI i ∧ RR q.2 14 nl ns (stn nl ns (up g (4 * l + 1) j) 30) ∧ Qf s q.2 ∧ (∀ x i, x < (it (gaf P V) (0, fun _ _ => 0) j).1 → i < ns → q.2.1 142 (i * 20 + x) = nI ((it (gaf P V) (0, fun _ _ => 0) j).2 x i)) ∧ ∀ k, k < i → q.2.1 142 (k * 20 + (it (gaf P V) (0, fun _ _ => 0) j).1) = nI (V j k)) (fun t => ∃ q : Int32 × Int32 × St, t = Sum.inl q ∧ q.1 = nI ((it (gaf P V) (0, fun _ _ => 0) j).1 + 1) ∧ q.2.1 = nI (j + 1) ∧ Qf s q.2.2 ∧ (∀ x i, x < (it (gaf P V) (0, fun _ _ => 0) j).1 → i < ns → q.2.2.1 142 (i * 20 + x) = nI ((it (gaf P V) (0, fun _ _ => 0) j).2 x i)) ∧ ∀ k, k < ns → q.2.2.1 142 (k * 20 + (it (gaf P V) (0, fun _ _ => 0) j).1) = nI (V j k)) ns (fun i q hi hq => by
        obtain ⟨x1, s6⟩ := q
        obtain ⟨p1, p2, p3, p4, p5⟩ := hq
        dsimp only at p1 p2 p3 p4 p5 ⊢
        subst p1
        have e1 : s6.1 1 1 = nI ns := (R1 (hG.qf p3).1).2.1
        unfold f_X6_gatherAnswers_L24
        simp only [pk_mul, nI_add]
        rw [e1, if_neg (nI_ge hi (by omega)), b_held isR14 p2 (by omega) (by omega), cl_s, if_pos (ib142 (by omega)), bd_s, nI_clamp (by omega), ← eV]
        refine ⟨_, rfl, rfl, RR.sm p2 (b := 142) (m := 1) (Sm.wi (by omega) (by omega)) (by omega), p3.tr Qf.w142, fun x k hx hk => ?_, fun k hk => ?_⟩
        · dsimp only
          rw [wI_ne (by omega)]; exact p4 x k hx hk
        · dsimp only
          by_cases ek : k = i
          · subst ek; rw [wI_at]
          · rw [wI_ne (by omega)]; exact p5 k (by omega)) (fun q hq => by
        obtain ⟨x1, s6⟩ := q
        obtain ⟨p1, p2, p3, p4, p5⟩ := hq
        dsimp only at p1 p2 p3 p4 p5 ⊢
        subst p1
        have e1 : s6.1 1 1 = nI ns := (R1 (hG.qf p3).1).2.1
        unfold f_X6_gatherAnswers_L24
        rw [e1, if_pos (nI_le (Nat.le_refl _) (by omega)), nI_add, nI_add]
        exact ⟨_, rfl, (_, _, s6), rfl, rfl, rfl, p3, p4, p5⟩) (q := (nI 0, s5)) ⟨rfl, hR, q5, fun x i hx hi => by rw [a5]; exact q4 x i hx hi, fun k hk => absurd hk (by omega)⟩ (Fu_lt (by omega))
      obtain ⟨⟨x1, y1, s6⟩, rfl, r1, r2, r3, r4, r5⟩ := j2
      dsimp only at r1 r2 r3 r4 r5
      rw [j1]
      refine ⟨_, rfl, ?_, r2, r3, fun x i hx hi => ?_⟩
      · rw [eg]; exact r1
      · rw [eg] at hx ⊢
        dsimp only at hx ⊢
        by_cases ex : x = (it (gaf P V) (0, fun _ _ => 0) j).1
        · rw [if_pos ex, ex]; exact r5 i hi
        · rw [if_neg ex]; exact r4 x i (by omega) hi
    · have eg : it (gaf P V) (0, fun _ _ => 0) (j + 1) = it (gaf P V) (0, fun _ _ => 0) j := by
        rw [it_s, gaf_n h0]
      rw [if_neg h0, if0', nI_add]
      refine ⟨_, rfl, by rw [eg], rfl, q5, fun x i hx hi => ?_⟩
      rw [eg] at hx ⊢
      dsimp only
      rw [a5]; exact q4 x i hx hi) (fun q hq => by
    obtain ⟨v, y, s3⟩ := q
    obtain ⟨q1, q2, q3, q4⟩ := hq
    dsimp only at q1 q2 q3 q4 ⊢
    subst q1; subst q2
    unfold f_X6_gatherAnswers_L4
    rw [if_pos (by decide)]
    exact ⟨_, rfl, rfl, q3, q4⟩) (q := (nI 0, nI 0, s)) ⟨rfl, rfl, Qf.rf, fun x i hx => absurd hx (Nat.not_lt_zero _)⟩ (Fu_lt (by omega))
  obtain ⟨v, s2⟩ := t
  obtain ⟨h3a, h3⟩ := h2
  dsimp only at h3a
  exact ⟨s2, by rw [h1, h3a], h3⟩
/-- the reference's look at one SITTER's answers -/
theorem r_worst {s : St} {ns i m f : Nat} {w fo : Int32} {A : Nat → Nat → Nat} (hns : ns ≤ 4) (hi : i < ns) (hm : m ≤ 20) (hf : f ≤ 20) (hA : ∀ x i, x < m → i < ns → s.1 196 (4 * x + i) = nI (A x i)) : lp (fun q : Int32 × Int32 × St => f_X7_ask_L117 w (nI m) (nI f) fo (nI i) q.1 q.2.1 q.2.2) Fu (nI 0, nI 0, s) = some (Sum.inl (nI (akf A m i (f, fo)).1, (akf A m i (f, fo)).2, nI (i + 1), s)) := by
  refine lp_run (fun a => (nI (mst A i m a), nI a, s)) m _ (fun a ha => ?_) ?_ rfl (Fu_lt (by omega))
  · dsimp only
    have h1 := mst_le (A := A) (i := i) (m := m) (k := a)
    have h2 := cnt_le (A := A) (i := i) (a := a) (m := m)
    unfold f_X7_ask_L117
    rw [if_neg (nI_ge ha (by omega))]
    refine lp_run (fun b => (nI (cnt A i a b), nI b, s)) m _ (fun b hb => ?_) ?_ rfl (Fu_lt (by omega))
    · dsimp only
      unfold f_X7_ask_L129 f_X7_ask_J169
      simp only [pk_mul, nI_add]
      rw [if_neg (nI_ge hb (by omega)), if_pos (ib196 (by omega)), if_pos (ib196 (by omega)), nI_clamp (by omega), nI_clamp (by omega), hA a i ha hi, hA b i hb hi]
      simp only [b7_flag, cl_s, bd_s, nI_add]
      by_cases e : nI (A a i) = nI (A b i)
      · rw [if_neg (fun q => q e)]
        have : cnt A i a (b + 1) = cnt A i a b + 1 := by unfold cnt; rw [it_s, if_pos e]
        rw [this, if1', nI_add]
      · rw [if_pos e]
        have : cnt A i a (b + 1) = cnt A i a b := by unfold cnt; rw [it_s, if_neg e]
        rw [this, if0', nI_add, Nat.add_zero]
    · dsimp only
      unfold f_X7_ask_L129
      rw [if_pos (nI_le (Nat.le_refl _) (by omega)), nI_add]
      have e : mst A i m (a + 1) = max (mst A i m a) (cnt A i a m) := by unfold mst; rw [it_s]
      rw [e]
      by_cases c : cnt A i a m ≤ mst A i m a
      · rw [if_pos (nI_le c (by omega)), Nat.max_eq_left c]
      · rw [if_neg (nI_ge (by omega) (by omega)), Nat.max_eq_right (by omega)]
  · dsimp only
    have h1 := mst_le (A := A) (i := i) (m := m) (k := m)
    unfold f_X7_ask_L117 f_X7_ask_J217
    rw [if_pos (nI_le (Nat.le_refl _) (by omega)), b7_lesser (by omega) (by omega), cl_s, cl_s, ox_s, ox_s, nI_add]
    unfold akf
    dsimp only
    by_cases c : f ≤ mst A i m m
    · rw [if_pos (nI_le c (by omega)), if_pos c, Nat.min_eq_right c]
    · rw [if_neg (nI_ge (by omega) (by omega)), if_neg c, Nat.min_eq_left (by omega)]
theorem op_ask : Op2 f_X6_ask f_X7_ask Good := by
  intro n s a b hn hG
  obtain ⟨-, nl, ns, g, hG⟩ := hG
  have hnl := hG.2.1.1
  have hns := hG.2.1.2.1
  have h42 := hG.2.2.1
  rcases rng a nl with ⟨l, hl, hl2, rfl⟩ | ha
  · rcases rng b (1 + 1) with ⟨w, hw, hw2, rfl⟩ | hb
    · obtain ⟨P, eP⟩ : ∃ P : Nat → Bool, ∀ k, P k = fitb nl ns g (up g (4 * l + 1) k) := ⟨_, fun _ => rfl⟩
      obtain ⟨V, eV⟩ : ∃ V : Nat → Nat → Nat, ∀ c i, V c i = stn nl ns (up g (4 * l + 1) c) 30 (20 + 3 * i + l) := ⟨_, fun _ _ => rfl⟩
      obtain ⟨s1, c1, c2, c3⟩ := c_gather hG hl eP eV
      have hm20 := gaf_le (P := P) (V := V) (k := 20)
      obtain ⟨m, em⟩ : ∃ m, m = (it (gaf P V) (0, fun _ _ => 0) 20).1 := ⟨_, rfl⟩
      obtain ⟨A, eA⟩ : ∃ A, A = (it (gaf P V) (0, fun _ _ => 0) 20).2 := ⟨_, rfl⟩
      rw [← em] at c1 c3 hm20
      rw [← eA] at c3
      have hle := fun k => akf_le (A := A) (m := m) (k := k)
      refine qy (ffin w (it (akf A m) (m, -4) ns)) hn hG ?_ (fun s' h' => ?_)
      · obtain ⟨t, h1, h2⟩ := lp_inv (body := fun q : Int32 × Int32 × Int32 × St => f_X6_ask_L38 (nI w) (nI m) q.1 q.2.1 q.2.2.1 q.2.2.2) (fun j q => q.1 = nI (it (akf A m) (m, -4) j).1 ∧ q.2.1 = (it (akf A m) (m, -4) j).2 ∧ q.2.2.1 = nI j ∧ q.2.2.2 = s1) (fun t => t.1 = ffin w (it (akf A m) (m, -4) ns) ∧ t.2 = s1) ns (fun j q hj hq => by
          obtain ⟨x, v, y, s3⟩ := q
          obtain ⟨q0, q1, q2, q3⟩ := hq
          dsimp only at q0 q1 q2 q3 ⊢
          subst q0; subst q1; subst q2; subst q3
          have hj1 := hle j
          have hmm := mst_le (A := A) (i := j) (m := m) (k := m)
          unfold f_X6_ask_L38
          rw [(R1 (hG.qf c2).1).2.1, if_neg (nI_ge hj (by omega)), c_alike hns hj hm20 c3, cl_s, nI_add]
          by_cases c : (it (akf A m) (m, -4) j).1 ≤ mst A j m m
          · rw [if_pos (nI_le c (by omega))]
            refine ⟨_, rfl, ?_, ?_, rfl, rfl⟩
            · dsimp only; rw [it_s, akf_p c]
            · dsimp only; rw [it_s, akf_p c]
          · rw [if_neg (nI_ge (by omega) (by omega))]
            refine ⟨_, rfl, ?_, ?_, rfl, rfl⟩
            · dsimp only; rw [it_s, akf_n c]
            · dsimp only; rw [it_s, akf_n c]) (fun q hq => by
          obtain ⟨x, v, y, s3⟩ := q
          obtain ⟨q0, q1, q2, q3⟩ := hq
          dsimp only at q0 q1 q2 q3 ⊢
          subst q0; subst q1; subst q2; subst q3
          unfold f_X6_ask_L38 ffin
          rw [(R1 (hG.qf c2).1).2.1, if_pos (nI_le (Nat.le_refl _) (by omega))]
          by_cases h4 : (it (akf A m) (m, -4) ns).2 = -4
          · rw [if_pos h4, if_pos h4]; exact ⟨_, rfl, h4, rfl⟩
          · rw [if_neg h4, if_neg h4]
            by_cases hw0 : w = 0
            · subst hw0
              rw [if0, if_pos rfl]
              exact ⟨_, rfl, rfl, rfl⟩
            · rw [if_pos (fun q => hw0 ((nI_e0 hw2).mp q)), if_neg hw0]
              exact ⟨_, rfl, rfl, rfl⟩) (q := (nI m, -4, nI 0, s1)) ⟨rfl, rfl, rfl, rfl⟩ (Fu_lt (by omega))
        obtain ⟨x, s2⟩ := t
        obtain ⟨h3a, h3⟩ := h2
        dsimp only at h3a h3
        subst h3
        refine ⟨s2, ?_, c2⟩
        unfold f_X6_ask
        rw [g_life isR1 hG.1 hnl hl, cl_s, if1', g_win (by omega) (by decide), cl_s, if1, c1, cl_s, h1, h3a]
      · obtain ⟨t, h1, h2⟩ := lp_inv (body := fun q : Int32 × Int32 × St => f_X7_ask_L22 (nI l) (nI w) q.1 q.2.1 q.2.2) (fun j q => q.1 = nI (it (gaf P V) (0, fun _ _ => 0) j).1 ∧ q.2.1 = nI j ∧ Qf s' q.2.2 ∧ ∀ x i, x < (it (gaf P V) (0, fun _ _ => 0) j).1 → i < ns → q.2.2.1 196 (4 * x + i) = nI ((it (gaf P V) (0, fun _ _ => 0) j).2 x i)) (fun t => t.1 = ffin w (it (akf A m) (m, -4) ns) ∧ Qf s' t.2) 20 (fun j q hj hq => by
          obtain ⟨v, y, s3⟩ := q
          obtain ⟨q1, q2, q3, q4⟩ := hq
          dsimp only at q1 q2 q3 q4 ⊢
          subst q1; subst q2
          have hm := gaf_le (P := P) (V := V) (k := j)
          have hG3 := h'.qf q3
          obtain ⟨s5, d1, d2, d3⟩ := r_so (w := 1) (x := j) hG3 Sn.rf hl (by decide) rfl (wf_table hG.2.1 hl hj) (by rw [up_o (by omega)]; exact h42)
          rw [← eP] at d1
          have q5 : Qf s' s5 := q3.tr d3.qf
          have a5 : s5.1 196 = s3.1 196 := d3.1 196 (by decide) (by decide)
          unfold f_X7_ask_L22
          rw [if_neg (nI_ge hj (by decide)), d1, cl_s]
          by_cases h0 : P j = true
          · have eg : it (gaf P V) (0, fun _ _ => 0) (j + 1) = ((it (gaf P V) (0, fun _ _ => 0) j).1 + 1, fun x i => if x = (it (gaf P V) (0, fun _ _ => 0) j).1 then V j i else (it (gaf P V) (0, fun _ _ => 0) j).2 x i) := by
              rw [it_s, gaf_p h0]
            rw [if_pos h0, if1']
            obtain ⟨t, j1, j2⟩ := lp_inv (body := fun q : Int32 × St => f_X7_ask_L43 (nI l) (nI w) (nI (it (gaf P V) (0, fun _ _ => 0) j).1) (nI j) q.1 q.2) (fun i q => q.1 = nI i ∧ NR q.2 nl ns (stn nl ns (up g (4 * l + 1) j) 30) ∧ Qf s' q.2 ∧ (∀ x i, x < (it (gaf P V) (0, fun _ _ => 0) j).1 → i < ns → q.2.1 196 (4 * x + i) = nI ((it (gaf P V) (0, fun _ _ => 0) j).2 x i)) ∧ ∀ k, k < i → q.2.1 196 (4 * (it (gaf P V) (0, fun _ _ => 0) j).1 + k) = nI (V j k)) (fun t => ∃ q : Int32 × Int32 × St, t = Sum.inl q ∧ q.1 = nI ((it (gaf P V) (0, fun _ _ => 0) j).1 + 1) ∧ q.2.1 = nI (j + 1) ∧ Qf s' q.2.2 ∧ (∀ x i, x < (it (gaf P V) (0, fun _ _ => 0) j).1 → i < ns → q.2.2.1 196 (4 * x + i) = nI ((it (gaf P V) (0, fun _ _ => 0) j).2 x i)) ∧ ∀ k, k < ns → q.2.2.1 196 (4 * (it (gaf P V) (0, fun _ _ => 0) j).1 + k) = nI (V j k)) ns (fun i q hi hq => by
              obtain ⟨x1, s6⟩ := q
              obtain ⟨p1, p2, p3, p4, p5⟩ := hq
              dsimp only at p1 p2 p3 p4 p5 ⊢
              subst p1
              unfold f_X7_ask_L43
              simp only [pk_mul, nI_add]
              rw [p2.2.1, if_neg (nI_ge hi (by omega)), if_pos (ib191 (by omega)), if_pos (ib196 (by omega)), bd_s, nI_clamp (by omega), nI_clamp (by omega), p2.2.2 _ (by omega), ← eV]
              refine ⟨_, rfl, rfl, ⟨by rw [wI_1o (by decide)]; exact p2.1, by rw [wI_1o (by decide)]; exact p2.2.1, by rw [wI_1o (by decide)]; exact p2.2.2⟩, p3.tr Qf.w196, fun x k hx hk => ?_, fun k hk => ?_⟩
              · dsimp only
                rw [wI_ne (by omega)]; exact p4 x k hx hk
              · dsimp only
                by_cases ek : k = i
                · subst ek; rw [wI_at]
                · rw [wI_ne (by omega)]; exact p5 k (by omega)) (fun q hq => by
              obtain ⟨x1, s6⟩ := q
              obtain ⟨p1, p2, p3, p4, p5⟩ := hq
              dsimp only at p1 p2 p3 p4 p5 ⊢
              subst p1
              unfold f_X7_ask_L43
              rw [p2.2.1, if_pos (nI_le (Nat.le_refl _) (by omega)), nI_add, nI_add]
              exact ⟨_, rfl, (_, _, s6), rfl, rfl, rfl, p3, p4, p5⟩) (q := (nI 0, s5)) ⟨rfl, d2, q5, fun x i hx hi => by rw [a5]; exact q4 x i hx hi, fun k hk => absurd hk (by omega)⟩ (Fu_lt (by omega))
            obtain ⟨⟨x1, y1, s6⟩, rfl, r1, r2, r3, r4, r5⟩ := j2
            dsimp only at r1 r2 r3 r4 r5
            rw [j1]
            refine ⟨_, rfl, ?_, r2, r3, fun x i hx hi => ?_⟩
            · rw [eg]; exact r1
            · rw [eg] at hx ⊢
              dsimp only at hx ⊢
              by_cases ex : x = (it (gaf P V) (0, fun _ _ => 0) j).1
              · rw [if_pos ex, ex]; exact r5 i hi
              · rw [if_neg ex]; exact r4 x i (by omega) hi
          · have eg : it (gaf P V) (0, fun _ _ => 0) (j + 1) = it (gaf P V) (0, fun _ _ => 0) j := by
              rw [it_s, gaf_n h0]
            rw [if_neg h0, if0', nI_add]
            refine ⟨_, rfl, by rw [eg], rfl, q5, fun x i hx hi => ?_⟩
            rw [eg] at hx ⊢
            dsimp only
            rw [a5]; exact q4 x i hx hi) (fun q hq => by
          obtain ⟨v, y, s3⟩ := q
          obtain ⟨q1, q2, q3, q4⟩ := hq
          dsimp only at q1 q2 q3 q4 ⊢
          rw [← em] at q1 q4
          rw [← eA] at q4
          subst q1; subst q2
          have e4 : s3.1 189 4 = nI ns := (h'.qf q3).2.2.2.2.2.2.1
          have key : lp (fun q : Int32 × Int32 × Int32 × St => f_X7_ask_L102 (nI w) (nI m) q.1 q.2.1 q.2.2.1 q.2.2.2) Fu (nI m, -4, nI 0, s3) = some (ffin w (it (akf A m) (m, -4) ns), s3) := by
            refine lp_run (fun j => (nI (it (akf A m) (m, -4) j).1, (it (akf A m) (m, -4) j).2, nI j, s3)) ns _ (fun j hj => ?_) ?_ rfl (Fu_lt (by omega))
            · dsimp only
              have hj1 := hle j
              unfold f_X7_ask_L102
              rw [e4, if_neg (nI_ge hj (by omega)), r_worst hns hj hm20 (by omega) q4, it_s]
            · dsimp only
              unfold f_X7_ask_L102 ffin
              rw [e4, if_pos (nI_le (Nat.le_refl _) (by omega))]
              by_cases h4 : (it (akf A m) (m, -4) ns).2 = -4
              · rw [if_neg (fun q => q h4), if_pos h4]
              · rw [if_pos h4, if_neg h4]
                by_cases hw0 : w = 0
                · subst hw0
                  rw [if0, if_pos rfl]
                · rw [if_pos (fun q => hw0 ((nI_e0 hw2).mp q)), if_neg hw0]
          unfold f_X7_ask_L22
          rw [if_pos (by decide), key, ox_s]
          exact ⟨_, rfl, rfl, q3⟩) (q := (nI 0, nI 0, s')) ⟨rfl, rfl, Qf.rf, fun x i hx => absurd hx (Nat.not_lt_zero _)⟩ (Fu_lt (by omega))
        obtain ⟨x, s2⟩ := t
        obtain ⟨h3a, h3⟩ := h2
        dsimp only at h3a
        refine ⟨s2, ?_, h3⟩
        unfold f_X7_ask
        rw [g7_life h'.2.2.2.2.2.1 hnl hl, cl_s, if1', g7_part (by omega), cl_s, if1, h1, h3a]
    · refine qs (-1) hn hG ?_ ?_
      · unfold f_X6_ask
        rw [g_life isR1 hG.1 hnl hl, cl_s, if1', g_win_n hb (by decide), cl_s, if0]
      · unfold f_X7_ask
        rw [g7_life hG.2.2.2.2.2.1 hnl hl, cl_s, if1', g7_part_n hb, cl_s, if0]
  · refine qs (-1) hn hG ?_ ?_
    · unfold f_X6_ask
      rw [g_life_n isR1 hG.1 hnl ha, cl_s, if0']
    · unfold f_X7_ask
      rw [g7_life_n hG.2.2.2.2.2.1 hnl ha, cl_s, if0']

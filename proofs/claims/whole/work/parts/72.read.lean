/-! seats read from a sheet -/
theorem fst_stop (stop : Nat → Prop) : ∀ n, ∃ J, J ≤ n ∧ (∀ j, j < J → ¬ stop j) ∧ (J = n ∨ stop J)
  | 0 => ⟨0, Nat.le_refl _, fun j hj => absurd hj (by omega), Or.inl rfl⟩
  | n + 1 => by
    obtain ⟨J, h1, h2, h3⟩ := fst_stop stop n
    by_cases hs : stop J
    · exact ⟨J, by omega, h2, Or.inr hs⟩
    · rcases h3 with h3 | h3
      · subst h3
        refine ⟨J + 1, Nat.le_refl _, fun j hj => ?_, Or.inl rfl⟩
        by_cases e : j = J
        · subst e; exact hs
        · exact h2 j (by omega)
      · exact absurd h3 hs
theorem i32_add {f : Int32} {j : Nat} (hj : j ≤ 20) : (f + nI 2 * nI j).toInt = if f.toInt + 2 * j < 2147483648 then f.toInt + 2 * j else f.toInt + 2 * j - 4294967296 := by
  rw [pk_mul, Int32.toInt_add, nI_toInt (by omega)]
  have h1 := Int32.le_toInt f
  have h2 := Int32.toInt_lt f
  unfold Int.bmod
  simp only [Int.natCast_mul]
  split <;> split <;> omega
theorem i64_add {f : Int32} {j c : Nat} (hj : j ≤ 20) (hc : c ≤ 2) : (f.toInt64 + (nI 2 * nI j).toInt64 + (nI c).toInt64).toInt = f.toInt + 2 * j + c := by
  rw [pk_mul, nI_l (n := 2 * j) (by omega), nI_l (n := c) (by omega), Int64.toInt_add, Int64.toInt_add, Int32.toInt_toInt64, lN_toInt (by omega), lN_toInt (by omega)]
  have h1 := Int32.le_toInt f
  have h2 := Int32.toInt_lt f
  unfold Int.bmod
  simp only [Int.natCast_mul]
  split <;> split <;> omega
/-- the index lies in the sheet: on both sides the same number -/
theorem ix_in {f : Int32} {j z : Nat} (hj : j ≤ 20) (hz : z ≤ 40) (h : 0 ≤ f.toInt + 2 * j ∧ f.toInt + 2 * j < z) : ∃ p : Nat, p < z ∧ (p : Int) = f.toInt + 2 * j ∧ f + nI 2 * nI j = nI p ∧ ∀ k, k < 4 → nI 40 * nI k + f + nI 2 * nI j = nI (40 * k + p) := by
  refine ⟨(f.toInt + 2 * j).toNat, by omega, by omega, ?_, fun k hk => ?_⟩
  · apply Int32.toInt_inj.mp
    rw [i32_add hj, if_pos (by omega), nI_toInt (by omega)]
    omega
  · have e : f + nI 2 * nI j = nI (f.toInt + 2 * j).toNat := by
      apply Int32.toInt_inj.mp
      rw [i32_add hj, if_pos (by omega), nI_toInt (by omega)]
      omega
    rw [Int32.add_assoc, e, pk_mul, nI_add]
theorem ix_out {f : Int32} {j z : Nat} (hj : j ≤ 20) (hz : z ≤ 40) (h : ¬ (0 ≤ f.toInt + 2 * j ∧ f.toInt + 2 * j < z)) : f + nI 2 * nI j < 0 ∨ ¬ f + nI 2 * nI j < nI z := by
  have h1 := Int32.le_toInt f
  have h2 := Int32.toInt_lt f
  rw [Int32.lt_iff_toInt_lt, Int32.lt_iff_toInt_lt, i32_add hj, nI_toInt (by omega)]
  have h00 : (0 : Int32).toInt = 0 := by decide
  rw [h00]
  by_cases c : f.toInt + 2 * (j : Int) < 2147483648
  · rw [if_pos c]; omega
  · rw [if_neg c]; omega
/-- the sheet's fault at pair j, if its lane is right -/
def ft (f : Int32) (z j : Nat) : Int32 := if 0 ≤ f.toInt + 2 * j ∧ f.toInt + 2 * j + 1 < z then nI 0 else nI 2
theorem c_ft {s : St} {k L z j : Nat} {f : Int32} (hk : k < 4) (hL : L < 3) (hz : z ≤ 40) (hj : j ≤ 20) (x1 : s.1 (181 + 2 * k) 0 = nI L) (x2 : s.1 (181 + 2 * k) 1 = nI z) : f_X4_faultOfPair (181 + 2 * k) (nI L) (f + nI 2 * nI j) s = some (ft f z j, s) := by
  obtain ⟨m1, m2, m3, m4, m5⟩ := sh_a k hk
  unfold f_X4_faultOfPair f_X4_faultAt ft
  rw [if_pos m2, if_pos m2, b_isNothing_n m2 hL x1, cl_s, if0', x1, if_pos rfl, x2]
  by_cases h : 0 ≤ f.toInt + 2 * (j : Int) ∧ f.toInt + 2 * (j : Int) < z
  · obtain ⟨p, p1, p2, p3, -⟩ := ix_in hj hz h
    rw [p3, if_neg (nI_pos (by omega)), if_pos (nI_lt p1 (by omega)), cl_s, if0', nI_add, if_pos m2, b_isNothing_n m2 hL x1, cl_s, if0', x1, if_pos rfl, if_neg (nI_pos (by omega)), x2]
    by_cases h2 : p + 1 < z
    · rw [if_pos (nI_lt h2 (by omega)), cl_s, if_pos (by omega)]
    · rw [if_neg (nI_nlt (by omega) (by omega)), cl_s, if_neg (by omega)]
  · have hn : ¬ (0 ≤ f.toInt + 2 * (j : Int) ∧ f.toInt + 2 * (j : Int) + 1 < z) := by omega
    rw [if_neg hn]
    rcases ix_out hj hz h with h1 | h1
    · rw [if_pos h1, cl_s, if_neg (by decide)]
    · by_cases h0 : f + nI 2 * nI j < 0
      · rw [if_pos h0, cl_s, if_neg (by decide)]
      · rw [if_neg h0, if_neg h1, cl_s, if_neg (by decide)]
theorem i64_lt0 {x : Int64} : (lg_cmp x (lN 0)) < 0 ↔ x.toInt < 0 := by
  rw [lg_cmp_lt, Int64.lt_iff_toInt_lt, lN_toInt (by decide)]
  rfl
theorem i64_ltz {x : Int64} {z : Nat} (hz : z ≤ 40) : (lg_cmp x ((nI z).toInt64)) < 0 ↔ x.toInt < z := by
  rw [nI_l (by omega), lg_cmp_lt, Int64.lt_iff_toInt_lt, lN_toInt (by omega)]
theorem r_ft {s : St} {k L z j m : Nat} {f w : Int32} (hk : k < 4) (hL : L < 3) (hz : z ≤ 40) (hj : j ≤ 20) (x1 : s.1 197 k = nI L) (x2 : s.1 198 k = nI z) : lp (fun q : Int32 × Int32 × St => f_X7_read_L78 (nI k) (nI L) f (nI m) w (nI j) q.1 q.2.1 q.2.2) Fu (nI 0, nI 0, s) = f_X7_read_J165 (nI k) (nI L) f (nI m) (ft f z j) w (nI j) s := by
  obtain ⟨m1, m2, m3, m4, m5⟩ := sh_a k hk
  have go : ∀ c, c < 2 → f_X7_read_L78 (nI k) (nI L) f (nI m) w (nI j) (nI 0) (nI c) s = some (Sum.inl (if 0 ≤ f.toInt + 2 * (j : Int) + c ∧ f.toInt + 2 * (j : Int) + c < z then nI 0 else nI 2, nI (c + 1), s)) := by
    intro c hc
    unfold f_X7_read_L78 f_X7_read_J152
    rw [if_neg (nI_ge hc (by decide)), if0, bd_s, if_pos m4, nI_clamp (by omega), x1, if_pos (lane4 hL), if_pos rfl, if_pos m5, x2, nI_add]
    simp only [i64_lt0, i64_ltz hz, i64_add hj (show c ≤ 2 by omega)]
    by_cases h0 : f.toInt + 2 * (j : Int) + c < 0
    · rw [if_pos h0, if_neg (by omega)]
    · rw [if_neg h0]
      by_cases h1 : f.toInt + 2 * (j : Int) + c < z
      · rw [if_pos h1, if_pos (by omega)]
      · rw [if_neg h1, if_neg (by omega)]
  have out2 : ∀ x, f_X7_read_L78 (nI k) (nI L) f (nI m) w (nI j) x (nI 2) s = ox (f_X7_read_J165 (nI k) (nI L) f (nI m) x w (nI j) s) := by
    intro x
    unfold f_X7_read_L78
    rw [if_pos (by decide)]
  have out1 : f_X7_read_L78 (nI k) (nI L) f (nI m) w (nI j) (nI 2) (nI 1) s = ox (f_X7_read_J165 (nI k) (nI L) f (nI m) (nI 2) w (nI j) s) := by
    unfold f_X7_read_L78
    rw [if_neg (by decide), if_pos (by decide)]
  have oxl : ∀ {S T : Type} (o : Option T) (F : Nat) (body : S → Option (S ⊕ T)) (q : S), body q = ox o → lp body (F + 1) q = o := by
    intro S T o F body q h
    unfold lp
    rw [h]
    cases o with
    | none => rfl
    | some t => rfl
  have inl : ∀ {S T : Type} (F : Nat) (body : S → Option (S ⊕ T)) (q q2 : S), body q = some (Sum.inl q2) → lp body (F + 1) q = lp body F q2 := by
    intro S T F body q q2 h
    rw [lp, h]
  show lp _ (997 + 1 + 1 + 1) _ = _
  rw [inl _ _ _ _ (go 0 (by decide))]
  unfold ft
  by_cases h0 : 0 ≤ f.toInt + 2 * (j : Int) ∧ f.toInt + 2 * (j : Int) < z
  · rw [if_pos (show 0 ≤ f.toInt + 2 * (j : Int) + ((0 : Nat) : Int) ∧ f.toInt + 2 * (j : Int) + ((0 : Nat) : Int) < z by omega), inl _ _ _ _ (go 1 (by decide))]
    by_cases h1 : f.toInt + 2 * (j : Int) + 1 < z
    · rw [if_pos (show 0 ≤ f.toInt + 2 * (j : Int) + ((1 : Nat) : Int) ∧ f.toInt + 2 * (j : Int) + ((1 : Nat) : Int) < z by omega), if_pos (by omega)]
      exact oxl _ _ _ _ (out2 _)
    · rw [if_neg (show ¬ (0 ≤ f.toInt + 2 * (j : Int) + ((1 : Nat) : Int) ∧ f.toInt + 2 * (j : Int) + ((1 : Nat) : Int) < z) by omega), if_neg (by omega)]
      exact oxl _ _ _ _ (out2 _)
  · rw [if_neg (show ¬ (0 ≤ f.toInt + 2 * (j : Int) + ((0 : Nat) : Int) ∧ f.toInt + 2 * (j : Int) + ((0 : Nat) : Int) < z) by omega), if_neg (by omega)]
    exact oxl _ _ _ _ out1
/-- the reference's steps, one STEP -/
theorem r_steps1 {s : St} {nl ns T : Nat} {h : Nat → Nat} (h3 : s.1 189 3 = nI nl) (h4 : s.1 189 4 = nI ns) (hg : ∀ j, j < 131 → s.1 190 j = nI (h j)) (hW : WF nl ns T h) (h42 : h 42 < 999) : ∃ x s2, x < 2 ^ 31 ∧ f_X7_steps (nI 1) s = some (nI x, s2) ∧ (∀ j, j < 131 → s2.1 190 j = nI (stn nl ns h 1 j)) ∧ (∀ j, 131 ≤ j → s2.1 190 j = s.1 190 j) ∧ ∀ k, k ≠ 190 → k ≠ 191 → k ≠ 195 → s2.1 k = s.1 k := by
  obtain ⟨s2, b1, b2, b3⟩ := b7_starts h3 h4 hg
  obtain ⟨s3, c1, c2, c3⟩ := b7_stepsGo (n := 1) b2 hW (by omega) (by omega)
  obtain ⟨s4, d1, d2, d3, d4, d5⟩ := b7_settles c2
  have hn4 : NR s4 nl ns (stn nl ns h 1) := ⟨by rw [d4 189 (by decide)]; exact c2.1, by rw [d4 189 (by decide)]; exact c2.2.1, by rw [d4 191 (by decide)]; exact c2.2.2⟩
  have hh := stn_hd hW (k := 1) (by omega)
  have hb := tks_le hW (k := 1) (by omega)
  refine ⟨tks nl ns h 1, s4, by omega, ?_, d2, fun j hj => by rw [d3 j hj, c3.1 190 (by decide) (by decide), b3.1 190 (by decide) (by decide)], fun k h1 h2 h3 => by rw [d4 k h1, c3.1 k h2 h3, b3.1 k h2 h3]⟩
  unfold f_X7_steps
  rw [g7_win (by omega) (by decide), cl_s, if1, if_pos (ib190 (by decide)), nI_clamp (by decide), hg 42 (by decide), nI_add, if_pos (nI_le (by omega) (by decide)), b1, cl_s, b7_allHad b2, cl_s, c1, cl_s, d1, cl_s, b7_allHad hn4, cl_s, pk_sub (by omega), hh, Nat.add_sub_cancel_left]
theorem r_steps1_n {s : St} {h : Nat → Nat} (hg : ∀ j, j < 131 → s.1 190 j = nI (h j)) (h42 : h 42 = 999) : f_X7_steps (nI 1) s = some (-3, s) := by
  unfold f_X7_steps
  rw [g7_win (by omega) (by decide), cl_s, if1, if_pos (ib190 (by decide)), nI_clamp (by decide), hg 42 (by decide), nI_add, if_neg (nI_ge (by omega) (by omega))]
/-- the states that the pairs lead to -/
def rdg (nl ns : Nat) (wh ce : Nat → Nat) (g : Nat → Nat) : Nat → Nat → Nat
  | 0 => g
  | j + 1 => stn nl ns (up (rdg nl ns wh ce g j) (12 + 2 * wh j) (ce j)) 1
theorem rdg_WF {nl ns T J : Nat} {wh ce : Nat → Nat} {g : Nat → Nat} (h : WF nl ns T g) (hJ : ∀ j, j < J → wh j < ns ∧ ce j < 20 ∧ g 42 + j < 999) : ∀ {j : Nat}, j ≤ J → WF nl ns T (rdg nl ns wh ce g j) ∧ rdg nl ns wh ce g j 42 = g 42 + j ∧ ∀ k, 106 ≤ k → k < 131 → rdg nl ns wh ce g j k = g k
  | 0, _ => ⟨h, rfl, fun _ _ _ => rfl⟩
  | j + 1, hj => by
    obtain ⟨w1, w2, w3⟩ := rdg_WF h hJ (j := j) (by omega)
    obtain ⟨k1, k2, k3⟩ := hJ j (by omega)
    have hm := h.2.1
    have w4 := wf_place w1 k1 k2
    have e42 : up (rdg nl ns wh ce g j) (12 + 2 * wh j) (ce j) 42 = g 42 + j := by rw [up_o (by omega)]; exact w2
    obtain ⟨v1, v2⟩ := stn_WF w4 (k := 1) (by omega)
    refine ⟨v1, ?_, fun k q1 q2 => ?_⟩
    · show stn nl ns _ 1 42 = _
      rw [v2, e42]; omega
    · show stn nl ns _ 1 k = _
      rw [stn_kp w4 (by omega) (by omega), up_o (by omega)]
      exact w3 k q1 q2
theorem upgT {n nl ns : Nat} {s s1 s2 : St} {g g2 : Nat → Nat} (hn : n < 64) (hG : Gd n s nl ns g) (hR : RR s1 1 nl ns g2) (hS : SR s1 27 g2) (hF : ∀ k, k ≠ 0 → ¬ (1 ≤ k ∧ k ≤ 31) → ¬ (35 ≤ k ∧ k ≤ 142) → s1.1 k = s.1 k) (hF2 : ∀ k, k ≠ 189 → k ≠ 190 → k ≠ 191 → k ≠ 195 → k ≠ 200 → s2.1 k = s1.1 k) (h189 : ∀ j, j ≠ 26 → s2.1 189 j = s1.1 189 j) (ht : s2.1 0 8 = s2.1 189 26) (h190 : ∀ j, j < 131 → s2.1 190 j = nI (g2 j)) (h190b : ∀ j, 131 ≤ j → s2.1 190 j = s1.1 190 j) (hW : WF nl ns (99 * (n + 2)) g2) (h42 : g2 42 ≤ 999) (hWS : WS nl ns g2) : Good (n + 1) s2 := by
  refine ⟨by omega, nl, ns, g2, ?_⟩
  obtain ⟨h1, h2, h3, h4, h5, h6, h7, h8, h9, h10, h11, h12⟩ := hG
  have q : ∀ k, k = 33 ∨ k = 34 ∨ (143 ≤ k ∧ k ≤ 188) ∨ k = 192 ∨ k = 194 ∨ (197 ≤ k ∧ k ≤ 199) → s2.1 k = s.1 k := fun k hk => (hF2 k (by omega) (by omega) (by omega) (by omega) (by omega)).trans (hF k (by omega) (by omega) (by omega))
  have q9 : ∀ j, j ≠ 26 → s2.1 189 j = s.1 189 j := fun j hj => by rw [h189 j hj, hF 189 (by omega) (by omega) (by omega)]
  have p : ∀ k, k < 189 → s2.1 k = s1.1 k := fun k hk => hF2 k (by omega) (by omega) (by omega) (by omega) (by omega)
  refine ⟨?_, hW, h42, ?_, hWS, by rw [q9 3 (by omega)]; exact h6, by rw [q9 4 (by omega)]; exact h7, h190, fun k hk => ?_, ?_, fun k hk => ?_, ht⟩
  · unfold RR at hR ⊢
    simp (disch := omega) only [p]
    exact hR
  · unfold SR at hS ⊢
    simp (disch := omega) only [p]
    exact hS
  · exact ((h9 k hk).mono (by omega)).cong hk (fun j a b => q j (by omega)) (q 192 (by omega)) (fun j hj => by rw [h190b j hj, hF 190 (by omega) (by omega) (by omega)])
  · exact h10.cong (q 33 (by omega)) (q 34 (by omega)) (q 194 (by omega)) (q9 11 (by omega)) (q9 16 (by omega))
  · exact (h11 k hk).cong hk (fun j a b => q j (by omega)) (q 197 (by omega)) (q 198 (by omega)) (q 199 (by omega))
/-- nobody is refused at pair j -/
def okp (ns t j : Nat) (a b : Int32) : Prop := (∃ w, w < ns ∧ a = nI w) ∧ isC b ∧ t + j < 999
theorem c_refused {n nl ns : Nat} {s : St} {g : Nat → Nat} (hG : Gd n s nl ns g) {k p j : Nat} (hk : k < 4) (hp : p + 1 < 40) (hj : j ≤ 20) : ∃ v, f_X6_isRefused (181 + 2 * k) (nI p) (nI (g 42 + j)) s = some (v, s) ∧ ((v = nI 0 ∧ okp ns (g 42) j (s.1 (182 + 2 * k) p) (s.1 (182 + 2 * k) (p + 1))) ∨ (v = nI 1 ∧ ¬ okp ns (g 42) j (s.1 (182 + 2 * k) p) (s.1 (182 + 2 * k) (p + 1)))) := by
  obtain ⟨m1, m2, m3, m4, m5⟩ := sh_a k hk
  have hns := hG.2.1.2.1
  have h42 := hG.2.2.1
  unfold f_X6_isRefused
  rw [if_pos m2, show 181 + 2 * k + 1 = 182 + 2 * k by omega, m3, if_pos (inb_t (by omega) (by decide)), nI_add, nI_clamp (by omega), nI_clamp (by omega)]
  rcases rng (s.1 (182 + 2 * k) p) ns with ⟨w, hw, hw2, e⟩ | ha
  · rw [e, g_sit isR1 hG.1 hns hw, cl_s, if1', if_pos (inb_t (by omega) (by decide))]
    rcases cellC (s.1 (182 + 2 * k) (p + 1)) with ⟨c, hc, hc2, e2⟩ | hc
    · rw [e2, b_isCell hc hc2, cl_s, if1']
      by_cases h9 : g 42 + j < 999
      · rw [if_pos (nI_lt h9 (by decide))]
        exact ⟨_, rfl, Or.inl ⟨rfl, ⟨w, hw, rfl⟩, ⟨c, rfl, hc, hc2⟩, h9⟩⟩
      · rw [if_neg (nI_nlt (by omega) (by omega))]
        exact ⟨_, rfl, Or.inr ⟨rfl, fun q => h9 q.2.2⟩⟩
    · rw [b_isCell_n hc, cl_s, if0']
      exact ⟨_, rfl, Or.inr ⟨rfl, fun q => hc q.2.1⟩⟩
  · rw [g_sit_n isR1 hG.1 hns ha, cl_s, if0']
    refine ⟨_, rfl, Or.inr ⟨rfl, fun q => ?_⟩⟩
    obtain ⟨⟨w, hw, e⟩, -⟩ := q
    rw [e, nI_toInt (by omega)] at ha
    omega
theorem l200 : lnI 200 = 131 := by decide
theorem ib200 {e : Nat} (h : e < 131) : inb (nI e) (lnI 200) = true := by rw [l200]; exact inb_t h (by decide)
/-- what was before comes back -/
theorem r_restore {s : St} {g : Nat → Nat} {j : Nat} (hb : ∀ i, i < 131 → s.1 200 i = nI (g i)) : ∃ s2, lp (fun q : Int32 × St => f_X7_read_L218 (nI j) q.1 q.2) Fu (nI 0, s) = some (-20 - nI j, s2) ∧ (∀ i, i < 131 → s2.1 190 i = nI (g i)) ∧ (∀ i, 131 ≤ i → s2.1 190 i = s.1 190 i) ∧ ∀ k, k ≠ 190 → s2.1 k = s.1 k := by
  obtain ⟨t, h1, h2⟩ := lp_inv (body := fun q : Int32 × St => f_X7_read_L218 (nI j) q.1 q.2) (fun k q => q.1 = nI k ∧ (∀ i, i < k → q.2.1 190 i = nI (g i)) ∧ (∀ i, 131 ≤ i → q.2.1 190 i = s.1 190 i) ∧ ∀ k, k ≠ 190 → q.2.1 k = s.1 k) (fun t => t.1 = -20 - nI j ∧ (∀ i, i < 131 → t.2.1 190 i = nI (g i)) ∧ (∀ i, 131 ≤ i → t.2.1 190 i = s.1 190 i) ∧ ∀ k, k ≠ 190 → t.2.1 k = s.1 k) 131 (fun k q hk hq => by
    obtain ⟨x, s3⟩ := q
    obtain ⟨q1, q2, q3, q4⟩ := hq
    dsimp only at q1 q2 q3 q4 ⊢
    subst q1
    unfold f_X7_read_L218
    rw [if_neg (nI_ge hk (by decide)), if_pos (ib200 (by omega)), if_pos (ib190 (by omega)), bd_s, nI_add, nI_clamp (by omega), q4 200 (by decide), hb k hk]
    refine ⟨_, rfl, rfl, fun i hi => ?_, fun i hi => ?_, fun i hi => ?_⟩
    · dsimp only
      by_cases e : i = k
      · subst e; rw [wI_at]
      · rw [wI_ne e]; exact q2 i (by omega)
    · dsimp only
      rw [wI_ne (by omega)]; exact q3 i hi
    · dsimp only
      rw [wI_1o hi]; exact q4 i hi) (fun q hq => by
    obtain ⟨x, s3⟩ := q
    obtain ⟨q1, q2⟩ := hq
    dsimp only at q1 q2 ⊢
    subst q1
    unfold f_X7_read_L218
    rw [if_pos (by decide)]
    exact ⟨_, rfl, rfl, q2⟩) (q := (nI 0, s)) ⟨rfl, fun i hi => absurd hi (by omega), fun _ _ => rfl, fun _ _ => rfl⟩ (Fu_lt (by omega))
  obtain ⟨x, s2⟩ := t
  obtain ⟨h3a, h3⟩ := h2
  dsimp only at h3a
  exact ⟨s2, by rw [h1, h3a], h3⟩
theorem r_before {s : St} {nl ns : Nat} {g : Nat → Nat} {a b c d : Int32} {v : Int32} {Q : St → Prop} (hg : ∀ j, j < 131 → s.1 190 j = nI (g j)) (hl : ∀ s2 : St, (∀ i, i < 131 → s2.1 200 i = nI (g i)) → (∀ k, k ≠ 200 → s2.1 k = s.1 k) → ∃ s3, lp (fun q : Int32 × Int32 × Int32 × St => f_X7_read_L63 a b c d q.1 q.2.1 q.2.2.1 q.2.2.2) Fu (nI 0, nI 0, nI 0, s2) = some (v, s3) ∧ Q s3) : ∃ s3, lp (fun q : Int32 × St => f_X7_read_L26 a b c d q.1 q.2) Fu (nI 0, s) = some (v, s3) ∧ Q s3 := by
  obtain ⟨t, h1, h2⟩ := lp_inv (body := fun q : Int32 × St => f_X7_read_L26 a b c d q.1 q.2) (fun k q => q.1 = nI k ∧ (∀ i, i < k → q.2.1 200 i = nI (g i)) ∧ ∀ k, k ≠ 200 → q.2.1 k = s.1 k) (fun t => t.1 = v ∧ Q t.2) 131 (fun k q hk hq => by
    obtain ⟨x, s3⟩ := q
    obtain ⟨q1, q2, q3⟩ := hq
    dsimp only at q1 q2 q3 ⊢
    subst q1
    unfold f_X7_read_L26
    rw [if_neg (nI_ge hk (by decide)), if_pos (ib190 (by omega)), if_pos (ib200 (by omega)), bd_s, nI_add, nI_clamp (by omega), q3 190 (by decide), hg k hk]
    refine ⟨_, rfl, rfl, fun i hi => ?_, fun i hi => ?_⟩
    · dsimp only
      by_cases e : i = k
      · subst e; rw [wI_at]
      · rw [wI_ne e]; exact q2 i (by omega)
    · dsimp only
      rw [wI_1o hi]; exact q3 i hi) (fun q hq => by
    obtain ⟨x, s3⟩ := q
    obtain ⟨q1, q2, q3⟩ := hq
    dsimp only at q1 q2 q3 ⊢
    subst q1
    obtain ⟨s4, k1, k2⟩ := hl s3 q2 q3
    unfold f_X7_read_L26
    rw [if_pos (by decide), k1, ox_s]
    exact ⟨_, rfl, rfl, k2⟩) (q := (nI 0, s)) ⟨rfl, fun i hi => absurd hi (by omega), fun _ _ => rfl⟩ (Fu_lt (by omega))
  obtain ⟨x, s2⟩ := t
  obtain ⟨h3a, h3⟩ := h2
  dsimp only at h3a
  exact ⟨s2, by rw [h1, h3a], h3⟩
/-- all pairs below J move their SITTERS, on the class's side -/
theorem c_moves {n nl ns : Nat} {s : St} {g : Nat → Nat} (hG : Gd n s nl ns g) {k J : Nat} {f fo : Int32} {wh ce : Nat → Nat} (hk : k < 4) (hJ : J ≤ 20) (hw : ∀ j, j < J → wh j < ns ∧ ce j < 20 ∧ g 42 + j < 999) (hx : ∀ j, j < J → ∃ p m, p + 1 < 40 ∧ f + nI 2 * nI j = nI p ∧ s.1 (182 + 2 * k) p = nI (wh j) ∧ s.1 (182 + 2 * k) (p + 1) = nI m ∧ m < 50 ∧ m % 10 < 4 ∧ ce j = 4 * (m / 10) + m % 10) : ∃ s2, lp (fun q : Int32 × St => f_X6_read_L118 f (181 + 2 * k) (nI J) fo q.1 q.2) Fu (nI 0, s) = some (nI J, wI s2 0 8 fo) ∧ RR s2 1 nl ns (rdg nl ns wh ce g J) ∧ Sm s s2 1 13 := by
  obtain ⟨m1, m2, m3, m4, m5⟩ := sh_a k hk
  have hns := hG.2.1.2.1
  have hnl := hG.2.1.1
  obtain ⟨t, h1, h2⟩ := lp_inv (body := fun q : Int32 × St => f_X6_read_L118 f (181 + 2 * k) (nI J) fo q.1 q.2) (fun j q => q.1 = nI j ∧ RR q.2 1 nl ns (rdg nl ns wh ce g j) ∧ Sm s q.2 1 13) (fun t => ∃ s2, t = (nI J, wI s2 0 8 fo) ∧ RR s2 1 nl ns (rdg nl ns wh ce g J) ∧ Sm s s2 1 13) J (fun j q hj hq => by
    obtain ⟨x, s3⟩ := q
    obtain ⟨q1, q2, q3⟩ := hq
    dsimp only at q1 q2 q3 ⊢
    subst q1
    obtain ⟨p, m, p1, p2, p3, p4, p5, p6, p7⟩ := hx j hj
    obtain ⟨k1, k2, k3⟩ := hw j hj
    obtain ⟨w1, w2, w3⟩ := rdg_WF hG.2.1 hw (j := j) (by omega)
    have hR : RR (wI s3 9 (wh j) (nI (ce j))) 1 nl ns (up (rdg nl ns wh ce g j) (12 + 2 * wh j) (ce j)) := rr_place q2 hnl hns k1
    obtain ⟨s4, c1, c2, c3⟩ := b_goOn (n := 1) isR1 hR (wf_place w1 k1 k2) (by rw [up_o (by omega)]; omega) (by omega)
    unfold f_X6_read_L118
    rw [if_neg (nI_ge hj (by omega)), if_pos m2, p2, show 181 + 2 * k + 1 = 182 + 2 * k by omega, m3, if_pos (inb_t (by omega) (by decide)), nI_add p 1, if_pos (inb_t (by omega) (by decide)), nI_clamp (by omega), nI_clamp (by omega), q3.1 (182 + 2 * k) (by omega), p3, p4, b_cellOf p5 p6, cl_s, if_pos (ib4 (by decide) (by omega)), bd_s, nI_clamp (by omega), ← p7, c1, cl_s, nI_add]
    exact ⟨_, rfl, rfl, c2, (q3.tr (Sm.wi (by omega) (by omega))).tr c3⟩) (fun q hq => by
    obtain ⟨x, s3⟩ := q
    obtain ⟨q1, q2, q3⟩ := hq
    dsimp only at q1 q2 q3 ⊢
    subst q1
    unfold f_X6_read_L118
    rw [if_pos (nI_le (Nat.le_refl _) (by omega)), bd_s]
    exact ⟨_, rfl, s3, rfl, q2, q3⟩) (q := (nI 0, s)) ⟨rfl, hG.1, Sm.rf⟩ (Fu_lt (by omega))
  obtain ⟨s2, rfl, h3, h4⟩ := h2
  exact ⟨s2, h1, h3, h4⟩
/-- the reference's side of one pair that is not refused -/
theorem r_move {s : St} {nl ns T k j p m v : Nat} {h : Nat → Nat} {f w b d : Int32} (hk : k < 4) (hj : j ≤ 20) (h3 : s.1 189 3 = nI nl) (h4 : s.1 189 4 = nI ns) (hg : ∀ j, j < 131 → s.1 190 j = nI (h j)) (hW : WF nl ns T h) (h42 : h 42 < 999) (hp : p + 1 < 40) (p2 : nI 40 * nI k + f + nI 2 * nI j = nI (40 * k + p)) (hv : v < ns) (p3 : s.1 199 (40 * k + p) = nI v) (p4 : s.1 199 (40 * k + (p + 1)) = nI m) (p5 : m < 50) (p6 : m % 10 < 4) : ∃ s2, f_X7_read_J165 (nI k) b f d (nI 0) w (nI j) s = some (Sum.inl (nI 0, w + nI 1, nI (j + 1), s2)) ∧ (∀ i, i < 131 → s2.1 190 i = nI (stn nl ns (up h (12 + 2 * v) (4 * (m / 10) + m % 10)) 1 i)) ∧ (∀ i, 131 ≤ i → s2.1 190 i = s.1 190 i) ∧ ∀ k, k ≠ 190 → k ≠ 191 → k ≠ 195 → s2.1 k = s.1 k := by
  have hns := hW.2.1
  have w1 := wf_place hW hv (show 4 * (m / 10) + m % 10 < 20 by omega)
  have hpl := (hW.2.2.2.2.1 v hv).1
  obtain ⟨x, s2, x1, x2, x3, x4, x5⟩ := r_steps1 (s := wI s 190 (12 + 2 * v) (nI (4 * (m / 10) + m % 10))) (nl := nl) (ns := ns) (h := up h (12 + 2 * v) (4 * (m / 10) + m % 10)) (by rw [wI_1o (by decide)]; exact h3) (by rw [wI_1o (by decide)]; exact h4) (fun i hi => by
    by_cases e : i = 12 + 2 * v
    · rw [e, wI_at, up_k]
    · rw [wI_ne e, up_o e]; exact hg i hi) w1 (by rw [up_o (by omega)]; exact h42)
  refine ⟨s2, ?_, x3, fun i hi => by rw [x4 i hi, wI_ne (by omega)], fun k q1 q2 q3 => by rw [x5 k q1 q2 q3, wI_1o q1]⟩
  unfold f_X7_read_J165
  rw [if0, bd_s, p2, if_pos (ib199 (by omega)), nI_add (40 * k + p) 1, if_pos (ib199 (by omega)), nI_clamp (by omega), nI_clamp (by omega), p3, show 40 * k + p + 1 = 40 * k + (p + 1) by omega, p4, b7_seat0 h4 hns hg hv p5 p6 hpl, cl_s, if_neg (nI_pos (by unfold nm; omega)), x2, cl_s, if_pos (nI_pos' x1), nI_add j 1]
/-- and of one that is refused -/
theorem r_refuse {s : St} {nl ns T k j p : Nat} {g h : Nat → Nat} {f w b d : Int32} (hk : k < 4) (hj : j ≤ 20) (h3 : s.1 189 3 = nI nl) (h4 : s.1 189 4 = nI ns) (hg : ∀ j, j < 131 → s.1 190 j = nI (h j)) (hW : WF nl ns T h) (h42 : h 42 ≤ 999) (hp : p + 1 < 40) (p2 : nI 40 * nI k + f + nI 2 * nI j = nI (40 * k + p)) (hb : ∀ i, i < 131 → s.1 200 i = nI (g i)) (hno : ¬ ((∃ v, v < ns ∧ s.1 199 (40 * k + p) = nI v) ∧ isC (s.1 199 (40 * k + (p + 1))) ∧ h 42 < 999)) : ∃ s2, f_X7_read_J165 (nI k) b f d (nI 0) w (nI j) s = some (Sum.inr (-20 - nI j, s2)) ∧ (∀ i, i < 131 → s2.1 190 i = nI (g i)) ∧ (∀ i, 131 ≤ i → s2.1 190 i = s.1 190 i) ∧ ∀ k, k ≠ 190 → k ≠ 191 → k ≠ 195 → s2.1 k = s.1 k := by
  have hns := hW.2.1
  unfold f_X7_read_J165
  rw [if0, bd_s, p2, if_pos (ib199 (by omega)), nI_add (40 * k + p) 1, if_pos (ib199 (by omega)), nI_clamp (by omega), nI_clamp (by omega), show 40 * k + p + 1 = 40 * k + (p + 1) by omega]
  rcases rng (s.1 199 (40 * k + p)) ns with ⟨v, hv, hv2, e⟩ | ha
  · rcases cellC (s.1 199 (40 * k + (p + 1))) with ⟨c, hc, hc2, e2⟩ | hc
    · have hpl := (hW.2.2.2.2.1 v hv).1
      have h9 : h 42 = 999 := by
        by_cases q : h 42 < 999
        · exact absurd ⟨⟨v, hv, e⟩, ⟨c, e2, hc, hc2⟩, q⟩ hno
        · omega
      obtain ⟨s2, a1, a2, a3, a4⟩ := r_restore (s := wI s 190 (12 + 2 * v) (nI (4 * (c / 10) + c % 10))) (g := g) (j := j) (by rw [wI_1o (by decide)]; exact hb)
      rw [e, e2, b7_seat0 h4 hns hg hv hc hc2 hpl, cl_s, if_neg (nI_pos (by unfold nm; omega)), r_steps1_n (h := up h (12 + 2 * v) (4 * (c / 10) + c % 10)) (fun i hi => by
        by_cases q : i = 12 + 2 * v
        · rw [q, wI_at, up_k]
        · rw [wI_ne q, up_o q]; exact hg i hi) (by rw [up_o (by omega)]; exact h9), cl_s, if_neg (by decide), a1, ox_s]
      exact ⟨s2, rfl, a2, fun i hi => by rw [a3 i hi, wI_ne (by omega)], fun k q1 q2 q3 => by rw [a4 k q1, wI_1o q1]⟩
    · obtain ⟨s2, a1, a2, a3, a4⟩ := r_restore (s := s) (g := g) (j := j) hb
      have es : f_X7_seat (nI v) (nI 0) (s.1 199 (40 * k + (p + 1))) s = some (-1, s) := by
        unfold f_X7_seat
        rw [g7_sit h4 hns hv, cl_s, if1', if0, b7_isCell_n hc, cl_s, if0']
      rw [e, es, cl_s, if_pos (by decide), a1, ox_s]
      exact ⟨s2, rfl, a2, a3, fun k q1 q2 q3 => a4 k q1⟩
  · obtain ⟨s2, a1, a2, a3, a4⟩ := r_restore (s := s) (g := g) (j := j) hb
    have es : f_X7_seat (s.1 199 (40 * k + p)) (nI 0) (s.1 199 (40 * k + (p + 1))) s = some (-1, s) := by
      unfold f_X7_seat
      rw [g7_sit_n h4 hns ha, cl_s, if0']
    rw [es, cl_s, if_pos (by decide), a1, ox_s]
    exact ⟨s2, rfl, a2, a3, fun k q1 q2 q3 => a4 k q1⟩

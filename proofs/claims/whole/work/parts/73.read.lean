theorem lp_pre {S T : Type} {body : S → Option (S ⊕ T)} (st : Nat → S) : ∀ (J : Nat), (∀ i, i < J → body (st i) = some (Sum.inl (st (i + 1)))) → ∀ F, lp body (J + F) (st 0) = lp body F (st J)
  | 0, _, F => by rw [Nat.zero_add]
  | J + 1, h, F => by
    rw [show J + 1 + F = J + (F + 1) by omega, lp_pre st J (fun i hi => h i (by omega)) (F + 1), lp, h J (by omega)]
theorem lp_one {S T : Type} {body : S → Option (S ⊕ T)} {F : Nat} {q q2 : S} (h : body q = some (Sum.inl q2)) : lp body (F + 1) q = lp body F q2 := by rw [lp, h]
theorem lp_out {S T : Type} {body : S → Option (S ⊕ T)} {F : Nat} {q : S} {t : T} (h : body q = some (Sum.inr t)) : lp body (F + 1) q = some t := by rw [lp, h]
/-- read, whatever the sheet's fault is -/
theorem rd_main {n nl ns : Nat} {s : St} {g : Nat → Nat} (hn : n < 64) (hG : Gd n s nl ns g) {k A N : Nat} {f : Int32} (hk : k < 4) (hA : A < 3) (hN : N ≤ 20) (FT : Nat → Int32)
    (hC : ∀ j, j ≤ 20 → f_X4_faultOfPair (181 + 2 * k) (nI A) (f + nI 2 * nI j) s = some (FT j, s))
    (hRf : ∀ (s' : St) (m : Nat) (w : Int32) (j : Nat), j ≤ 20 → s'.1 197 = s.1 197 → s'.1 198 = s.1 198 → lp (fun q : Int32 × Int32 × St => f_X7_read_L78 (nI k) (nI A) f (nI m) w (nI j) q.1 q.2.1 q.2.2) Fu (nI 0, nI 0, s') = f_X7_read_J165 (nI k) (nI A) f (nI m) (FT j) w (nI j) s')
    (hp : ∀ j, j ≤ 20 → FT j = 0 → ∃ p, p + 1 < 40 ∧ f + nI 2 * nI j = nI p ∧ nI 40 * nI k + f + nI 2 * nI j = nI (40 * k + p)) :
    ∃ v s1 s2, f_X6_read (nI k) (nI A) f (nI N) s = some (v, s1) ∧ f_X7_read (nI k) (nI A) f (nI N) s1 = some (v, s2) ∧ Good (n + 1) s2 := by
  obtain ⟨m1, m2, m3, m4, m5⟩ := sh_a k hk
  have hnl := hG.2.1.1
  have hns := hG.2.1.2.1
  have h42 := hG.2.2.1
  have hg := hG.2.2.2.2.2.2.2.1
  have hrow := (hG.2.2.2.2.2.2.2.2.2.2.1 k hk).2.2
  obtain ⟨pn, epn⟩ : ∃ pn : Nat → Nat, ∀ j, pn j = (f + nI 2 * nI j).toNatClampNeg := ⟨_, fun _ => rfl⟩
  have hpn : ∀ j, j ≤ 20 → FT j = 0 → pn j + 1 < 40 ∧ f + nI 2 * nI j = nI (pn j) ∧ nI 40 * nI k + f + nI 2 * nI j = nI (40 * k + pn j) := by
    intro j hj h0
    obtain ⟨p, a, b, c⟩ := hp j hj h0
    have e : pn j = p := by rw [epn, b, nI_clamp (by omega)]
    rw [e]
    exact ⟨a, b, c⟩
  obtain ⟨J, j1, j2, j3⟩ := fst_stop (fun j => ¬ FT j = 0 ∨ ¬ okp ns (g 42) j (s.1 (182 + 2 * k) (pn j)) (s.1 (182 + 2 * k) (pn j + 1))) N
  have hgood : ∀ j, j < J → FT j = 0 ∧ okp ns (g 42) j (s.1 (182 + 2 * k) (pn j)) (s.1 (182 + 2 * k) (pn j + 1)) := by
    intro j hj
    have := j2 j hj
    constructor
    · by_cases q : FT j = 0
      · exact q
      · exact absurd (Or.inl q) this
    · by_cases q : okp ns (g 42) j (s.1 (182 + 2 * k) (pn j)) (s.1 (182 + 2 * k) (pn j + 1))
      · exact q
      · exact absurd (Or.inr q) this
  obtain ⟨wh, ewh⟩ : ∃ wh : Nat → Nat, ∀ j, wh j = (s.1 (182 + 2 * k) (pn j)).toNatClampNeg := ⟨_, fun _ => rfl⟩
  obtain ⟨mm, emm⟩ : ∃ mm : Nat → Nat, ∀ j, mm j = (s.1 (182 + 2 * k) (pn j + 1)).toNatClampNeg := ⟨_, fun _ => rfl⟩
  obtain ⟨ce, ece⟩ : ∃ ce : Nat → Nat, ∀ j, ce j = 4 * (mm j / 10) + mm j % 10 := ⟨_, fun _ => rfl⟩
  have hall : ∀ j, j < J → wh j < ns ∧ s.1 (182 + 2 * k) (pn j) = nI (wh j) ∧ s.1 (182 + 2 * k) (pn j + 1) = nI (mm j) ∧ mm j < 50 ∧ mm j % 10 < 4 ∧ ce j < 20 ∧ g 42 + j < 999 := by
    intro j hj
    obtain ⟨-, ⟨w, hw, e1⟩, ⟨m, e2, hm, hm2⟩, h9⟩ := hgood j hj
    have ew : wh j = w := by rw [ewh, e1, nI_clamp (by omega)]
    have em : mm j = m := by rw [emm, e2, nI_clamp (by omega)]
    rw [ece, ew, em]
    exact ⟨hw, e1, e2, hm, hm2, by omega, h9⟩
  have hw3 : ∀ j, j < J → wh j < ns ∧ ce j < 20 ∧ g 42 + j < 999 := fun j hj => by
    obtain ⟨a1, a2, a3, a4, a5, a6, a7⟩ := hall j hj
    exact ⟨a1, a6, a7⟩
  have cmv : ∀ fo : Int32, ∃ s2, lp (fun q : Int32 × St => f_X6_read_L118 f (181 + 2 * k) (nI J) fo q.1 q.2) Fu (nI 0, s) = some (nI J, wI s2 0 8 fo) ∧ RR s2 1 nl ns (rdg nl ns wh ce g J) ∧ Sm s s2 1 13 := fun fo => c_moves hG hk (by omega) hw3 (fun j hj => by
    obtain ⟨a1, a2, a3, a4, a5, a6, a7⟩ := hall j hj
    obtain ⟨b1, b2, b3⟩ := hpn j (by omega) (hgood j hj).1
    exact ⟨pn j, mm j, b1, b2, a2, a3, a4, a5, ece j⟩)
  have cstep : ∀ j, j ≤ N → j ≤ J → j < N → FT j = 0 → ∀ v, f_X6_isRefused (181 + 2 * k) (nI (pn j)) (nI (g 42 + j)) s = some (v, s) → f_X6_read_L44 (nI A) f (nI N) (181 + 2 * k) (nI j) (nI 0) (nI j) s = if v = 0 then some (Sum.inl (nI (j + 1), nI 0, nI (j + 1), s)) else some (Sum.inr (-20 - nI j, s)) := by
    intro j _ _ hjN h0 v hv
    obtain ⟨b1, b2, b3⟩ := hpn j (by omega) h0
    unfold f_X6_read_L44
    rw [if_neg (nI_ge hjN (by omega)), if0, if_pos m2, hC j (by omega), cl_s, h0, if_neg (fun q => q rfl), (R1 hG.1).2.2.1, nI_add, b2, hv, cl_s, nI_add]
    rfl
  have cpre : ∀ F, lp (fun q : Int32 × Int32 × Int32 × St => f_X6_read_L44 (nI A) f (nI N) (181 + 2 * k) q.1 q.2.1 q.2.2.1 q.2.2.2) (J + F) (nI 0, nI 0, nI 0, s) = lp (fun q : Int32 × Int32 × Int32 × St => f_X6_read_L44 (nI A) f (nI N) (181 + 2 * k) q.1 q.2.1 q.2.2.1 q.2.2.2) F (nI J, nI 0, nI J, s) := lp_pre (fun j => (nI j, nI 0, nI j, s)) J (fun j hj => by
    obtain ⟨h0, hok⟩ := hgood j hj
    obtain ⟨b1, b2, b3⟩ := hpn j (by omega) h0
    obtain ⟨v, k1, k2⟩ := c_refused hG hk b1 (show j ≤ 20 by omega)
    dsimp only
    rw [cstep j (by omega) (by omega) (by omega) h0 v k1]
    rcases k2 with ⟨rfl, -⟩ | ⟨-, k2⟩
    · rw [if_pos (by decide)]
    · exact absurd hok k2)
  have chead : ∀ v s1, lp (fun q : Int32 × Int32 × Int32 × St => f_X6_read_L44 (nI A) f (nI N) (181 + 2 * k) q.1 q.2.1 q.2.2.1 q.2.2.2) (1000 - J) (nI J, nI 0, nI J, s) = some (v, s1) → f_X6_read (nI k) (nI A) f (nI N) s = some (v, s1) := by
    intro v s1 h
    have := cpre (1000 - J)
    rw [show J + (1000 - J) = Fu by unfold Fu; omega] at this
    unfold f_X6_read
    rw [g_sheet hk, cl_s, if1', g_lane hA, cl_s, if1', g_win hN (by decide), cl_s, if1, if_pos m1, bd_s, nI_clamp (by omega), this, h]
  -- the reference, from any state that agrees with s where it counts
  have rrun : ∀ s0 : St, s0.1 189 3 = nI nl → s0.1 189 4 = nI ns → (∀ j, j < 131 → s0.1 190 j = nI (g j)) → s0.1 197 = s.1 197 → s0.1 198 = s.1 198 → s0.1 199 = s.1 199 → ∀ j, j ≤ J → ∃ s2, (∀ F, lp (fun q : Int32 × Int32 × Int32 × St => f_X7_read_L63 (nI k) (nI A) f (nI N) q.1 q.2.1 q.2.2.1 q.2.2.2) (j + F) (nI 0, nI 0, nI 0, s0) = lp (fun q : Int32 × Int32 × Int32 × St => f_X7_read_L63 (nI k) (nI A) f (nI N) q.1 q.2.1 q.2.2.1 q.2.2.2) F (nI 0, nI j, nI j, s2)) ∧ (∀ i, i < 131 → s2.1 190 i = nI (rdg nl ns wh ce g j i)) ∧ (∀ i, 131 ≤ i → s2.1 190 i = s0.1 190 i) ∧ ∀ k, k ≠ 190 → k ≠ 191 → k ≠ 195 → s2.1 k = s0.1 k := by
    intro s0 a3 a4 ag a7 a8 a9 j
    induction j with
    | zero => exact fun _ => ⟨s0, fun F => by rw [Nat.zero_add], ag, fun _ _ => rfl, fun _ _ _ _ => rfl⟩
    | succ j ih =>
      intro hj
      obtain ⟨s2, c1, c2, c3, c4⟩ := ih (by omega)
      obtain ⟨h0, -⟩ := hgood j (by omega)
      obtain ⟨b1, b2, b3⟩ := hpn j (by omega) h0
      obtain ⟨e1, e2, e3, e4, e5, e6, e7⟩ := hall j (by omega)
      obtain ⟨w1, w2, w3⟩ := rdg_WF hG.2.1 hw3 (j := j) (by omega)
      obtain ⟨s3, d1, d2, d3, d4⟩ := r_move (s := s2) (j := j) (w := nI j) (b := nI A) (d := nI N) hk (by omega) (by rw [c4 189 (by decide) (by decide) (by decide)]; exact a3) (by rw [c4 189 (by decide) (by decide) (by decide)]; exact a4) c2 w1 (by omega) b1 b3 e1 (by rw [c4 199 (by decide) (by decide) (by decide), a9, ← hrow _ (by omega)]; exact e2) (by rw [c4 199 (by decide) (by decide) (by decide), a9, ← hrow _ (by omega)]; exact e3) e4 e5
      refine ⟨s3, fun F => ?_, ?_, fun i hi => by rw [d3 i hi, c3 i hi], fun k q1 q2 q3 => by rw [d4 k q1 q2 q3, c4 k q1 q2 q3]⟩
      · rw [show j + 1 + F = j + (F + 1) by omega, c1 (F + 1)]
        refine lp_one ?_
        dsimp only
        unfold f_X7_read_L63
        rw [if_neg (nI_ge (by omega) (by omega)), if0, hRf s2 N (nI j) j (by omega) (by rw [c4 197 (by decide) (by decide) (by decide)]; exact a7) (by rw [c4 198 (by decide) (by decide) (by decide)]; exact a8), h0]
        change f_X7_read_J165 (nI k) (nI A) f (nI N) (nI 0) (nI j) (nI j) s2 = _
        rw [d1, nI_add]
      · rw [← ece j] at d2
        exact d2
  have rhead : ∀ (s1 : St) (v : Int32) (Q : St → Prop), s1.1 189 3 = nI nl → s1.1 189 4 = nI ns → (∀ j, j < 131 → s1.1 190 j = nI (g j)) → s1.1 197 = s.1 197 → s1.1 198 = s.1 198 → s1.1 199 = s.1 199 → (∀ s2 : St, (∀ i, i < 131 → s2.1 190 i = nI (rdg nl ns wh ce g J i)) → (∀ i, 131 ≤ i → s2.1 190 i = s1.1 190 i) → (∀ k, k ≠ 190 → k ≠ 191 → k ≠ 195 → k ≠ 200 → s2.1 k = s1.1 k) → (∀ i, i < 131 → s2.1 200 i = nI (g i)) → ∃ s3, lp (fun q : Int32 × Int32 × Int32 × St => f_X7_read_L63 (nI k) (nI A) f (nI N) q.1 q.2.1 q.2.2.1 q.2.2.2) (1000 - J) (nI 0, nI J, nI J, s2) = some (v, s3) ∧ Q s3) → ∃ s3, f_X7_read (nI k) (nI A) f (nI N) s1 = some (v, s3) ∧ Q s3 := by
    intro s1 v Q a3 a4 ag a7 a8 a9 hfin
    obtain ⟨s3, r1, r2⟩ := r_before (s := s1) (nl := nl) (ns := ns) (g := g) (a := nI k) (b := nI A) (c := f) (d := nI N) (v := v) (Q := Q) ag (fun s0 b1 b2 => by
      obtain ⟨s2, c1, c2, c3, c4⟩ := rrun s0 (by rw [b2 189 (by decide)]; exact a3) (by rw [b2 189 (by decide)]; exact a4) (by rw [b2 190 (by decide)]; exact ag) (by rw [b2 197 (by decide)]; exact a7) (by rw [b2 198 (by decide)]; exact a8) (by rw [b2 199 (by decide)]; exact a9) J (Nat.le_refl _)
      have e := c1 (1000 - J)
      rw [show J + (1000 - J) = Fu by unfold Fu; omega] at e
      rw [e]
      exact hfin s2 c2 (fun i hi => by rw [c3 i hi, b2 190 (by decide)]) (fun k q1 q2 q3 q4 => by rw [c4 k q1 q2 q3, b2 k q4]) (by rw [c4 200 (by decide) (by decide) (by decide)]; exact b1))
    refine ⟨s3, ?_, r2⟩
    unfold f_X7_read
    rw [g7_sheet hk hA, cl_s, if1', g7_win hN (by decide), cl_s, if1, r1]
  obtain ⟨w1, w2, w3⟩ := rdg_WF hG.2.1 hw3 (j := J) (Nat.le_refl _)
  have h42J : rdg nl ns wh ce g J 42 ≤ 999 := by
    rw [w2]
    by_cases e : J = 0
    · omega
    · have := (hw3 (J - 1) (by omega)).2.2
      omega
  -- a good end with found = fo
  have good : ∀ fo : Int32, (∀ s1, lp (fun q : Int32 × St => f_X6_read_L118 f (181 + 2 * k) (nI J) fo q.1 q.2) Fu (nI 0, s) = some (nI J, s1) → lp (fun q : Int32 × Int32 × Int32 × St => f_X6_read_L44 (nI A) f (nI N) (181 + 2 * k) q.1 q.2.1 q.2.2.1 q.2.2.2) (1000 - J) (nI J, nI 0, nI J, s) = some (nI J, s1)) → (∀ s2 : St, s2.1 197 = s.1 197 → s2.1 198 = s.1 198 → lp (fun q : Int32 × Int32 × Int32 × St => f_X7_read_L63 (nI k) (nI A) f (nI N) q.1 q.2.1 q.2.2.1 q.2.2.2) (1000 - J) (nI 0, nI J, nI J, s2) = some (nI J, wI s2 189 26 fo)) → ∃ v s1 s2, f_X6_read (nI k) (nI A) f (nI N) s = some (v, s1) ∧ f_X7_read (nI k) (nI A) f (nI N) s1 = some (v, s2) ∧ Good (n + 1) s2 := by
    intro fo hc hr
    obtain ⟨sc, c1, c2, c3⟩ := cmv fo
    have fr : ∀ j, ¬ (0 ≤ j ∧ j ≤ 13) → (wI sc 0 8 fo).1 j = s.1 j := fun j hj => by rw [wI_1o (by omega), c3.1 j (by omega)]
    obtain ⟨s3, r1, s2, e1, e2, e3, e4⟩ := rhead (wI sc 0 8 fo) (nI J) (fun s3 => ∃ s2, s3 = wI s2 189 26 fo ∧ (∀ i, i < 131 → s2.1 190 i = nI (rdg nl ns wh ce g J i)) ∧ (∀ i, 131 ≤ i → s2.1 190 i = (wI sc 0 8 fo).1 190 i) ∧ ∀ k, k ≠ 190 → k ≠ 191 → k ≠ 195 → k ≠ 200 → s2.1 k = (wI sc 0 8 fo).1 k) (by rw [fr 189 (by omega)]; exact hG.2.2.2.2.2.1) (by rw [fr 189 (by omega)]; exact hG.2.2.2.2.2.2.1) (by rw [fr 190 (by omega)]; exact hg) (fr 197 (by omega)) (fr 198 (by omega)) (fr 199 (by omega)) (fun s2 a1 a2 a3 a4 => ⟨wI s2 189 26 fo, hr s2 (by rw [a3 197 (by decide) (by decide) (by decide) (by decide)]; exact fr 197 (by omega)) (by rw [a3 198 (by decide) (by decide) (by decide) (by decide)]; exact fr 198 (by omega)), s2, rfl, a1, a2, a3⟩)
    subst e1
    refine ⟨nI J, wI sc 0 8 fo, wI s2 189 26 fo, chead _ _ (hc _ c1), r1, upgT (g2 := rdg nl ns wh ce g J) hn hG (RR.sm c2 (b := 0) (m := 1) (Sm.wi (by omega) (by omega)) (by omega)) ?_ (fun j q1 q2 q3 => fr j (by omega)) (fun j q1 q2 q3 q4 q5 => by rw [wI_1o q1]; exact e4 j q2 q3 q4 q5) (fun j hj => by rw [wI_ne hj, e4 189 (by decide) (by decide) (by decide) (by decide)]) ?_ (by rw [wI_1o (by decide)]; exact e2) (by rw [wI_1o (by decide)]; exact e3) (wf_T w1 (by omega) (by omega)) h42J (hG.2.2.2.2.1.cong w3)⟩
    · refine SR.cong (g := g) ?_ hG.2.2.2.2.1.1 w3
      have h4 := hG.2.2.2.1
      unfold SR at h4 ⊢
      simp (disch := omega) only [fr]
      exact h4
    · rw [wI_at, wI_1o (by decide), e4 0 (by decide) (by decide) (by decide) (by decide), wI_at]
  rcases j3 with j3 | j3
  · -- all pairs are whole
    refine good (nI 0) (fun s1 h => ?_) (fun s2 _ _ => ?_)
    · rw [show 1000 - J = (999 - J) + 1 by omega]
      refine lp_out ?_
      dsimp only
      unfold f_X6_read_L44
      rw [if_pos (nI_le (by omega) (by omega)), h, ox_s]
    · rw [show 1000 - J = (999 - J) + 1 by omega]
      refine lp_out ?_
      dsimp only
      unfold f_X7_read_L63 f_X7_read_J261
      rw [if_pos (nI_le (by omega) (by omega)), bd_s, ox_s]
  · by_cases hJN : J = N
    · refine good (nI 0) (fun s1 h => ?_) (fun s2 _ _ => ?_)
      · rw [show 1000 - J = (999 - J) + 1 by omega]
        refine lp_out ?_
        dsimp only
        unfold f_X6_read_L44
        rw [if_pos (nI_le (by omega) (by omega)), h, ox_s]
      · rw [show 1000 - J = (999 - J) + 1 by omega]
        refine lp_out ?_
        dsimp only
        unfold f_X7_read_L63 f_X7_read_J261
        rw [if_pos (nI_le (by omega) (by omega)), bd_s, ox_s]
    · by_cases hf : FT J = 0
      · -- pair J is refused
        have hno : ¬ okp ns (g 42) J (s.1 (182 + 2 * k) (pn J)) (s.1 (182 + 2 * k) (pn J + 1)) := by
          rcases j3 with q | q
          · exact absurd hf q
          · exact q
        obtain ⟨b1, b2, b3⟩ := hpn J (by omega) hf
        obtain ⟨v, k1, k2⟩ := c_refused hG hk b1 (show J ≤ 20 by omega)
        have hv : v = nI 1 := by
          rcases k2 with ⟨-, q⟩ | ⟨q, -⟩
          · exact absurd q hno
          · exact q
        subst hv
        obtain ⟨s3, r1, r2⟩ := rhead s (-20 - nI J) (fun s3 => Qf s s3) hG.2.2.2.2.2.1 hG.2.2.2.2.2.2.1 hg rfl rfl rfl (fun s2 a1 a2 a3 a4 => by
          have e199 : s2.1 199 = s.1 199 := a3 199 (by decide) (by decide) (by decide) (by decide)
          obtain ⟨s3, d1, d2, d3, d4⟩ := r_refuse (s := s2) (g := g) (j := J) (w := nI J) (b := nI A) (d := nI N) hk (by omega) (by rw [a3 189 (by decide) (by decide) (by decide) (by decide)]; exact hG.2.2.2.2.2.1) (by rw [a3 189 (by decide) (by decide) (by decide) (by decide)]; exact hG.2.2.2.2.2.2.1) a1 w1 h42J b1 b3 a4 (fun q => hno (by
            rw [e199, ← hrow _ (by omega), ← hrow _ (by omega), w2] at q
            exact q))
          refine ⟨s3, ?_, fun j q1 q2 q3 q4 q5 q6 q7 => ?_⟩
          · rw [show 1000 - J = (999 - J) + 1 by omega]
            refine lp_out ?_
            dsimp only
            unfold f_X7_read_L63
            rw [if_neg (nI_ge (by omega) (by omega)), if0, hRf s2 N (nI J) J (by omega) (a3 197 (by decide) (by decide) (by decide) (by decide)) (a3 198 (by decide) (by decide) (by decide) (by decide)), hf]
            exact d1
          · by_cases e : j = 190
            · subst e
              funext i
              by_cases hi : i < 131
              · rw [d2 i hi, hg i hi]
              · rw [d3 i (by omega), a2 i (by omega)]
            · rw [d4 j e q3 q5, a3 j e q3 q5 q7])
        refine ⟨-20 - nI J, s, s3, chead _ _ ?_, r1, by omega, nl, ns, g, (hG.qf r2).mono (by omega)⟩
        rw [show 1000 - J = (999 - J) + 1 by omega]
        refine lp_out ?_
        dsimp only
        rw [cstep J (by omega) (by omega) (by omega) hf _ k1, if_neg (by decide)]
      · -- the machine finds a fault at pair J
        refine good (FT J) (fun s1 h => ?_) (fun s2 e7 e8 => ?_)
        · rw [show 1000 - J = (998 - J) + 1 + 1 by omega]
          rw [lp_one (q2 := (nI J, FT J, nI (J + 1), s)) (by
            dsimp only
            unfold f_X6_read_L44
            rw [if_neg (nI_ge (by omega) (by omega)), if0, if_pos m2, hC J (by omega), cl_s, if_pos hf, nI_add])]
          refine lp_out ?_
          dsimp only
          unfold f_X6_read_L44
          rw [if_pos hf, h, ox_s, ite_self]
        · rw [show 1000 - J = (998 - J) + 1 + 1 by omega]
          rw [lp_one (q2 := (FT J, nI J, nI (J + 1), s2)) (by
            dsimp only
            unfold f_X7_read_L63
            rw [if_neg (nI_ge (by omega) (by omega)), if0, hRf s2 N (nI J) J (by omega) e7 e8]
            unfold f_X7_read_J165
            rw [if_pos hf, nI_add])]
          refine lp_out ?_
          dsimp only
          unfold f_X7_read_L63 f_X7_read_J261
          rw [if_pos hf, bd_s, ox_s, ite_self]
theorem r_ftc {s : St} {k A m j : Nat} {f w x F : Int32} (hk : k < 4) (hj : j ≤ 20) (x1 : s.1 197 k = x) (hF : (x = -4 ∧ F = nI 1) ∨ (¬ x = -4 ∧ ¬ x = nI A ∧ F = nI 3)) : lp (fun q : Int32 × Int32 × St => f_X7_read_L78 (nI k) (nI A) f (nI m) w (nI j) q.1 q.2.1 q.2.2) Fu (nI 0, nI 0, s) = f_X7_read_J165 (nI k) (nI A) f (nI m) F w (nI j) s := by
  obtain ⟨m1, m2, m3, m4, m5⟩ := sh_a k hk
  have hF0 : ¬ F = 0 := by
    rcases hF with ⟨-, e⟩ | ⟨-, -, e⟩
    · rw [e]; decide
    · rw [e]; decide
  show lp _ (998 + 1 + 1) _ = _
  rw [lp_one (q2 := (F, nI 1, s)) (by
    dsimp only
    unfold f_X7_read_L78
    rw [if_neg (by decide), if0, bd_s, if_pos m4, nI_clamp (by omega), x1]
    rcases hF with ⟨e1, e2⟩ | ⟨e1, e2, e3⟩
    · rw [if_neg (fun q => q e1), e2, nI_add]
    · rw [if_pos e1, if_neg e2, e3, nI_add])]
  unfold lp
  have e : f_X7_read_L78 (nI k) (nI A) f (nI m) w (nI j) F (nI 1) s = ox (f_X7_read_J165 (nI k) (nI A) f (nI m) F w (nI j) s) := by
    unfold f_X7_read_L78
    rw [if_neg (by decide), if_pos hF0]
  dsimp only
  rw [e]
  cases f_X7_read_J165 (nI k) (nI A) f (nI m) F w (nI j) s with
  | none => rfl
  | some t => rfl
theorem op_read : Op4 f_X6_read f_X7_read Good := by
  intro n s a b f d hn hG
  obtain ⟨-, nl, ns, g, hG⟩ := hG
  rcases rng a (3 + 1) with ⟨k, hk, hk2, rfl⟩ | ha
  · rcases rng b (2 + 1) with ⟨A, hA, hA2, rfl⟩ | hb
    · rcases rng d (20 + 1) with ⟨N, hN, hN2, rfl⟩ | hd
      · obtain ⟨m1, m2, m3, m4, m5⟩ := sh_a k hk
        obtain ⟨q1, ⟨z, hz, q2, q3⟩, q4⟩ := hG.2.2.2.2.2.2.2.2.2.2.1 k hk
        rcases q1 with ⟨x1, x2⟩ | ⟨L, hL, x1, x2⟩
        · refine rd_main hn hG hk hA (by omega) (fun _ => nI 1) (fun j hj => ?_) (fun s' m w j hj e7 e8 => r_ftc hk hj (x := -4) (by rw [e7]; exact x2) (Or.inl ⟨rfl, rfl⟩)) (fun j hj q => absurd q (by decide))
          unfold f_X4_faultOfPair f_X4_faultAt
          rw [if_pos m2, if_pos m2, b_isNothing m2 x1, cl_s, if1', cl_s, if1']
        · by_cases hLA : L = A
          · subst hLA
            refine rd_main hn hG hk hA (by omega) (ft f z) (fun j hj => c_ft hk hL hz hj x1 q2) (fun s' m w j hj e7 e8 => r_ft hk hL hz hj (by rw [e7]; exact x2) (by rw [e8]; exact q3)) (fun j hj q => ?_)
            unfold ft at q
            by_cases h : 0 ≤ f.toInt + 2 * (j : Int) ∧ f.toInt + 2 * (j : Int) + 1 < z
            · obtain ⟨p, p1, p2, p3, p4⟩ := ix_in (f := f) hj hz (show 0 ≤ f.toInt + 2 * (j : Int) ∧ f.toInt + 2 * (j : Int) < z by omega)
              exact ⟨p, by omega, p3, p4 k hk⟩
            · rw [if_neg h] at q
              exact absurd q (by decide)
          · have hne : ¬ nI L = nI A := fun q => hLA ((nI_eq (by omega) (by omega)).mp q)
            refine rd_main hn hG hk hA (by omega) (fun _ => nI 3) (fun j hj => ?_) (fun s' m w j hj e7 e8 => r_ftc hk hj (x := nI L) (by rw [e7]; exact x2) (Or.inr ⟨lane4 hL, hne, rfl⟩)) (fun j hj q => absurd q (by decide))
            unfold f_X4_faultOfPair f_X4_faultAt
            rw [if_pos m2, if_pos m2, b_isNothing_n m2 hL x1, cl_s, if0', x1, if_neg hne, cl_s, if_neg (by decide)]
      · refine qs (-1) hn hG ?_ ?_
        · unfold f_X6_read
          rw [g_sheet hk, cl_s, if1', g_lane hA, cl_s, if1', g_win_n hd (by decide), cl_s, if0]
        · unfold f_X7_read
          rw [g7_sheet hk hA, cl_s, if1', g7_win_n hd (by decide), cl_s, if0]
    · refine qs (-1) hn hG ?_ ?_
      · unfold f_X6_read
        rw [g_sheet hk, cl_s, if1', g_lane_n hb, cl_s, if0']
      · unfold f_X7_read
        rw [g7_sheet_n2 hk hb, cl_s, if0']
  · refine qs (-1) hn hG ?_ ?_
    · unfold f_X6_read
      rw [g_sheet_n ha, cl_s, if0']
    · unfold f_X7_read
      rw [g7_sheet_n1 ha, cl_s, if0']

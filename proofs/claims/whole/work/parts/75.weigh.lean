/-! AIRS that fall still: the class -/
theorem wJ_1 {s : St} {k i : Nat} {x : Int64} : (wJ s k i x).1 = s.1 := rfl
theorem wJ_at {s : St} {k i : Nat} {x : Int64} : (wJ s k i x).2 k i = x := by
  show (if k = k then vp_updL (s.2 k) i x else s.2 k) i = x
  rw [if_pos rfl]
  exact if_pos rfl
theorem wJ_ne {s : St} {k i j : Nat} {x : Int64} (h : j ≠ i) : (wJ s k i x).2 k j = s.2 k j := by
  show (if k = k then vp_updL (s.2 k) i x else s.2 k) j = s.2 k j
  rw [if_pos rfl]
  exact if_neg h
theorem b_tenTo {n : Nat} (hn : n < 500) (s : St) : f_X1_tenTo (nI n) s = some (lN (10 ^ n), s) := by
  unfold f_X1_tenTo
  refine lp_run (fun k => (lN (10 ^ k), nI k, s)) n _ (fun k hk => ?_) ?_ rfl (Fu_lt (by omega))
  · dsimp only
    unfold f_X1_tenTo_L4
    rw [if_neg (nI_ge hk (by omega)), bd_s, lN_mul, nI_add, Nat.pow_succ]
  · dsimp only
    unfold f_X1_tenTo_L4
    rw [if_pos (nI_le (Nat.le_refl _) (by omega))]
theorem od_a : ∀ k, k < 8 → inb (nI k) (ln 37) = true ∧ kd (38 + 13 * k) = 2 := by decide
theorem c_W {nl ns T v i nn : Nat} {m : Bool} (hv : v ≤ 10) (hi : i < ns) (hnn : nn ≤ 8) : ∀ (r k fu : Nat) (s : St) (h : Nat → Nat), k + (r + 1) = nn → r + 1 ≤ fu → RR s (38 + 13 * k) nl ns h → WF nl ns T h → h 42 + (r + 1) ≤ 2000 → s.1 36 1 = nI v → s.1 36 2 = nI i → s.1 36 3 = nI (nn - 1) → s.1 36 4 = (if m = true then nI 1 else nI 0) → ∃ s2, fW fu (nI k) s = some (lN (vl nl ns v i m (r + 1) h), s2) ∧ Sm s s2 (38 + 13 * k) (104 - 13 * k) := by
  intro r
  induction r with
  | zero =>
    intro k fu s h hk hfu hR hW h42 e1 e2 e3 e4
    obtain ⟨fu, rfl⟩ : ∃ f, fu = f + 1 := ⟨fu - 1, by omega⟩
    have hns := hW.2.1
    obtain ⟨o1, o2⟩ := od_a k (by omega)
    have hr := isRo k (by omega)
    obtain ⟨s1, a1, a2, a3⟩ := b_tellAll hr hR hW
    obtain ⟨s2, b1, b2, b3⟩ := b_takeAll hr a2 (hW.told (Nat.le_refl _))
    change RR s2 (38 + 13 * k) nl ns (tt nl ns h) at b2
    have c36 : s2.1 36 = s.1 36 := by rw [b3.1 36 (by omega), a3.1 36 (by omega)]
    have htt := tt_hb hW hi
    have ht9 := tki_le hW hi
    refine ⟨s2, ?_, (a3.tr b3).wide (by omega) (by omega)⟩
    show f_X1_weightBehind (fW fu) (nI k) s = _
    unfold f_X1_weightBehind f_X1_weightBehind_J61 f_X1_weightBehind_J87
    rw [if_pos o1, bd_s, nI_clamp (by omega), if_pos o2, e2, b_hb hr hR hW (by omega), cl_s, a1, cl_s, b1, cl_s, c36, e2, b_hb hr b2 hW.tt (by omega), cl_s, bd_s, htt, pk_sub (by omega), Nat.add_sub_cancel_left, c36, e4, e3, pk_sub (show k ≤ nn - 1 by omega), nI_add, show nn - 1 - k + 1 = 1 by omega, b_tenTo (by decide), cl_s, cl_s, if_pos (nI_le (show nn - 1 ≤ k by omega) (by omega)), c36, e3, if_pos (nI_le (show nn - 1 ≤ k by omega) (by omega))]
    show _ = some (lN (if m = false ∧ 0 < tki nl h i then 10 ^ 1 else (if m = true then tki nl h i * 10 ^ 1 else 0) + (v * 0 + (10 - v) * 0)), s2)
    cases m with
    | true =>
      rw [if_neg (show ¬ (true = false ∧ 0 < tki nl h i) by simp), if_pos rfl, if_pos rfl, if1, if1', nI_l (by omega), lN_mul]
      simp
    | false =>
      rw [if_neg (show ¬ false = true by decide), if0]
      by_cases ht : 0 < tki nl h i
      · rw [if_neg (fun q => by rw [nI_le0 (by omega)] at q; omega), if_pos ⟨rfl, ht⟩]
      · rw [if_pos ((nI_le0 (by omega)).mpr (by omega)), if0', if_neg (fun q => ht q.2)]
        simp
  | succ r ih =>
    intro k fu s h hk hfu hR hW h42 e1 e2 e3 e4
    obtain ⟨fu, rfl⟩ : ∃ f, fu = f + 1 := ⟨fu - 1, by omega⟩
    have hnl := hW.1
    have hns := hW.2.1
    obtain ⟨o1, o2⟩ := od_a k (by omega)
    obtain ⟨o3, o4⟩ := od_a (k + 1) (by omega)
    have hr := isRo k (by omega)
    have hr2 := isRo (k + 1) (by omega)
    obtain ⟨s1, a1, a2, a3⟩ := b_tellAll hr hR hW
    obtain ⟨s2, b1, b2, b3⟩ := b_takeAll hr a2 (hW.told (Nat.le_refl _))
    change RR s2 (38 + 13 * k) nl ns (tt nl ns h) at b2
    have c36 : s2.1 36 = s.1 36 := by rw [b3.1 36 (by omega), a3.1 36 (by omega)]
    have htt := tt_hb hW hi
    have ht9 := tki_le hW hi
    have hWt : WF nl ns T (tt nl ns h) := hW.tt
    have hwl := wy_lt hW
    have by1 : ∀ (s3 : St) (w : Nat), w < 5 → RR s3 (38 + 13 * k) nl ns (tt nl ns h) → s3.1 36 = s.1 36 → ∃ s4, f_X1_weightBy (fW fu) (nI k) (nI w) s3 = some (lN (vl nl ns v i m (r + 1) (stp nl ns w h)), s4) ∧ Sm s3 s4 (38 + 13 * (k + 1)) (104 - 13 * (k + 1)) := by
      intro s3 w hw hR3 h36
      obtain ⟨s4, c1, c2, c3⟩ := b_copyOf hr2 hr (by omega) hnl hns hR3
      obtain ⟨s5, d1, d2, d3⟩ := b_carry hr2 c2 hWt hw
      have e42 : blown nl w (tt nl ns h) 42 = h 42 := (tt_kp hW).tr (blown_kp hWt hw) 42 (by omega)
      have hR6 : RR (wI s5 (38 + 13 * (k + 1)) 2 (nI (h 42 + 1))) (38 + 13 * (k + 1)) nl ns (stp nl ns w h) := d2.step hnl hns
      have f36 : (wI s5 (38 + 13 * (k + 1)) 2 (nI (h 42 + 1))).1 36 = s.1 36 := by rw [wI_1o (by omega), d3.1 36 (by omega), c3.1 36 (by omega), h36]
      obtain ⟨s6, g1, g2⟩ := ih (k + 1) fu (wI s5 (38 + 13 * (k + 1)) 2 (nI (h 42 + 1))) (stp nl ns w h) (by omega) (by omega) hR6 (hW.stp hw (by omega)) (by rw [stp_42]; omega) (by rw [f36]; exact e1) (by rw [f36]; exact e2) (by rw [f36]; exact e3) (by rw [f36]; exact e4)
      refine ⟨s6, ?_, ?_⟩
      · unfold f_X1_weightBy
        rw [nI_add, if_pos (nI_lt (by omega) (by decide)), if_pos o3, bd_s, if_pos o1, bd_s, nI_clamp (by omega), nI_clamp (by omega), if_pos o4, c1, cl_s, d1, cl_s, bd_s, d2.2.2.1, e42, nI_add, g1, cl_s]
      · exact (((c3.wide (by omega) (by omega)).tr (d3.wide (by omega) (by omega))).tr (Sm.wi (by omega) (by omega))).tr g2
    have airs : ∃ s4, f_X1_weightOfAirs (fW fu) (nI k) s2 = some (lN (v * vl nl ns v i m (r + 1) (stp nl ns 0 h) + (10 - v) * vl nl ns v i m (r + 1) (stp nl ns (wy h) h)), s4) ∧ Sm s2 s4 (38 + 13 * (k + 1)) (104 - 13 * (k + 1)) := by
      have ew : tt nl ns h (32 + tt nl ns h 42 % 6) = wy h := by
        rw [tt_kp hW 42 (by omega)]
        exact tt_kp hW _ (by omega)
      unfold f_X1_weightOfAirs
      rw [if_pos o1, bd_s, nI_clamp (by omega), if_pos o2, b_wayNow hr b2 hWt, cl_s, ew, c36, e1]
      by_cases h0 : wy h = 0
      · obtain ⟨s4, g1, g2⟩ := by1 s2 0 (by decide) b2 c36
        rw [h0, if0, g1, cl_s, lN_mul, ← Nat.add_mul, show v + (10 - v) = 10 by omega]
        exact ⟨s4, rfl, g2⟩
      · rw [if_pos (fun q => h0 ((nI_e0 (by omega)).mp q))]
        have j49 : ∀ (s3 : St) (x : Nat), RR s3 (38 + 13 * k) nl ns (tt nl ns h) → s3.1 36 = s.1 36 → ∃ s4, f_X1_weightOfAirs_J49 (fW fu) (nI k) (nI (wy h)) (lN x) s3 = some (lN (x + (10 - v) * vl nl ns v i m (r + 1) (stp nl ns (wy h) h)), s4) ∧ Sm s3 s4 (38 + 13 * (k + 1)) (104 - 13 * (k + 1)) := by
          intro s3 x hR3 h36
          unfold f_X1_weightOfAirs_J49
          rw [h36, e1]
          by_cases hv10 : v = 10
          · subst hv10
            rw [if_pos (by decide), Nat.sub_self, Nat.zero_mul, Nat.add_zero]
            exact ⟨s3, rfl, Sm.rf⟩
          · obtain ⟨s4, g1, g2⟩ := by1 s3 (wy h) hwl hR3 h36
            rw [if_neg (nI_ge (by omega) (by decide)), g1, cl_s, bd_s, pk_sub (by omega), nI_l (by omega), lN_mul, lN_add]
            exact ⟨s4, rfl, g2⟩
        by_cases hv0 : v = 0
        · subst hv0
          obtain ⟨s4, g1, g2⟩ := j49 s2 0 b2 c36
          rw [if_pos (by decide), g1, Nat.zero_mul]
          exact ⟨s4, rfl, g2⟩
        · obtain ⟨s4, g1, g2⟩ := by1 s2 0 (by decide) b2 c36
          obtain ⟨s5, g3, g4⟩ := j49 s4 (v * vl nl ns v i m (r + 1) (stp nl ns 0 h)) (b2.sm g2 (by omega)) (by rw [g2.1 36 (by omega), c36])
          rw [if_neg (fun q => hv0 ((nI_le0 (by omega)).mp q)), g1, cl_s, bd_s, nI_l (by omega), lN_mul, lN_add, Nat.zero_add, g3]
          exact ⟨s5, rfl, g2.tr g4⟩
    obtain ⟨s4, g1, g2⟩ := airs
    have j87 : ∀ K : Nat, f_X1_weightBehind_J87 (fW fu) (nI k) (lN K) s2 = some (lN (K + (v * vl nl ns v i m (r + 1) (stp nl ns 0 h) + (10 - v) * vl nl ns v i m (r + 1) (stp nl ns (wy h) h))), s4) := by
      intro K
      unfold f_X1_weightBehind_J87
      rw [c36, e3, if_neg (nI_ge (by omega) (by omega)), g1, cl_s, lN_add]
    have hbeh : ∀ (sf : St) (V : Int64), (if ¬ s2.1 36 4 = 0 then f_X1_weightBehind_J61 (fW fu) (nI k) (nI (tki nl h i)) s2 else if nI (tki nl h i) ≤ 0 then f_X1_weightBehind_J61 (fW fu) (nI k) (nI (tki nl h i)) s2 else cl (f_X1_tenTo (s2.1 36 3 - nI k + nI 1) s2) (fun x16 s15 => some (x16, s15))) = some (V, sf) → fW (fu + 1) (nI k) s = some (V, sf) := by
      intro sf V hV
      show f_X1_weightBehind (fW fu) (nI k) s = _
      unfold f_X1_weightBehind
      rw [if_pos o1, bd_s, nI_clamp (by omega), if_pos o2, e2, b_hb hr hR hW (by omega), cl_s, a1, cl_s, b1, cl_s, c36, e2, b_hb hr b2 hWt (by omega), cl_s, bd_s, htt, pk_sub (by omega), Nat.add_sub_cancel_left]
      exact hV
    have w1 : Sm s s2 (38 + 13 * k) (104 - 13 * k) := (a3.tr b3).wide (by omega) (by omega)
    have w2 : Sm s2 s4 (38 + 13 * k) (104 - 13 * k) := g2.wide (by omega) (by omega)
    have hten : f_X1_tenTo (s2.1 36 3 - nI k + nI 1) s2 = some (lN (10 ^ (r + 1 + 1)), s2) := by
      rw [c36, e3, pk_sub (by omega), nI_add, show nn - 1 - k + 1 = r + 1 + 1 by omega, b_tenTo (by omega)]
    have ev : vl nl ns v i m (r + 1 + 1) h = if m = false ∧ 0 < tki nl h i then 10 ^ (r + 1 + 1) else (if m = true then tki nl h i * 10 ^ (r + 1 + 1) else 0) + (v * vl nl ns v i m (r + 1) (stp nl ns 0 h) + (10 - v) * vl nl ns v i m (r + 1) (stp nl ns (wy h) h)) := rfl
    cases m with
    | true =>
      rw [if_pos rfl] at e4
      rw [ev, if_neg (show ¬ (true = false ∧ 0 < tki nl h i) by simp), if_pos rfl]
      refine ⟨s4, hbeh _ _ ?_, w1.tr w2⟩
      unfold f_X1_weightBehind_J61
      rw [hten, cl_s, c36, e4, if1, if1', nI_l (by omega), lN_mul, j87]
    | false =>
      rw [if_neg (by decide)] at e4
      by_cases ht : 0 < tki nl h i
      · rw [ev, if_pos ⟨rfl, ht⟩]
        refine ⟨s2, hbeh _ _ ?_, w1⟩
        rw [hten, cl_s, c36, e4, if0, if_neg (fun q => by rw [nI_le0 (by omega)] at q; omega)]
      · rw [ev, if_neg (fun q => ht q.2), if_neg (by decide)]
        refine ⟨s4, hbeh _ _ ?_, w1.tr w2⟩
        unfold f_X1_weightBehind_J61
        rw [hten, cl_s, c36, e4, if0, if_pos ((nI_le0 (by omega)).mpr (by omega)), if0', j87]

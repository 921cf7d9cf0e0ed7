/-! the reference reads lines -/
def RD (s : St) (d : Dr) : Prop := s.1 189 6 = nI d.1 ∧ s.1 189 7 = nI d.2.1 ∧ s.1 189 8 = nI (d.2.2.2 % 64) ∧ s.1 189 9 = nI (d.2.2.2 / 64) ∧ ∀ j, j < 131 → s.1 193 j = nI (d.2.2.1 j)
theorem RD.t7 {s s2 : St} {d : Dr} (h : RD s d) (hF : T7 s s2) : RD s2 d := by
  unfold RD at h ⊢
  rw [hF.2 6 (by decide), hF.2 7 (by decide), hF.2 8 (by decide), hF.2 9 (by decide), hF.1 193 (by decide)]
  exact h
def RLn (s2 : St) (b : Nat → Nat) (len : Nat) (r : (Nat × Nat) ⊕ (Nat × Dr)) : Prop := Sum.elim (fun e => Fl s2 e) (fun a => RA s2 b (tok b len a.1) ∧ RD s2 a.2) r
theorem ib193 {e : Nat} (h : e < 131) : inb (nI e) (lnI 193) = true := by rw [l193]; exact inb_t h (by decide)
theorem k_sit {s : St} {b : Nat → Nat} {len q0 p : Nat} {d : Dr} (hB : RB s b len) (hp : p ≤ len) (hA : RA s b (tok b len p)) (hD : RD s d) (h4 : d.2.1 < 4) : ∃ s2, f_X7_readLineOf (nI 4) s = some ((), s2) ∧ F7 s s2 ∧ RLn s2 b len (mSit b len q0 p d) := by
  obtain ⟨nl, ns, g, m⟩ := d
  obtain ⟨d1, d2, d3, d4, d5⟩ := id hD
  dsimp only at d1 d2 d3 d4 d5 h4
  unfold f_X7_readLineOf mSit
  dsimp only
  obtain ⟨x, s1, e1, f1, n1⟩ := r_cell hB hp hA
  have g1 : s1.1 189 7 = nI ns := by rw [f1.2 7 (by decide)]; exact d2
  rw [if_pos rfl, e1, cl_s, d2, pk_mul, nI_add, if_pos (ib193 (by omega)), bd_s, nI_clamp (by omega), if_neg (show ¬ 4 ≤ ns by omega), wI_1o (show 189 ≠ 193 by decide), g1, pk_mul, nI_add, nI_add]
  have F1 : F7 s (wI s1 193 (12 + 2 * ns) x) := f1.f7.tr F7.w3
  cases hm : mCell b len p with
  | inl e =>
    rw [hm] at n1
    have n2 : Fl (wI s1 193 (12 + 2 * ns) x) e := n1.cg w39
    rw [r_numF n2, cl_s, if_pos (ib193 (by omega)), bd_s, bd_s, an_l]
    exact ⟨_, rfl, F1.tr (F7.w3.tr (F7.w9 (by decide) (by decide))), (n2.cg w39).cg (w99 (by decide))⟩
  | inr c =>
    rw [hm] at n1
    obtain ⟨n2, n3⟩ := n1
    obtain ⟨k1, k2, k3⟩ := mCell_r hp hm
    obtain ⟨y, s3, e3, f3, n4⟩ := r_num (s := wI s1 193 (12 + 2 * ns) x) (p := c.2) (lo := 0) (hi := 9) (hB.f7 F1) k2 (n3.cg w39) (by decide) (by decide)
    rw [e3, cl_s, if_pos (ib193 (by omega)), bd_s, bd_s, nI_clamp (by omega), an_r]
    have F2 := F1.tr (f3.f7.tr (F7.w3 (i := 12 + 2 * ns + 1) (x := y)))
    refine ⟨_, rfl, F2.tr (F7.w9 (by decide) (by decide)), ?_⟩
    cases hm2 : mNum b len c.2 0 9 with
    | inl e =>
      rw [hm2] at n4
      exact (n4.2.cg w39).cg (w99 (by decide))
    | inr v =>
      rw [hm2] at n4
      obtain ⟨rfl, n5⟩ := n4
      have ex := n2 (mNum_at hm2).2
      subst ex
      rw [an_r]
      have g3 : ∀ j, j ≠ 12 → j ≠ 13 → j ≠ 14 → j ≠ 15 → j ≠ 16 → j ≠ 17 → s3.1 189 j = s.1 189 j := fun j a1 a2 a3 a4 a5 a6 => by rw [f3.2 j (by omega), wI_1o (by decide), f1.2 j (by omega)]
      refine ⟨(n5.cg w39).cg (w99 (by decide)), ?_, ?_, ?_, ?_, fun j hj => ?_⟩
      · dsimp only; rw [wI_ne (by decide), wI_1o (by decide), g3 6 (by decide) (by decide) (by decide) (by decide) (by decide) (by decide)]; exact d1
      · dsimp only; rw [wI_at, wI_1o (by decide), g3 7 (by decide) (by decide) (by decide) (by decide) (by decide) (by decide), d2, nI_add]
      · dsimp only; rw [wI_ne (by decide), wI_1o (by decide), g3 8 (by decide) (by decide) (by decide) (by decide) (by decide) (by decide)]; exact d3
      · dsimp only; rw [wI_ne (by decide), wI_1o (by decide), g3 9 (by decide) (by decide) (by decide) (by decide) (by decide) (by decide)]; exact d4
      · dsimp only
        rw [wI_1o (by decide)]
        by_cases e1 : j = 12 + 2 * ns + 1
        · rw [e1, wI_at, show 12 + 2 * ns + 1 = 13 + 2 * ns by omega, up_k]
        · rw [wI_ne e1, f3.1 193 (by decide), up_o (by omega)]
          by_cases e2 : j = 12 + 2 * ns
          · rw [e2, wI_at, up_k]
          · rw [wI_ne e2, f1.1 193 (by decide), up_o e2]; exact d5 j hj
theorem k_lif {s : St} {b : Nat → Nat} {len q0 p w : Nat} {d : Dr} (hB : RB s b len) (hp : p ≤ len) (hA : RA s b (tok b len p)) (hD : RD s d) (h4 : d.1 < 3) (hw : w ≤ 3) : ∃ s2, f_X7_readLineOf (nI w) s = some ((), s2) ∧ F7 s s2 ∧ RLn s2 b len (mLif b len q0 p w d) := by
  obtain ⟨nl, ns, g, m⟩ := d
  obtain ⟨d1, d2, d3, d4, d5⟩ := id hD
  dsimp only at d1 d2 d3 d4 d5 h4
  unfold f_X7_readLineOf mLif
  dsimp only
  have hW : ∀ k, k < 7 → w ≠ k → ¬ nI w = nI k := fun k hk h e => h ((nI_eq (by omega) (by omega)).mp e)
  rw [if_neg (hW 4 (by decide) (by omega)), if_neg (hW 5 (by decide) (by omega)), if_neg (hW 6 (by decide) (by omega)), if_pos (by rw [nI_toInt (by omega)]; omega), d1, pk_mul, nI_add, if_pos (ib193 (by omega)), bd_s, nI_clamp (by omega), Nat.add_zero, if_neg (show ¬ 3 ≤ nl by omega)]
  have F0 : F7 s (wI s 193 (4 * nl) (nI w)) := F7.w3
  obtain ⟨x, s1, e1, f1, n1⟩ := r_cell (s := wI s 193 (4 * nl) (nI w)) (hB.f7 F0) hp (hA.cg w39)
  have z1 : (wI s 193 (4 * nl) (nI w)).1 189 6 = nI nl := by rw [wI_1o (by decide)]; exact d1
  have g1 : s1.1 189 6 = nI nl := by rw [f1.2 6 (by decide)]; exact z1
  rw [e1, cl_s, z1, pk_mul, nI_add, if_pos (ib193 (by omega)), bd_s, nI_clamp (by omega)]
  have F1 : F7 s (wI s1 193 (4 * nl + 1) x) := F0.tr (f1.f7.tr F7.w3)
  have z2 : (wI s1 193 (4 * nl + 1) x).1 189 6 = nI nl := by rw [wI_1o (by decide)]; exact g1
  rw [z2, pk_mul, nI_add]
  cases hm : mCell b len p with
  | inl e =>
    rw [hm] at n1
    have n2 : Fl (wI s1 193 (4 * nl + 1) x) e := n1.cg w39
    rw [r_numF n2, cl_s, if_pos (ib193 (by omega)), bd_s, nI_clamp (by omega), wI_1o (show 189 ≠ 193 by decide), z2, pk_mul, nI_add, r_numF (n2.cg w39), cl_s, if_pos (ib193 (by omega)), bd_s, bd_s, an_l]
    exact ⟨_, rfl, F1.tr (F7.w3.tr (F7.w3.tr (F7.w9 (by decide) (by decide)))), ((n2.cg w39).cg w39).cg (w99 (by decide))⟩
  | inr c =>
    rw [hm] at n1
    obtain ⟨n2, n3⟩ := n1
    obtain ⟨k1, k2, k3⟩ := mCell_r hp hm
    obtain ⟨y, s3, e3, f3, n4⟩ := r_num (s := wI s1 193 (4 * nl + 1) x) (p := c.2) (lo := 1) (hi := 9) (hB.f7 F1) k2 (n3.cg w39) (by decide) (by decide)
    rw [e3, cl_s, if_pos (ib193 (by omega)), bd_s, nI_clamp (by omega), an_r]
    have g3 : s3.1 189 6 = nI nl := by rw [f3.2 6 (by decide)]; exact z2
    have F2 : F7 s (wI s3 193 (4 * nl + 2) y) := F1.tr (f3.f7.tr F7.w3)
    have z3 : (wI s3 193 (4 * nl + 2) y).1 189 6 = nI nl := by rw [wI_1o (by decide)]; exact g3
    rw [z3, pk_mul, nI_add]
    cases hm2 : mNum b len c.2 1 9 with
    | inl e =>
      rw [hm2] at n4
      have n5 : Fl (wI s3 193 (4 * nl + 2) y) e := n4.2.cg w39
      rw [r_numF n5, cl_s, if_pos (ib193 (by omega)), bd_s, bd_s, an_l]
      exact ⟨_, rfl, F2.tr (F7.w3.tr (F7.w9 (by decide) (by decide))), (n5.cg w39).cg (w99 (by decide))⟩
    | inr v =>
      rw [hm2] at n4
      obtain ⟨rfl, n5⟩ := n4
      have ex := n2 (mNum_at hm2).2
      subst ex
      obtain ⟨j1, j2, j3⟩ := mNum_r k2 hm2
      obtain ⟨z, s5, e5, f5, n6⟩ := r_num (s := wI s3 193 (4 * nl + 2) (nI v.1)) (p := v.2) (lo := 0) (hi := 99) (hB.f7 F2) j2 (n5.cg w39) (by decide) (by decide)
      rw [e5, cl_s, if_pos (ib193 (by omega)), bd_s, bd_s, nI_clamp (by omega), an_r]
      have F3' := F2.tr (f5.f7.tr (F7.w3 (i := 4 * nl + 3) (x := z)))
      refine ⟨_, rfl, F3'.tr (F7.w9 (by decide) (by decide)), ?_⟩
      cases hm3 : mNum b len v.2 0 99 with
      | inl e =>
        rw [hm3] at n6
        exact (n6.2.cg w39).cg (w99 (by decide))
      | inr u =>
        rw [hm3] at n6
        obtain ⟨rfl, n7⟩ := n6
        rw [an_r]
        have g5 : ∀ j, j ≠ 12 → j ≠ 13 → j ≠ 14 → j ≠ 15 → j ≠ 16 → j ≠ 17 → s5.1 189 j = s.1 189 j := fun j a1 a2 a3 a4 a5 a6 => by rw [f5.2 j (by omega), wI_1o (by decide), f3.2 j (by omega), wI_1o (by decide), f1.2 j (by omega), wI_1o (by decide)]
        refine ⟨(n7.cg w39).cg (w99 (by decide)), ?_, ?_, ?_, ?_, fun j hj => ?_⟩
        · dsimp only; rw [wI_at, wI_1o (by decide), g5 6 (by decide) (by decide) (by decide) (by decide) (by decide) (by decide), d1, nI_add]
        · dsimp only; rw [wI_ne (by decide), wI_1o (by decide), g5 7 (by decide) (by decide) (by decide) (by decide) (by decide) (by decide)]; exact d2
        · dsimp only; rw [wI_ne (by decide), wI_1o (by decide), g5 8 (by decide) (by decide) (by decide) (by decide) (by decide) (by decide)]; exact d3
        · dsimp only; rw [wI_ne (by decide), wI_1o (by decide), g5 9 (by decide) (by decide) (by decide) (by decide) (by decide) (by decide)]; exact d4
        · dsimp only
          rw [wI_1o (by decide)]
          by_cases e1 : j = 4 * nl + 3
          · rw [e1, wI_at, up_k]
          · rw [wI_ne e1, f5.1 193 (by decide), up_o e1]
            by_cases e2 : j = 4 * nl + 2
            · rw [e2, wI_at, up_k]
            · rw [wI_ne e2, f3.1 193 (by decide), up_o e2]
              by_cases e3 : j = 4 * nl + 1
              · rw [e3, wI_at, up_k]
              · rw [wI_ne e3, f1.1 193 (by decide), up_o e3]
                by_cases e4 : j = 4 * nl
                · rw [e4, wI_at, up_k]
                · rw [wI_ne e4, up_o e4]; exact d5 j hj
theorem bA : ∀ k, k ≤ 5 → ∀ m, (m % 64) / 2 ^ k % 2 = m / 2 ^ (0 + k) % 2 := by
  intro k hk m
  rcases (show k = 0 ∨ k = 1 ∨ k = 2 ∨ k = 3 ∨ k = 4 ∨ k = 5 by omega) with rfl | rfl | rfl | rfl | rfl | rfl
  all_goals
    simp only [Nat.reducePow, Nat.reduceAdd]
    omega
theorem aA : ∀ k, k ≤ 5 → ∀ m, m / 2 ^ (0 + k) % 2 = 0 → (m + 2 ^ (0 + k)) % 64 = m % 64 + 2 ^ k ∧ (m + 2 ^ (0 + k)) / 64 = m / 64 := by
  intro k hk m h
  rcases (show k = 0 ∨ k = 1 ∨ k = 2 ∨ k = 3 ∨ k = 4 ∨ k = 5 by omega) with rfl | rfl | rfl | rfl | rfl | rfl
  all_goals
    simp only [Nat.reducePow, Nat.reduceAdd] at h ⊢
    omega
theorem bP : ∀ k, k ≤ 3 → ∀ m, (m / 64) / 2 ^ k % 2 = m / 2 ^ (6 + k) % 2 := by
  intro k hk m
  rcases (show k = 0 ∨ k = 1 ∨ k = 2 ∨ k = 3 by omega) with rfl | rfl | rfl | rfl
  all_goals
    simp only [Nat.reducePow, Nat.reduceAdd]
    omega
theorem aP : ∀ k, k ≤ 3 → ∀ m, m / 2 ^ (6 + k) % 2 = 0 → (m + 2 ^ (6 + k)) % 64 = m % 64 ∧ (m + 2 ^ (6 + k)) / 64 = m / 64 + 2 ^ k := by
  intro k hk m h
  rcases (show k = 0 ∨ k = 1 ∨ k = 2 ∨ k = 3 by omega) with rfl | rfl | rfl | rfl
  all_goals
    simp only [Nat.reducePow, Nat.reduceAdd] at h ⊢
    omega
theorem k_Fair {s : St} {e : Nat × Nat} {k0 : Int32} (h : Fl s e) : ∃ s2, f_X7_readLineOf_J106 (nI 0) k0 s = some ((), s2) ∧ F7 s s2 ∧ Fl s2 e := by
  unfold f_X7_readLineOf_J106
  have h2 : Fl (wI s 189 8 (s.1 189 8 ||| (nI 1 <<< (nI 0 &&& 31)))) e := h.cg (w99 (by decide))
  rw [r_needF h.ne, cl_s, bd_s, r_takesF h2, cl_s, r_numF h2, cl_s, nI_add, if_pos (ib193 (by decide)), bd_s]
  exact ⟨_, rfl, (F7.w9 (by decide) (by decide)).tr F7.w3, h2.cg w39⟩
theorem k_air {s : St} {b : Nat → Nat} {len p : Nat} {d : Dr} (hB : RB s b len) (hp : p ≤ len) (hA : RA s b (tok b len p)) (hD : RD s d) (hm' : d.2.2.2 < 1024) : ∃ s2, f_X7_readLineOf (nI 5) s = some ((), s2) ∧ F7 s s2 ∧ RLn s2 b len (mOnc b len p 0 32 5 4 d) := by
  obtain ⟨nl, ns, g, m⟩ := d
  obtain ⟨d1, d2, d3, d4, d5⟩ := id hD
  dsimp only at d1 d2 d3 d4 d5 hm'
  unfold f_X7_readLineOf mOnc
  dsimp only
  obtain ⟨x, s1, e1, f1, n1⟩ := r_look (lo := 0) (hi := 5) hp hB.1 hA (by decide) (by decide)
  rw [if_neg (by decide), if_pos rfl, e1, cl_s]
  cases hm : mNum b len p 0 5 with
  | inl e =>
    rw [hm] at n1
    obtain ⟨rfl, n2⟩ := n1
    rw [an_l]
    obtain ⟨sa, a1, a2, a3⟩ := k_Fair (k0 := nI 0) n2
    obtain ⟨sb, b1, b2, b3⟩ := k_Fair (k0 := nI 1) n2
    rw [a1, b1]
    split
    · exact ⟨_, rfl, f1.f7.tr a2, a3⟩
    · exact ⟨_, rfl, f1.f7.tr b2, b3⟩
  | inr k =>
    rw [hm] at n1
    obtain ⟨rfl, rfl⟩ := n1
    obtain ⟨v2, cb⟩ := mNum_at hm
    obtain ⟨k1, k2, k3, k4⟩ := mNum_r hp hm
    rw [an_r, d3, bitm k.1 (by omega) _ (by omega), bA k.1 (by omega)]
    unfold f_X7_readLineOf_J106
    by_cases c : m / 2 ^ (0 + k.1) % 2 = 1
    · have hF : Fl (wI (wI s1 189 16 (nI 4)) 189 17 (nI (tok b len p).1)) (4, (tok b len p).1) := fl_w (by decide) (by decide)
      rw [if_pos c, c, if1, r_need0 (hA.f0 cb) hA.2.1, cl_s, bd_s]
      have h2 : Fl (wI (wI (wI s1 189 16 (nI 4)) 189 17 (nI (tok b len p).1)) 189 8 ((wI (wI s1 189 16 (nI 4)) 189 17 (nI (tok b len p).1)).1 189 8 ||| (nI 1 <<< (nI k.1 &&& 31)))) (4, (tok b len p).1) := hF.cg (w99 (by decide))
      rw [r_takesF h2, cl_s, r_numF h2, cl_s, nI_add, if_pos (ib193 (by omega)), bd_s]
      exact ⟨_, rfl, t7_w.f7.tr ((F7.w9 (by decide) (by decide)).tr F7.w3), h2.cg w39⟩
    · have c0 : m / 2 ^ (0 + k.1) % 2 = 0 := by omega
      obtain ⟨q1, q2⟩ := aA k.1 (by omega) m c0
      rw [if_neg c, c0, if0, r_need1, cl_s, bd_s, d3, shl2 _ (by omega), tb_or (by omega) (by omega) (by rw [bA k.1 (by omega)]; exact c0)]
      have F1 : F7 s1 (wI s1 189 8 (nI (m % 64 + 2 ^ k.1))) := F7.w9 (by decide) (by decide)
      obtain ⟨s3, e3, f3, n3⟩ := r_takes (s := wI s1 189 8 (nI (m % 64 + 2 ^ k.1))) (p := k.2) (hB.f7 F1) k2 (by rw [wI_ne (by decide), v2]; exact hA.1) (by rw [wI_ne (by decide)]; exact hA.f0 cb)
      obtain ⟨y, s5, e5, f5, n5⟩ := r_num (p := k.2) (lo := 0) (hi := 4) ((hB.f7 F1).t7 f3) k2 n3 (by decide) (by decide)
      rw [e3, cl_s, e5, cl_s, nI_add, if_pos (ib193 (by omega)), bd_s, nI_clamp (by omega)]
      refine ⟨_, rfl, F1.tr (f3.f7.tr (f5.f7.tr F7.w3)), ?_⟩
      cases hm2 : mNum b len k.2 0 4 with
      | inl e =>
        rw [hm2] at n5
        exact n5.2.cg w39
      | inr v =>
        rw [hm2] at n5
        obtain ⟨rfl, n6⟩ := n5
        rw [an_r]
        have g5 : ∀ j, j < 12 → j ≠ 8 → s5.1 189 j = s1.1 189 j := fun j a1 a2 => by rw [f5.2 j (by omega), f3.2 j (by omega), wI_ne a2]
        have gc : s5.1 189 8 = nI (m % 64 + 2 ^ k.1) := by rw [f5.2 8 (by decide), f3.2 8 (by decide), wI_at]
        refine ⟨n6.cg w39, ?_, ?_, ?_, ?_, fun j hj => ?_⟩
        · dsimp only; rw [wI_1o (by decide), g5 6 (by decide) (by decide)]; exact d1
        · dsimp only; rw [wI_1o (by decide), g5 7 (by decide) (by decide)]; exact d2
        · dsimp only; rw [wI_1o (by decide), q1]; exact gc
        · dsimp only; rw [wI_1o (by decide), q2]; exact (g5 9 (by decide) (by decide)).trans d4
        · dsimp only
          by_cases e1 : j = 32 + k.1
          · rw [e1, wI_at, up_k]
          · rw [wI_ne e1, f5.1 193 (by decide), f3.1 193 (by decide), wI_1o (by decide), up_o e1]; exact d5 j hj
theorem k_Fprice {s : St} {e : Nat × Nat} {k0 : Int32} (h : Fl s e) : ∃ s2, f_X7_readLineOf_J168 (nI 0) k0 s = some ((), s2) ∧ F7 s s2 ∧ Fl s2 e := by
  unfold f_X7_readLineOf_J168
  have h2 : Fl (wI s 189 9 (s.1 189 9 ||| (nI 1 <<< (nI 0 &&& 31)))) e := h.cg (w99 (by decide))
  rw [r_needF h.ne, cl_s, bd_s, r_takesF h2, cl_s, r_numF h2, cl_s, nI_add, if_pos (ib193 (by decide)), bd_s]
  exact ⟨_, rfl, (F7.w9 (by decide) (by decide)).tr F7.w3, h2.cg w39⟩
theorem k_price {s : St} {b : Nat → Nat} {len p : Nat} {d : Dr} (hB : RB s b len) (hp : p ≤ len) (hA : RA s b (tok b len p)) (hD : RD s d) (hm' : d.2.2.2 < 1024) : ∃ s2, f_X7_readLineOf (nI 6) s = some ((), s2) ∧ F7 s s2 ∧ RLn s2 b len (mOnc b len p 6 38 3 9 d) := by
  obtain ⟨nl, ns, g, m⟩ := d
  obtain ⟨d1, d2, d3, d4, d5⟩ := id hD
  dsimp only at d1 d2 d3 d4 d5 hm'
  unfold f_X7_readLineOf mOnc
  dsimp only
  obtain ⟨x, s1, e1, f1, n1⟩ := r_look (lo := 0) (hi := 3) hp hB.1 hA (by decide) (by decide)
  rw [if_neg (by decide), if_neg (by decide), if_pos rfl, e1, cl_s]
  cases hm : mNum b len p 0 3 with
  | inl e =>
    rw [hm] at n1
    obtain ⟨rfl, n2⟩ := n1
    rw [an_l]
    obtain ⟨sa, a1, a2, a3⟩ := k_Fprice (k0 := nI 0) n2
    obtain ⟨sb, b1, b2, b3⟩ := k_Fprice (k0 := nI 1) n2
    rw [a1, b1]
    split
    · exact ⟨_, rfl, f1.f7.tr a2, a3⟩
    · exact ⟨_, rfl, f1.f7.tr b2, b3⟩
  | inr k =>
    rw [hm] at n1
    obtain ⟨rfl, rfl⟩ := n1
    obtain ⟨v2, cb⟩ := mNum_at hm
    obtain ⟨k1, k2, k3, k4⟩ := mNum_r hp hm
    rw [an_r, d4, bitm k.1 (by omega) _ (by omega), bP k.1 (by omega)]
    unfold f_X7_readLineOf_J168
    by_cases c : m / 2 ^ (6 + k.1) % 2 = 1
    · have hF : Fl (wI (wI s1 189 16 (nI 4)) 189 17 (nI (tok b len p).1)) (4, (tok b len p).1) := fl_w (by decide) (by decide)
      rw [if_pos c, c, if1, r_need0 (hA.f0 cb) hA.2.1, cl_s, bd_s]
      have h2 : Fl (wI (wI (wI s1 189 16 (nI 4)) 189 17 (nI (tok b len p).1)) 189 9 ((wI (wI s1 189 16 (nI 4)) 189 17 (nI (tok b len p).1)).1 189 9 ||| (nI 1 <<< (nI k.1 &&& 31)))) (4, (tok b len p).1) := hF.cg (w99 (by decide))
      rw [r_takesF h2, cl_s, r_numF h2, cl_s, nI_add, if_pos (ib193 (by omega)), bd_s]
      exact ⟨_, rfl, t7_w.f7.tr ((F7.w9 (by decide) (by decide)).tr F7.w3), h2.cg w39⟩
    · have c0 : m / 2 ^ (6 + k.1) % 2 = 0 := by omega
      obtain ⟨q1, q2⟩ := aP k.1 (by omega) m c0
      rw [if_neg c, c0, if0, r_need1, cl_s, bd_s, d4, shl2 _ (by omega), tb_or (by omega) (by omega) (by rw [bP k.1 (by omega)]; exact c0)]
      have F1 : F7 s1 (wI s1 189 9 (nI (m / 64 + 2 ^ k.1))) := F7.w9 (by decide) (by decide)
      obtain ⟨s3, e3, f3, n3⟩ := r_takes (s := wI s1 189 9 (nI (m / 64 + 2 ^ k.1))) (p := k.2) (hB.f7 F1) k2 (by rw [wI_ne (by decide), v2]; exact hA.1) (by rw [wI_ne (by decide)]; exact hA.f0 cb)
      obtain ⟨y, s5, e5, f5, n5⟩ := r_num (p := k.2) (lo := 0) (hi := 9) ((hB.f7 F1).t7 f3) k2 n3 (by decide) (by decide)
      rw [e3, cl_s, e5, cl_s, nI_add, if_pos (ib193 (by omega)), bd_s, nI_clamp (by omega)]
      refine ⟨_, rfl, F1.tr (f3.f7.tr (f5.f7.tr F7.w3)), ?_⟩
      cases hm2 : mNum b len k.2 0 9 with
      | inl e =>
        rw [hm2] at n5
        exact n5.2.cg w39
      | inr v =>
        rw [hm2] at n5
        obtain ⟨rfl, n6⟩ := n5
        rw [an_r]
        have g5 : ∀ j, j < 12 → j ≠ 9 → s5.1 189 j = s1.1 189 j := fun j a1 a2 => by rw [f5.2 j (by omega), f3.2 j (by omega), wI_ne a2]
        have gc : s5.1 189 9 = nI (m / 64 + 2 ^ k.1) := by rw [f5.2 9 (by decide), f3.2 9 (by decide), wI_at]
        refine ⟨n6.cg w39, ?_, ?_, ?_, ?_, fun j hj => ?_⟩
        · dsimp only; rw [wI_1o (by decide), g5 6 (by decide) (by decide)]; exact d1
        · dsimp only; rw [wI_1o (by decide), g5 7 (by decide) (by decide)]; exact d2
        · dsimp only; rw [wI_1o (by decide), q1]; exact (g5 8 (by decide) (by decide)).trans d3
        · dsimp only; rw [wI_1o (by decide), q2]; exact gc
        · dsimp only
          by_cases e1 : j = 38 + k.1
          · rw [e1, wI_at, up_k]
          · rw [wI_ne e1, f5.1 193 (by decide), f3.1 193 (by decide), wI_1o (by decide), up_o e1]; exact d5 j hj

/-! the class reads lines -/
theorem R14 {s : St} {nl ns : Nat} {g : Nat → Nat} : RR s 14 nl ns g ↔ (s.1 14 0 = nI nl ∧ s.1 14 1 = nI ns ∧ s.1 14 2 = nI (g 42) ∧
  (∀ l, l < nl → s.1 15 l = nI (g (4 * l)) ∧ s.1 16 l = nI (g (4 * l + 1)) ∧ s.1 17 l = nI (g (4 * l + 2)) ∧ s.1 18 l = nI (g (4 * l + 3))) ∧
  (∀ l, l < 3 → s.1 19 l = nI (g (103 + l)) ∧ s.1 20 l = nI (al g l)) ∧
  (∀ j, j < 60 → s.1 21 j = nI (g (43 + j))) ∧
  (∀ i, i < ns → s.1 22 i = nI (g (12 + 2 * i)) ∧ s.1 23 i = nI (g (13 + 2 * i))) ∧
  (∀ j, j < 12 → s.1 24 j = nI (g (20 + j))) ∧
  (∀ k, k < 6 → s.1 25 k = nI (g (32 + k))) ∧
  (∀ y, y < 4 → s.1 26 y = nI (g (38 + y)))) := Iff.rfl
theorem al_up {g : Nat → Nat} {k v l : Nat} (h : k < 43) : al (up g k v) l = al g l := sm_cong (fun c hc => up_o (by omega))
theorem rr_f3 {s s2 : St} {nl ns : Nat} {g : Nat → Nat} (h : RR s 14 nl ns g) (hF : F3 s s2) : RR s2 14 nl ns g := by
  rw [R14] at h ⊢
  simp (disch := omega) only [hF.1]
  exact h
theorem rr_w33 {s : St} {nl ns i : Nat} {g : Nat → Nat} {x : Int32} (h : RR s 14 nl ns g) : RR (wI s 33 i x) 14 nl ns g := by
  rw [R14] at h ⊢
  simp (disch := omega) only [wI_1o]
  exact h
theorem rr_newlife {s s2 : St} {nl ns : Nat} {g : Nat → Nat} (h : RR s 14 nl ns g) (hn : nl < 3) (hm : ns ≤ 4) {k c v u : Nat} (hF : ∀ j, 19 ≤ j → j ≤ 26 → s2.1 j = s.1 j) (a0 : s2.1 14 0 = nI (nl + 1)) (a1 : s2.1 14 1 = s.1 14 1) (a2 : s2.1 14 2 = s.1 14 2) (h15 : s2.1 15 = upd (s.1 15) nl (nI k)) (h16 : s2.1 16 = upd (s.1 16) nl (nI c)) (h17 : s2.1 17 = upd (s.1 17) nl (nI v)) (h18 : s2.1 18 = upd (s.1 18) nl (nI u)) : RR s2 14 (nl + 1) ns (up (up (up (up g (4 * nl) k) (4 * nl + 1) c) (4 * nl + 2) v) (4 * nl + 3) u) := by
  rw [R14] at h ⊢
  obtain ⟨r0, r1, r2, r3, r4, r5, r6, r7, r8, r9⟩ := h
  refine ⟨a0, a1.trans r1, ?_, fun l hl => ?_, fun l hl => ?_, fun j hj => ?_, fun i hi => ?_, fun j hj => ?_, fun j hj => ?_, fun j hj => ?_⟩
  · simp (disch := omega) only [up_o]; exact a2.trans r2
  · rw [h15, h16, h17, h18]
    by_cases e : l = nl
    · subst e; simp (disch := omega) only [up_o, up_k, upd_k]; exact ⟨trivial, trivial, trivial, trivial⟩
    · simp (disch := omega) only [up_o, upd_o]; exact r3 l (by omega)
  · rw [hF 19 (by omega) (by omega), hF 20 (by omega) (by omega), al_up (by omega), al_up (by omega), al_up (by omega), al_up (by omega)]
    simp (disch := omega) only [up_o]; exact r4 l hl
  · rw [hF 21 (by omega) (by omega)]; simp (disch := omega) only [up_o]; exact r5 j hj
  · rw [hF 22 (by omega) (by omega), hF 23 (by omega) (by omega)]; simp (disch := omega) only [up_o]; exact r6 i hi
  · rw [hF 24 (by omega) (by omega)]; simp (disch := omega) only [up_o]; exact r7 j hj
  · rw [hF 25 (by omega) (by omega)]; simp (disch := omega) only [up_o]; exact r8 j hj
  · rw [hF 26 (by omega) (by omega)]; simp (disch := omega) only [up_o]; exact r9 j hj
theorem rr_newsit {s s2 : St} {nl ns : Nat} {g : Nat → Nat} (h : RR s 14 nl ns g) (hn : nl ≤ 3) (hm : ns < 4) {c v : Nat} (hF : ∀ j, 15 ≤ j → j ≤ 26 → j ≠ 22 → j ≠ 23 → s2.1 j = s.1 j) (a0 : s2.1 14 0 = s.1 14 0) (a1 : s2.1 14 1 = nI (ns + 1)) (a2 : s2.1 14 2 = s.1 14 2) (h22 : s2.1 22 = upd (s.1 22) ns (nI c)) (h23 : s2.1 23 = upd (s.1 23) ns (nI v)) : RR s2 14 nl (ns + 1) (up (up g (12 + 2 * ns) c) (13 + 2 * ns) v) := by
  rw [R14] at h ⊢
  obtain ⟨r0, r1, r2, r3, r4, r5, r6, r7, r8, r9⟩ := h
  refine ⟨a0.trans r0, a1, ?_, fun l hl => ?_, fun l hl => ?_, fun j hj => ?_, fun i hi => ?_, fun j hj => ?_, fun j hj => ?_, fun j hj => ?_⟩
  · simp (disch := omega) only [up_o]; exact a2.trans r2
  · simp (disch := omega) only [hF, up_o]; exact r3 l hl
  · rw [hF 19 (by omega) (by omega) (by omega) (by omega), hF 20 (by omega) (by omega) (by omega) (by omega), al_up (by omega), al_up (by omega)]
    simp (disch := omega) only [up_o]; exact r4 l hl
  · simp (disch := omega) only [hF, up_o]; exact r5 j hj
  · rw [h22, h23]
    by_cases e : i = ns
    · subst e; simp (disch := omega) only [up_o, up_k, upd_k]; exact ⟨trivial, trivial⟩
    · simp (disch := omega) only [up_o, upd_o]; exact r6 i (by omega)
  · simp (disch := omega) only [hF, up_o]; exact r7 j hj
  · simp (disch := omega) only [hF, up_o]; exact r8 j hj
  · simp (disch := omega) only [hF, up_o]; exact r9 j hj
/-- the class is behind p, and its room holds the draft d -/
def CS (s : St) (b : Nat → Nat) (len p : Nat) (d : Dr) : Prop := CB s b len ∧ s.1 33 4 = nI p ∧ s.1 33 2 = nI 0 ∧ s.1 33 7 = nI d.2.2.2 ∧ RR s 14 d.1 d.2.1 d.2.2.1
def CL (s2 : St) (x : Int32) (b : Nat → Nat) (len : Nat) (r : (Nat × Nat) ⊕ (Nat × Dr)) : Prop := Sum.elim (CE s2 x) (fun r => x = nI 1 ∧ CS s2 b len r.1 r.2) r
theorem kd14 : kd 14 = 2 := isR14.1
theorem ln14 : lnI (14 + 1) = 3 ∧ lnI (14 + 2) = 3 ∧ lnI (14 + 3) = 3 ∧ lnI (14 + 4) = 3 ∧ lnI (14 + 8) = 4 ∧ lnI (14 + 9) = 4 := by decide
theorem t_sit {s : St} {b : Nat → Nat} {len q0 p : Nat} {d : Dr} (hS : CS s b len p d) (hD : WD d) (hp : p ≤ len) (h3 : s.1 33 3 = nI q0) : ∃ x s2, f_X5_readSitter 14 s = some (x, s2) ∧ FC s s2 ∧ CL s2 x b len (mSit b len q0 p d) := by
  obtain ⟨nl, ns, g, m⟩ := d
  obtain ⟨hB, h4, h2, h7, hR⟩ := hS
  have hns := hD.2.1
  have hnl := hD.1
  dsimp only at h7 hR hns hnl
  unfold f_X5_readSitter mSit
  dsimp only
  rw [if_pos kd14, bd_s, hR.2.1]
  by_cases c : 4 ≤ ns
  · rw [if_neg (fun e => by rw [nI_ltI (by omega) (by omega)] at e; omega), c_refuse, cl_s, if_pos or01, if_pos c]
    refine ⟨_, _, rfl, (F3.wi (by decide) (by decide)).fc, rfl, ?_, ?_⟩
    · rw [wI_at]
    · rw [wI_ne (by decide)]; exact h3
  · rw [if_pos ((nI_ltI (by omega) (by omega)).mpr (by omega)), if_neg c]
    obtain ⟨x, s1, e1, f1, n1⟩ := c_cell hB hp h4 h2
    rw [rdCell_cl, e1, cl_s]
    cases hm : mCell b len p with
    | inl e =>
      rw [hm] at n1
      obtain ⟨rfl, n2, n3⟩ := n1
      rw [if0, an_l]
      exact ⟨_, _, rfl, f1.fc, rfl, n2, n3⟩
    | inr cc =>
      rw [hm] at n1
      obtain ⟨rfl, n2, n3, v, v1, v2, v3, v4⟩ := n1
      obtain ⟨k1, k2, k3⟩ := mCell_r hp hm
      rw [if1, an_r, v4, b_cellOf v1 v2, cl_s, if_pos (ib4 ln14.2.2.2.2.1 (by omega)), bd_s, nI_clamp (by omega), ← v3]
      have F1 : FC s (wI s1 (14 + 8) ns (nI cc.1)) := f1.fc.tr (FC.wi (by omega) (by omega))
      obtain ⟨y, s3, e3, f3, f4, n4⟩ := c_num (s := wI s1 (14 + 8) ns (nI cc.1)) (p := cc.2) (lo := 0) (hi := 9) (hB.fc F1) k2 (by rw [wI_1o (by decide)]; exact n3) (by rw [wI_1o (by decide)]; exact n2) (by decide) (by decide)
      rw [e3, cl_s]
      cases hm2 : mNum b len cc.2 0 9 with
      | inl e =>
        rw [hm2] at n4
        obtain ⟨rfl, m2, m3⟩ := n4
        rw [if0, an_l]
        exact ⟨_, _, rfl, F1.tr f3.fc, rfl, m2, m3⟩
      | inr u =>
        rw [hm2] at n4
        obtain ⟨rfl, m2, m3, m4⟩ := n4
        rw [if1, an_r, if_pos (ib4 ln14.2.2.2.2.2 (by omega)), bd_s, bd_s, m4]
        have g1 : ∀ k, k ≠ 33 → k ≠ 22 → s3.1 k = s.1 k := fun k a1 a2 => by rw [f3.1 k a1, wI_1o a2, f1.1 k a1]
        have g22 : s3.1 22 = upd (s.1 22) ns (nI cc.1) := by rw [f3.1 22 (by decide), wI_k, f1.1 22 (by decide)]
        have F2 : FC s (wI (wI s3 (14 + 9) ns (nI u.1)) 14 1 ((wI s3 (14 + 9) ns (nI u.1)).1 14 1 + nI 1)) := F1.tr (f3.fc.tr ((FC.wi (by omega) (by omega)).tr (FC.wi (by omega) (by omega))))
        have e14 : (wI s3 (14 + 9) ns (nI u.1)).1 14 1 = nI ns := by rw [wI_1o (by decide), g1 14 (by decide) (by decide)]; exact hR.2.1
        rw [e14, nI_add] at F2 ⊢
        refine ⟨_, _, rfl, F2, rfl, hB.fc F2, ?_, ?_, ?_, ?_⟩
        · rw [wI_1o (by decide), wI_1o (by decide)]; exact m3
        · rw [wI_1o (by decide), wI_1o (by decide)]; exact m2
        · rw [wI_1o (by decide), wI_1o (by decide), f3.2.2, wI_1o (by decide), f1.2.2]; exact h7
        · refine rr_newsit hR hnl (by omega) (fun j a1 a2 a3 a4 => ?_) ?_ ?_ ?_ ?_ ?_
          · rw [wI_1o (by omega), wI_1o (by omega)]; exact g1 j (by omega) a3
          · rw [wI_ne (by decide), wI_1o (by decide), g1 14 (by decide) (by decide)]
          · rw [wI_at]
          · rw [wI_ne (by decide), wI_1o (by decide), g1 14 (by decide) (by decide)]
          · rw [wI_1o (by decide), wI_1o (by decide)]; exact g22
          · rw [wI_1o (by decide)]
            show (wI s3 23 ns (nI u.1)).1 23 = _
            rw [wI_k, g1 23 (by decide) (by decide)]
theorem t_lif {s : St} {b : Nat → Nat} {len q0 p w : Nat} {d : Dr} (hS : CS s b len p d) (hD : WD d) (hp : p ≤ len) (h3 : s.1 33 3 = nI q0) : ∃ x s2, f_X5_readLife 14 (nI w) s = some (x, s2) ∧ FC s s2 ∧ CL s2 x b len (mLif b len q0 p w d) := by
  obtain ⟨nl, ns, g, m⟩ := d
  obtain ⟨hB, h4, h2, h7, hR⟩ := hS
  have hns := hD.2.1
  have hnl := hD.1
  dsimp only at h7 hR hns hnl
  unfold f_X5_readLife mLif
  dsimp only
  rw [if_pos kd14, bd_s, hR.1]
  by_cases c : 3 ≤ nl
  · rw [if_neg (fun e => by rw [nI_ltI (by omega) (by omega)] at e; omega), c_refuse, cl_s, if_pos or01, if_pos c]
    refine ⟨_, _, rfl, (F3.wi (by decide) (by decide)).fc, rfl, ?_, ?_⟩
    · rw [wI_at]
    · rw [wI_ne (by decide)]; exact h3
  · rw [if_pos ((nI_ltI (by omega) (by omega)).mpr (by omega)), if_neg c, if_pos (ib3 ln14.1 (by omega)), bd_s, nI_clamp (by omega)]
    have F0 : FC s (wI s (14 + 1) nl (nI w)) := FC.wi (by omega) (by omega)
    obtain ⟨x, s1, e1, f1, n1⟩ := c_cell (s := wI s (14 + 1) nl (nI w)) (hB.fc F0) hp (by rw [wI_1o (by decide)]; exact h4) (by rw [wI_1o (by decide)]; exact h2)
    rw [rdCell_cl, e1, cl_s]
    cases hm : mCell b len p with
    | inl e =>
      rw [hm] at n1
      obtain ⟨rfl, n2, n3⟩ := n1
      rw [if0, an_l]
      exact ⟨_, _, rfl, F0.tr f1.fc, rfl, n2, n3⟩
    | inr cc =>
      rw [hm] at n1
      obtain ⟨rfl, n2, n3, v, v1, v2, v3, v4⟩ := n1
      obtain ⟨k1, k2, k3⟩ := mCell_r hp hm
      rw [if1, an_r, v4, b_cellOf v1 v2, cl_s, if_pos (ib3 ln14.2.1 (by omega)), bd_s, ← v3]
      have F1 : FC s (wI s1 (14 + 2) nl (nI cc.1)) := F0.tr (f1.fc.tr (FC.wi (by omega) (by omega)))
      obtain ⟨y, s3, e3, f3, f4, n4⟩ := c_num (s := wI s1 (14 + 2) nl (nI cc.1)) (p := cc.2) (lo := 1) (hi := 9) (hB.fc F1) k2 (by rw [wI_1o (by decide)]; exact n3) (by rw [wI_1o (by decide)]; exact n2) (by decide) (by decide)
      rw [e3, cl_s]
      cases hm2 : mNum b len cc.2 1 9 with
      | inl e =>
        rw [hm2] at n4
        obtain ⟨rfl, m2, m3⟩ := n4
        rw [if0, an_l]
        exact ⟨_, _, rfl, F1.tr f3.fc, rfl, m2, m3⟩
      | inr u =>
        rw [hm2] at n4
        obtain ⟨rfl, m2, m3, m4⟩ := n4
        obtain ⟨j1, j2, j3⟩ := mNum_r k2 hm2
        rw [if1, an_r, if_pos (ib3 ln14.2.2.1 (by omega)), bd_s, m4]
        have F2 : FC s (wI s3 (14 + 3) nl (nI u.1)) := F1.tr (f3.fc.tr (FC.wi (by omega) (by omega)))
        obtain ⟨z, s5, e5, f5, f6, n5⟩ := c_num (s := wI s3 (14 + 3) nl (nI u.1)) (p := u.2) (lo := 0) (hi := 99) (hB.fc F2) j2 (by rw [wI_1o (by decide)]; exact m3) (by rw [wI_1o (by decide)]; exact m2) (by decide) (by decide)
        rw [e5, cl_s]
        cases hm3 : mNum b len u.2 0 99 with
        | inl e =>
          rw [hm3] at n5
          obtain ⟨rfl, i2, i3⟩ := n5
          rw [if0, an_l]
          exact ⟨_, _, rfl, F2.tr f5.fc, rfl, i2, i3⟩
        | inr o =>
          rw [hm3] at n5
          obtain ⟨rfl, i2, i3, i4⟩ := n5
          rw [if1, an_r, if_pos (ib3 ln14.2.2.2.1 (by omega)), bd_s, bd_s, i4]
          have g1 : ∀ k, k ≠ 33 → k ≠ 15 → k ≠ 16 → k ≠ 17 → s5.1 k = s.1 k := fun k a1 a2 a3 a4 => by rw [f5.1 k a1, wI_1o a4, f3.1 k a1, wI_1o a3, f1.1 k a1, wI_1o a2]
          have g15 : s5.1 15 = upd (s.1 15) nl (nI w) := by rw [f5.1 15 (by decide), wI_1o (by decide), f3.1 15 (by decide), wI_1o (by decide), f1.1 15 (by decide), wI_k]
          have g16 : s5.1 16 = upd (s.1 16) nl (nI cc.1) := by rw [f5.1 16 (by decide), wI_1o (by decide), f3.1 16 (by decide), wI_k, f1.1 16 (by decide), wI_1o (by decide)]
          have g17 : s5.1 17 = upd (s.1 17) nl (nI u.1) := by rw [f5.1 17 (by decide), wI_k, f3.1 17 (by decide), wI_1o (by decide), f1.1 17 (by decide), wI_1o (by decide)]
          have F3' : FC s (wI (wI s5 (14 + 4) nl (nI o.1)) 14 0 ((wI s5 (14 + 4) nl (nI o.1)).1 14 0 + nI 1)) := F2.tr (f5.fc.tr ((FC.wi (by omega) (by omega)).tr (FC.wi (by omega) (by omega))))
          have e14 : (wI s5 (14 + 4) nl (nI o.1)).1 14 0 = nI nl := by rw [wI_1o (by decide), g1 14 (by decide) (by decide) (by decide) (by decide)]; exact hR.1
          rw [e14, nI_add] at F3' ⊢
          refine ⟨_, _, rfl, F3', rfl, hB.fc F3', ?_, ?_, ?_, ?_⟩
          · rw [wI_1o (by decide), wI_1o (by decide)]; exact i3
          · rw [wI_1o (by decide), wI_1o (by decide)]; exact i2
          · rw [wI_1o (by decide), wI_1o (by decide), f5.2.2, wI_1o (by decide), f3.2.2, wI_1o (by decide), f1.2.2, wI_1o (by decide)]; exact h7
          · refine rr_newlife hR (by omega) hns (fun j a1 a2 => ?_) ?_ ?_ ?_ ?_ ?_ ?_ ?_
            · rw [wI_1o (by omega), wI_1o (by omega)]; exact g1 j (by omega) (by omega) (by omega) (by omega)
            · rw [wI_at]
            · rw [wI_ne (by decide), wI_1o (by decide), g1 14 (by decide) (by decide) (by decide) (by decide)]
            · rw [wI_ne (by decide), wI_1o (by decide), g1 14 (by decide) (by decide) (by decide) (by decide)]
            · rw [wI_1o (by decide), wI_1o (by decide)]; exact g15
            · rw [wI_1o (by decide), wI_1o (by decide)]; exact g16
            · rw [wI_1o (by decide), wI_1o (by decide)]; exact g17
            · rw [wI_1o (by decide)]
              show (wI s5 18 nl (nI o.1)).1 18 = _
              rw [wI_k, g1 18 (by decide) (by decide) (by decide) (by decide)]

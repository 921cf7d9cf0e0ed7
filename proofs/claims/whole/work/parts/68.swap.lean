/-! swap, fan, drift -/
theorem it_s {α : Type} {f : Nat → α → α} {a : α} {k : Nat} : it f a (k + 1) = f k (it f a k) := rfl
def swf (M : Nat → Nat → Nat) (a b : Nat) (q : Int32 × Int32) : Int32 × Int32 := if nI (M a b) ≤ q.1 then q else (nI (M a b), nI 10 * nI a + nI b)
def swi (M : Nat → Nat → Nat) (ns a : Nat) (q : Int32 × Int32) : Int32 × Int32 := it (fun j => swf M a (a + 1 + j)) q (ns - (a + 1))
def pfin (w : Nat) (q : Int32 × Int32) : Int32 := if q.2 = -4 then -4 else if w = 0 then q.2 else q.1
/-- the state with two SITTERS' CELLS changed -/
def swg (g : Nat → Nat) (a b : Nat) : Nat → Nat := up (up g (12 + 2 * a) (g (12 + 2 * b))) (12 + 2 * b) (g (12 + 2 * a))
theorem swg_WF {nl ns T : Nat} {g : Nat → Nat} (h : WF nl ns T g) {a b : Nat} (ha : a < ns) (hb : b < ns) : WF nl ns T (swg g a b) := wf_place (wf_place h ha (h.2.2.2.2.1 b hb).1) hb (h.2.2.2.2.1 a ha).1
theorem swg_42 {g : Nat → Nat} {a b : Nat} (ha : a < 4) (hb : b < 4) : swg g a b 42 = g 42 := by
  unfold swg
  rw [up_o (by omega), up_o (by omega)]
theorem c_swap {n nl ns : Nat} {s : St} {g : Nat → Nat} (hG : Gd n s nl ns g) {s1 : St} (hS : Sm s s1 14 13) {a b k : Nat} (ha : a < ns) (hb : b < ns) (hk : k ≤ 60) : ∃ s2, f_X6_heldIfSwapped (nI a) (nI b) (nI k) s1 = some (nI (sm (hd (stn nl ns (swg g a b) k)) 3), s2) ∧ Sm s s2 14 13 := by
  have hnl := hG.2.1.1
  have hns := hG.2.1.2.1
  have h42 := hG.2.2.1
  have hw := swg_WF hG.2.1 ha hb
  have h4 := swg_42 (g := g) (a := a) (b := b) (by omega) (by omega)
  obtain ⟨s2, a1, a2, a3⟩ := c_copy hG hS
  have e9 : s2.1 9 = s.1 9 := a3.1 9 (by omega)
  have p := (R1 hG.1).2.2.2.2.2.2.1
  have hR : RR (wI (wI s2 22 a (nI (g (12 + 2 * b)))) 22 b (nI (g (12 + 2 * a)))) 14 nl ns (swg g a b) := rr_place (rr_place a2 hnl hns ha) hnl hns hb
  obtain ⟨s3, b1, b2, b3⟩ := b_goOn (n := k) isR14 hR hw (by omega) (by omega)
  refine ⟨s3, ?_, ((a3.tr (Sm.wi (by omega) (by omega))).tr (Sm.wi (by omega) (by omega))).tr b3⟩
  unfold f_X6_heldIfSwapped
  rw [a1, cl_s, if_pos (ib4 (by decide) (by omega)), if_pos (ib4 (by decide) (by omega)), bd_s, if_pos (ib4 (by decide) (by omega)), if_pos (ib4 (by decide) (by omega)), bd_s, nI_clamp (by omega), nI_clamp (by omega), wI_1o (by decide), e9, (p a ha).1, (p b hb).1, b1, cl_s, b_hA isR14 b2 (stn_WF hw (k := k) (by omega)).1, cl_s]
theorem op_swap : Op2 f_X6_swap f_X7_swap Good := by
  intro n s a b hn hG
  obtain ⟨-, nl, ns, g, hG⟩ := hG
  have hnl := hG.2.1.1
  have hns := hG.2.1.2.1
  have h42 := hG.2.2.1
  rcases rng a (60 + 1) with ⟨k, hk, hk2, rfl⟩ | ha
  · rcases rng b (1 + 1) with ⟨w, hw, hw2, rfl⟩ | hb
    · obtain ⟨M, eM⟩ : ∃ M : Nat → Nat → Nat, ∀ a b, M a b = sm (hd (stn nl ns (swg g a b) k)) 3 := ⟨_, fun _ _ => rfl⟩
      refine qy (pfin w (it (swi M ns) (nI (sm (hd (stn nl ns g k)) 3), -4) ns)) hn hG ?_ (fun s' h' => ?_)
      · obtain ⟨s1, a1, a2, a3⟩ := c_copy hG Sm.rf
        obtain ⟨s2, b1, b2, b3⟩ := b_goOn (n := k) isR14 a2 hG.2.1 (by omega) (by omega)
        obtain ⟨t, h1, h2⟩ := lp_inv (body := fun q : Int32 × Int32 × Int32 × St => f_X6_swap_L56 (nI k) (nI w) q.1 q.2.1 q.2.2.1 q.2.2.2) (fun j q => (q.1, q.2.1) = it (swi M ns) (nI (sm (hd (stn nl ns g k)) 3), -4) j ∧ q.2.2.1 = nI j ∧ Sm s q.2.2.2 14 13) (fun t => t.1 = pfin w (it (swi M ns) (nI (sm (hd (stn nl ns g k)) 3), -4) ns) ∧ Sm s t.2 14 13) ns (fun j q hj hq => by
          obtain ⟨x, y, z, s3⟩ := q
          obtain ⟨q1, q2, q3⟩ := hq
          dsimp only at q1 q2 q3 ⊢
          subst q2
          obtain ⟨t, j1, j2⟩ := lp_inv (body := fun q : Int32 × Int32 × Int32 × St => f_X6_swap_L74 (nI k) (nI w) (nI j) q.1 q.2.1 q.2.2.1 q.2.2.2) (fun i q => (q.1, q.2.1) = it (fun i => swf M j (j + 1 + i)) (x, y) i ∧ q.2.2.1 = nI (j + 1 + i) ∧ Sm s q.2.2.2 14 13) (fun t => ∃ q : Int32 × Int32 × Int32 × St, t = Sum.inl q ∧ (q.1, q.2.1) = swi M ns j (x, y) ∧ q.2.2.1 = nI (j + 1) ∧ Sm s q.2.2.2 14 13) (ns - (j + 1)) (fun i q hi hq => by
            obtain ⟨x1, y1, z1, s4⟩ := q
            obtain ⟨p1, p2, p3⟩ := hq
            dsimp only at p1 p2 p3 ⊢
            subst p2
            obtain ⟨s5, c1, c2⟩ := c_swap hG p3 (a := j) (b := j + 1 + i) hj (by omega) (show k ≤ 60 by omega)
            rw [← eM] at c1
            unfold f_X6_swap_L74
            rw [p3.1 1 (by omega), (R1 hG.1).2.1, if_neg (nI_ge (by omega) (by omega)), c1, cl_s, bd_s, nI_add (j + 1 + i) 1]
            by_cases h0 : nI (M j (j + 1 + i)) ≤ x1
            · rw [if_pos h0]
              refine ⟨_, rfl, ?_, rfl, c2⟩
              rw [it_s, ← p1]
              unfold swf
              rw [if_pos h0]
            · rw [if_neg h0]
              refine ⟨_, rfl, ?_, rfl, c2⟩
              rw [it_s, ← p1]
              unfold swf
              rw [if_neg h0]) (fun q hq => by
            obtain ⟨x1, y1, z1, s4⟩ := q
            obtain ⟨p1, p2, p3⟩ := hq
            dsimp only at p1 p2 p3 ⊢
            subst p2
            unfold f_X6_swap_L74
            rw [p3.1 1 (by omega), (R1 hG.1).2.1, if_pos (nI_le (by omega) (by omega)), nI_add]
            exact ⟨_, rfl, (x1, y1, nI (j + 1), s4), rfl, p1, rfl, p3⟩) (q := (x, y, nI (j + 1), s3)) ⟨rfl, rfl, q3⟩ (Fu_lt (by omega))
          obtain ⟨q, rfl, p1, p2, p3⟩ := j2
          unfold f_X6_swap_L56
          rw [q3.1 1 (by omega), (R1 hG.1).2.1, if_neg (nI_ge hj (by omega)), bd_s, nI_add, j1]
          refine ⟨q, rfl, ?_, p2, p3⟩
          rw [it_s, ← q1, p1]) (fun q hq => by
          obtain ⟨x, y, z, s3⟩ := q
          obtain ⟨q1, q2, q3⟩ := hq
          dsimp only at q1 q2 q3 ⊢
          subst q2
          unfold f_X6_swap_L56
          rw [q3.1 1 (by omega), (R1 hG.1).2.1, if_pos (nI_le (Nat.le_refl _) (by omega)), ← q1]
          unfold pfin
          dsimp only
          by_cases h4 : y = -4
          · rw [if_pos h4, if_pos h4]; exact ⟨_, rfl, h4, q3⟩
          · rw [if_neg h4, if_neg h4]
            by_cases hw0 : w = 0
            · subst hw0
              rw [if0]
              exact ⟨_, rfl, rfl, q3⟩
            · rw [if_pos (fun q => hw0 ((nI_e0 hw2).mp q)), if_neg hw0]
              exact ⟨_, rfl, rfl, q3⟩) (q := (nI (sm (hd (stn nl ns g k)) 3), -4, nI 0, s2)) ⟨rfl, rfl, a3.tr b3⟩ (Fu_lt (by omega))
        obtain ⟨x, s3⟩ := t
        obtain ⟨h3a, h3⟩ := h2
        dsimp only at h3a
        refine ⟨s3, ?_, h3.qf⟩
        unfold f_X6_swap
        rw [g_win (by omega) (by decide), cl_s, if1', g_win (by omega) (by decide), cl_s, if1, a1, cl_s, b1, cl_s, b_hA isR14 b2 (stn_WF hG.2.1 (k := k) (by omega)).1, cl_s, h1, h3a]
      · obtain ⟨s1, a1, a2, a3⟩ := r_start h' Sn.rf
        obtain ⟨s2, b1, b2, b3⟩ := b7_stepsGo (n := k) a2 h'.2.1 (by omega) (by omega)
        obtain ⟨t, h1, h2⟩ := lp_inv (body := fun q : Int32 × Int32 × Int32 × St => f_X7_swap_L37 (nI k) (nI w) q.1 q.2.1 q.2.2.1 q.2.2.2) (fun j q => (q.1, q.2.1) = it (swi M ns) (nI (sm (hd (stn nl ns g k)) 3), -4) j ∧ q.2.2.1 = nI j ∧ Sn s' q.2.2.2) (fun t => t.1 = pfin w (it (swi M ns) (nI (sm (hd (stn nl ns g k)) 3), -4) ns) ∧ Sn s' t.2) ns (fun j q hj hq => by
          obtain ⟨x, y, z, s3⟩ := q
          obtain ⟨q1, q2, q3⟩ := hq
          dsimp only at q1 q2 q3 ⊢
          subst q2
          obtain ⟨t, j1, j2⟩ := lp_inv (body := fun q : Int32 × Int32 × Int32 × St => f_X7_swap_L52 (nI k) (nI w) (nI j) q.1 q.2.1 q.2.2.1 q.2.2.2) (fun i q => (q.1, q.2.1) = it (fun i => swf M j (j + 1 + i)) (x, y) i ∧ q.2.2.1 = nI (j + 1 + i) ∧ Sn s' q.2.2.2) (fun t => ∃ q : Int32 × Int32 × Int32 × St, t = Sum.inl q ∧ (q.1, q.2.1) = swi M ns j (x, y) ∧ q.2.2.1 = nI (j + 1) ∧ Sn s' q.2.2.2) (ns - (j + 1)) (fun i q hi hq => by
            obtain ⟨x1, y1, z1, s4⟩ := q
            obtain ⟨p1, p2, p3⟩ := hq
            dsimp only at p1 p2 p3 ⊢
            subst p2
            have hwf := swg_WF hG.2.1 (a := j) (b := j + 1 + i) hj (by omega)
            have h4 := swg_42 (g := g) (a := j) (b := j + 1 + i) (by omega) (by omega)
            obtain ⟨s5, c1, c2, c3⟩ := r_start h' p3
            have e190 : s5.1 190 = s'.1 190 := c3.1 190 (by decide) (by decide)
            have hN : NR (wI (wI s5 191 (12 + 2 * j) (nI (g (12 + 2 * (j + 1 + i))))) 191 (12 + 2 * (j + 1 + i)) (nI (g (12 + 2 * j)))) nl ns (swg g j (j + 1 + i)) := c2.wi.wi
            obtain ⟨s6, d1, d2, d3⟩ := b7_stepsGo (n := k) hN hwf (by omega) (by omega)
            have g1 := h'.2.2.2.2.2.2.2.1
            unfold f_X7_swap_L52 f_X7_swap_J143
            rw [p3.1 189 (by decide) (by decide), h'.2.2.2.2.2.2.1, if_neg (nI_ge (by omega) (by omega)), c1, cl_s, pk_mul 2 (j + 1 + i), pk_mul 2 j, nI_add 12 (2 * (j + 1 + i)), nI_add 12 (2 * j), if_pos (ib190 (by omega)), if_pos (ib191 (by omega)), bd_s, if_pos (ib190 (by omega)), if_pos (ib191 (by omega)), bd_s, nI_clamp (by omega), nI_clamp (by omega), wI_1o (by decide), e190, g1 _ (by omega), g1 _ (by omega), d1, cl_s, b7_allHad d2, cl_s, ← eM, nI_add (j + 1 + i) 1]
            by_cases h0 : nI (M j (j + 1 + i)) ≤ x1
            · rw [if_pos h0, if_pos h0]
              refine ⟨_, rfl, ?_, rfl, ((c3.tr Sn.wi).tr Sn.wi).tr d3⟩
              rw [it_s, ← p1]
              unfold swf
              rw [if_pos h0]
            · rw [if_neg h0, if_neg h0]
              refine ⟨_, rfl, ?_, rfl, ((c3.tr Sn.wi).tr Sn.wi).tr d3⟩
              rw [it_s, ← p1]
              unfold swf
              rw [if_neg h0]) (fun q hq => by
            obtain ⟨x1, y1, z1, s4⟩ := q
            obtain ⟨p1, p2, p3⟩ := hq
            dsimp only at p1 p2 p3 ⊢
            subst p2
            unfold f_X7_swap_L52
            rw [p3.1 189 (by decide) (by decide), h'.2.2.2.2.2.2.1, if_pos (nI_le (by omega) (by omega)), nI_add]
            exact ⟨_, rfl, (x1, y1, nI (j + 1), s4), rfl, p1, rfl, p3⟩) (q := (x, y, nI (j + 1), s3)) ⟨rfl, rfl, q3⟩ (Fu_lt (by omega))
          obtain ⟨q, rfl, p1, p2, p3⟩ := j2
          unfold f_X7_swap_L37
          rw [q3.1 189 (by decide) (by decide), h'.2.2.2.2.2.2.1, if_neg (nI_ge hj (by omega)), bd_s, nI_add, j1]
          refine ⟨q, rfl, ?_, p2, p3⟩
          rw [it_s, ← q1, p1]) (fun q hq => by
          obtain ⟨x, y, z, s3⟩ := q
          obtain ⟨q1, q2, q3⟩ := hq
          dsimp only at q1 q2 q3 ⊢
          subst q2
          unfold f_X7_swap_L37
          rw [q3.1 189 (by decide) (by decide), h'.2.2.2.2.2.2.1, if_pos (nI_le (Nat.le_refl _) (by omega)), ← q1]
          unfold pfin
          dsimp only
          by_cases h4 : y = -4
          · rw [if_neg (fun q => q h4), if_pos h4]; exact ⟨_, rfl, rfl, q3⟩
          · rw [if_pos h4, if_neg h4]
            by_cases hw0 : w = 0
            · subst hw0
              rw [if0]
              exact ⟨_, rfl, rfl, q3⟩
            · rw [if_pos (fun q => hw0 ((nI_e0 hw2).mp q)), if_neg hw0]
              exact ⟨_, rfl, rfl, q3⟩) (q := (nI (sm (hd (stn nl ns g k)) 3), -4, nI 0, s2)) ⟨rfl, rfl, a3.tr b3⟩ (Fu_lt (by omega))
        obtain ⟨x, s3⟩ := t
        obtain ⟨h3a, h3⟩ := h2
        dsimp only at h3a
        refine ⟨s3, ?_, h3.qf⟩
        unfold f_X7_swap
        rw [g7_far (by omega), cl_s, if1', g7_part (by omega), cl_s, if1, a1, cl_s, b1, cl_s, b7_allHad b2, cl_s, h1, h3a]
    · refine qs (-1) hn hG ?_ ?_
      · unfold f_X6_swap
        rw [g_win (by omega) (by decide), cl_s, if1', g_win_n hb (by decide), cl_s, if0]
      · unfold f_X7_swap
        rw [g7_far (by omega), cl_s, if1', g7_part_n hb, cl_s, if0]
  · refine qs (-1) hn hG ?_ ?_
    · unfold f_X6_swap
      rw [g_win_n ha (by decide), cl_s, if0']
    · unfold f_X7_swap
      rw [g7_far_n ha, cl_s, if0']
def fnf (M : Nat → Nat → Nat) (W : Nat → Nat) (k w : Nat) (q : Nat × Int32) : Nat × Int32 := if w = W k then q else if M k w ≤ q.1 then q else (M k w, nI 10 * nI k + nI w)
theorem fnf_b {M : Nat → Nat → Nat} {W : Nat → Nat} {k w m0 : Nat} {q : Nat × Int32} (hM : M k w ≤ 60000) (h : m0 ≤ q.1 ∧ q.1 ≤ 60000) : m0 ≤ (fnf M W k w q).1 ∧ (fnf M W k w q).1 ≤ 60000 := by
  unfold fnf
  by_cases h1 : w = W k
  · rw [if_pos h1]; exact h
  · rw [if_neg h1]
    by_cases h2 : M k w ≤ q.1
    · rw [if_pos h2]; exact h
    · rw [if_neg h2]; dsimp only; omega
def fini (M : Nat → Nat → Nat) (W : Nat → Nat) (k : Nat) (q : Nat × Int32) : Nat × Int32 := it (fun w => fnf M W k w) q 5
def ffin (w : Nat) (q : Nat × Int32) : Int32 := if q.2 = -4 then -4 else if w = 0 then q.2 else nI q.1
theorem op_fan : Op3 f_X6_fan f_X7_fan Good := by
  intro n s a b c hn hG
  obtain ⟨-, nl, ns, g, hG⟩ := hG
  have hnl := hG.2.1.1
  have hns := hG.2.1.2.1
  have h42 := hG.2.2.1
  rcases rng a ns with ⟨i, hi, hi2, rfl⟩ | ha
  · rcases rng b (60 + 1) with ⟨k, hk, hk2, rfl⟩ | hbb
    · rcases rng c (1 + 1) with ⟨w, hw, hw2, rfl⟩ | hc
      · have wf1 : ∀ x y, x < 6 → y < 5 → WF nl ns (99 * (n + 1)) (up g (32 + x) y) ∧ up g (32 + x) y 42 ≤ 999 := fun x y hx hy => ⟨wf_way hG.2.1 hx (by omega), by rw [up_o (by omega)]; exact h42⟩
        obtain ⟨M, eM⟩ : ∃ M : Nat → Nat → Nat, ∀ x y, M x y = hb (stn nl ns (up g (32 + x) y) k) i := ⟨_, fun _ _ => rfl⟩
        obtain ⟨W, eW⟩ : ∃ W : Nat → Nat, ∀ x, W x = g (32 + x) := ⟨_, fun _ => rfl⟩
        have hM : ∀ x y, x < 6 → y < 5 → M x y ≤ 60000 := fun x y hx hy => by rw [eM]; exact hb_le (stn_WF (wf1 x y hx hy).1 (k := k) (by have := (wf1 x y hx hy).2; omega)).1 (by omega)
        obtain ⟨M0, eM0⟩ : ∃ M0, M0 = hb (stn nl ns g k) i := ⟨_, rfl⟩
        have hM0 : M0 ≤ 60000 := by rw [eM0]; exact hb_le (stn_WF hG.2.1 (k := k) (by omega)).1 (by omega)
        refine qy (ffin w (it (fini M W) (M0, -4) 6)) hn hG ?_ (fun s' h' => ?_)
        · obtain ⟨s1, a1, a2, a3⟩ := c_copy hG Sm.rf
          obtain ⟨s2, b1, b2, b3⟩ := b_goOn (n := k) isR14 a2 hG.2.1 (by omega) (by omega)
          obtain ⟨t, h1, h2⟩ := lp_inv (body := fun q : Int32 × Int32 × Int32 × St => f_X6_fan_L69 (nI i) (nI k) (nI w) q.1 q.2.1 q.2.2.1 q.2.2.2) (fun j q => ∃ m, (m, q.2.1) = it (fini M W) (M0, -4) j ∧ m ≤ 60000 ∧ q.1 = nI m ∧ q.2.2.1 = nI j ∧ Sm s q.2.2.2 14 13) (fun t => t.1 = ffin w (it (fini M W) (M0, -4) 6) ∧ Sm s t.2 14 13) 6 (fun j q hj hq => by
            obtain ⟨x, y, z, s3⟩ := q
            obtain ⟨m, q1, qm, q0, q2, q3⟩ := hq
            dsimp only at q1 q0 q2 q3 ⊢
            subst q2; subst q0
            obtain ⟨t, j1, j2⟩ := lp_inv (body := fun q : Int32 × Int32 × Int32 × St => f_X6_fan_L79 (nI i) (nI k) (nI w) (nI j) q.1 q.2.1 q.2.2.1 q.2.2.2) (fun v q => ∃ m1, (m1, q.2.1) = it (fun w => fnf M W j w) (m, y) v ∧ m1 ≤ 60000 ∧ q.1 = nI m1 ∧ q.2.2.1 = nI v ∧ Sm s q.2.2.2 14 13) (fun t => ∃ q : Int32 × Int32 × Int32 × St, t = Sum.inl q ∧ ∃ m1, (m1, q.2.1) = fini M W j (m, y) ∧ m1 ≤ 60000 ∧ q.1 = nI m1 ∧ q.2.2.1 = nI (j + 1) ∧ Sm s q.2.2.2 14 13) 5 (fun v q hv hq => by
              obtain ⟨x1, y1, z1, s4⟩ := q
              obtain ⟨m1, p1, pm, p0, p2, p3⟩ := hq
              dsimp only at p1 p0 p2 p3 ⊢
              subst p2; subst p0
              obtain ⟨w1, w2⟩ := wf1 j v hj hv
              have hMj := hM j v hj hv
              have hwj := hG.2.1.2.2.2.2.2.1 j hj
              obtain ⟨s5, c1, c2, c3⟩ := c_copy hG p3
              have hR : RR (wI s5 25 j (nI v)) 14 nl ns (up g (32 + j) v) := rr_way c2 hnl hns hj
              obtain ⟨s6, d1, d2, d3⟩ := b_goOn (n := k) isR14 hR w1 (by omega) (by omega)
              have hbl : f_X6_heldIfBlown (nI i) (nI j) (nI v) (nI k) s4 = some (nI (M j v), s6) := by
                rw [eM]
                unfold f_X6_heldIfBlown
                rw [c1, cl_s, if_pos (ib6 (by decide) hj), bd_s, nI_clamp (by omega), d1, cl_s, b_hb isR14 d2 (stn_WF w1 (k := k) (by omega)).1 (by omega), cl_s]
              unfold f_X6_fan_L79 f_X6_fan_J114
              rw [if_neg (nI_nlt (by omega) (by omega)), if_pos (ib6 (by decide) hj), nI_clamp (by omega), p3.1 12 (by omega), (R1 hG.1).2.2.2.2.2.2.2.2.1 j hj, hbl, cl_s, bd_s, bd_s, nI_add v 1]
              by_cases he : v = g (32 + j)
              · rw [if_neg (fun q => q (by rw [← he])), if_pos (show (-1 : Int32) ≤ nI m1 by rw [Int32.le_iff_toInt_le, nI_toInt (by omega), show (-1 : Int32).toInt = -1 by decide]; omega)]
                refine ⟨_, rfl, m1, ?_, pm, rfl, rfl, p3⟩
                rw [it_s, ← p1]
                unfold fnf
                rw [if_pos (by rw [eW]; exact he)]
              · rw [if_pos (fun q => he ((nI_eq (by omega) (by omega)).mp q))]
                by_cases h0 : M j v ≤ m1
                · rw [if_pos (nI_le h0 (by omega))]
                  refine ⟨_, rfl, m1, ?_, pm, rfl, rfl, (c3.tr (Sm.wi (by omega) (by omega))).tr d3⟩
                  rw [it_s, ← p1]
                  unfold fnf
                  rw [if_neg (by rw [eW]; exact he), if_pos h0]
                · rw [if_neg (nI_ge (by omega) (by omega))]
                  refine ⟨_, rfl, _, ?_, hMj, rfl, rfl, (c3.tr (Sm.wi (by omega) (by omega))).tr d3⟩
                  rw [it_s, ← p1]
                  unfold fnf
                  rw [if_neg (by rw [eW]; exact he), if_neg h0]) (fun q hq => by
              obtain ⟨x1, y1, z1, s4⟩ := q
              obtain ⟨m1, p1, pm, p0, p2, p3⟩ := hq
              dsimp only at p1 p0 p2 p3 ⊢
              subst p2; subst p0
              unfold f_X6_fan_L79
              rw [if_pos (by decide), nI_add]
              exact ⟨_, rfl, (nI m1, y1, nI (j + 1), s4), rfl, m1, p1, pm, rfl, rfl, p3⟩) (q := (nI m, y, nI 0, s3)) ⟨m, rfl, qm, rfl, rfl, q3⟩ (Fu_lt (by omega))
            obtain ⟨q, rfl, m1, p1, pm, p0, p2, p3⟩ := j2
            unfold f_X6_fan_L69
            rw [if_neg (nI_ge hj (by decide)), j1]
            refine ⟨q, rfl, m1, ?_, pm, p0, p2, p3⟩
            rw [it_s, ← q1, p1]) (fun q hq => by
            obtain ⟨x, y, z, s3⟩ := q
            obtain ⟨m, q1, qm, q0, q2, q3⟩ := hq
            dsimp only at q1 q0 q2 q3 ⊢
            subst q2; subst q0
            unfold f_X6_fan_L69
            rw [if_pos (by decide), ← q1]
            unfold ffin
            dsimp only
            by_cases h4 : y = -4
            · rw [if_pos h4, if_pos h4]; exact ⟨_, rfl, h4, q3⟩
            · rw [if_neg h4, if_neg h4]
              by_cases hw0 : w = 0
              · subst hw0
                rw [if0]
                exact ⟨_, rfl, rfl, q3⟩
              · rw [if_pos (fun q => hw0 ((nI_e0 hw2).mp q)), if_neg hw0]
                exact ⟨_, rfl, rfl, q3⟩) (q := (nI (M0), -4, nI 0, s2)) ⟨_, rfl, hM0, rfl, rfl, a3.tr b3⟩ (Fu_lt (by omega))
          obtain ⟨x, s3⟩ := t
          obtain ⟨h3a, h3⟩ := h2
          dsimp only at h3a
          refine ⟨s3, ?_, h3.qf⟩
          unfold f_X6_fan
          rw [g_sit isR1 hG.1 hns hi, cl_s, if1', g_win (by omega) (by decide), cl_s, if1', g_win (by omega) (by decide), cl_s, if1, a1, cl_s, b1, cl_s, b_hb isR14 b2 (stn_WF hG.2.1 (k := k) (by omega)).1 (by omega), cl_s, ← eM0, h1, h3a]
        · obtain ⟨s1, a1, a2, a3⟩ := r_start h' Sn.rf
          obtain ⟨s2, b1, b2, b3⟩ := b7_stepsGo (n := k) a2 h'.2.1 (by omega) (by omega)
          obtain ⟨t, h1, h2⟩ := lp_inv (body := fun q : Int32 × Int32 × Int32 × St => f_X7_fan_L47 (nI i) (nI k) (nI w) q.1 q.2.1 q.2.2.1 q.2.2.2) (fun j q => ∃ m, (m, q.2.1) = it (fini M W) (M0, -4) j ∧ (M0 ≤ m ∧ m ≤ 60000) ∧ q.1 = nI m ∧ q.2.2.1 = nI j ∧ Sn s' q.2.2.2) (fun t => t.1 = ffin w (it (fini M W) (M0, -4) 6) ∧ Sn s' t.2) 6 (fun j q hj hq => by
            obtain ⟨x, y, z, s3⟩ := q
            obtain ⟨m, q1, qm, q0, q2, q3⟩ := hq
            dsimp only at q1 q0 q2 q3 ⊢
            subst q2; subst q0
            obtain ⟨t, j1, j2⟩ := lp_inv (body := fun q : Int32 × Int32 × Int32 × St => f_X7_fan_L57 (nI i) (nI k) (nI w) (nI j) q.1 q.2.1 q.2.2.1 q.2.2.2) (fun v q => ∃ m1, (m1, q.2.1) = it (fun w => fnf M W j w) (m, y) v ∧ (M0 ≤ m1 ∧ m1 ≤ 60000) ∧ q.1 = nI m1 ∧ q.2.2.1 = nI v ∧ Sn s' q.2.2.2) (fun t => ∃ q : Int32 × Int32 × Int32 × St, t = Sum.inl q ∧ ∃ m1, (m1, q.2.1) = fini M W j (m, y) ∧ (M0 ≤ m1 ∧ m1 ≤ 60000) ∧ q.1 = nI m1 ∧ q.2.2.1 = nI (j + 1) ∧ Sn s' q.2.2.2) 5 (fun v q hv hq => by
              obtain ⟨x1, y1, z1, s4⟩ := q
              obtain ⟨m1, p1, pm, p0, p2, p3⟩ := hq
              dsimp only at p1 p0 p2 p3 ⊢
              subst p2; subst p0
              obtain ⟨w1, w2⟩ := wf1 j v hj hv
              have hMj := hM j v hj hv
              obtain ⟨s5, c1, c2, c3⟩ := r_start h' p3
              obtain ⟨s6, d1, d2, d3⟩ := b7_stepsGo (n := k) (c2.wi (k := 32 + j) (v := v)) w1 (by omega) (by omega)
              unfold f_X7_fan_L57 f_X7_fan_J111
              rw [if_neg (nI_nlt (by omega) (by omega)), c1, cl_s, nI_add 32 j, if_pos (ib191 (by omega)), bd_s, nI_clamp (by omega), d1, cl_s, b7_hb d2 (by omega), cl_s, ← eM, nI_add v 1]
              by_cases he : v = g (32 + j)
              · have e0 : up g (32 + j) v = g := by rw [he, up_same]
                have e1 : M j v = M0 := by rw [eM, e0, eM0]
                rw [e1, if_pos (nI_le pm.1 (by omega)), if_pos (nI_le pm.1 (by omega))]
                refine ⟨_, rfl, m1, ?_, pm, rfl, rfl, (c3.tr Sn.wi).tr d3⟩
                rw [it_s, ← p1]
                unfold fnf
                rw [if_pos (by rw [eW]; exact he)]
              · by_cases h0 : M j v ≤ m1
                · rw [if_pos (nI_le h0 (by omega)), if_pos (nI_le h0 (by omega))]
                  refine ⟨_, rfl, m1, ?_, pm, rfl, rfl, (c3.tr Sn.wi).tr d3⟩
                  rw [it_s, ← p1]
                  unfold fnf
                  rw [if_neg (by rw [eW]; exact he), if_pos h0]
                · rw [if_neg (nI_ge (by omega) (by omega)), if_neg (nI_ge (by omega) (by omega))]
                  refine ⟨_, rfl, _, ?_, ⟨by omega, hMj⟩, rfl, rfl, (c3.tr Sn.wi).tr d3⟩
                  rw [it_s, ← p1]
                  unfold fnf
                  rw [if_neg (by rw [eW]; exact he), if_neg h0]) (fun q hq => by
              obtain ⟨x1, y1, z1, s4⟩ := q
              obtain ⟨m1, p1, pm, p0, p2, p3⟩ := hq
              dsimp only at p1 p0 p2 p3 ⊢
              subst p2; subst p0
              unfold f_X7_fan_L57
              rw [if_pos (by decide), nI_add]
              exact ⟨_, rfl, (nI m1, y1, nI (j + 1), s4), rfl, m1, p1, pm, rfl, rfl, p3⟩) (q := (nI m, y, nI 0, s3)) ⟨m, rfl, qm, rfl, rfl, q3⟩ (Fu_lt (by omega))
            obtain ⟨q, rfl, m1, p1, pm, p0, p2, p3⟩ := j2
            unfold f_X7_fan_L47
            rw [if_neg (nI_ge hj (by decide)), j1]
            refine ⟨q, rfl, m1, ?_, pm, p0, p2, p3⟩
            rw [it_s, ← q1, p1]) (fun q hq => by
            obtain ⟨x, y, z, s3⟩ := q
            obtain ⟨m, q1, qm, q0, q2, q3⟩ := hq
            dsimp only at q1 q0 q2 q3 ⊢
            subst q2; subst q0
            unfold f_X7_fan_L47
            rw [if_pos (by decide), ← q1]
            unfold ffin
            dsimp only
            by_cases h4 : y = -4
            · rw [if_neg (fun q => q h4), if_pos h4]; exact ⟨_, rfl, rfl, q3⟩
            · rw [if_pos h4, if_neg h4]
              by_cases hw0 : w = 0
              · subst hw0
                rw [if0]
                exact ⟨_, rfl, rfl, q3⟩
              · rw [if_pos (fun q => hw0 ((nI_e0 hw2).mp q)), if_neg hw0]
                exact ⟨_, rfl, rfl, q3⟩) (q := (nI (M0), -4, nI 0, s2)) ⟨_, rfl, ⟨Nat.le_refl _, hM0⟩, rfl, rfl, a3.tr b3⟩ (Fu_lt (by omega))
          obtain ⟨x, s3⟩ := t
          obtain ⟨h3a, h3⟩ := h2
          dsimp only at h3a
          refine ⟨s3, ?_, h3.qf⟩
          unfold f_X7_fan
          rw [g7_sit h'.2.2.2.2.2.2.1 hns hi, cl_s, if1', g7_far (by omega), cl_s, if1', g7_part (by omega), cl_s, if1, a1, cl_s, b1, cl_s, b7_hb b2 (by omega), cl_s, ← eM0, h1, h3a]
      · refine qs (-1) hn hG ?_ ?_
        · unfold f_X6_fan
          rw [g_sit isR1 hG.1 hns hi, cl_s, if1', g_win (by omega) (by decide), cl_s, if1', g_win_n hc (by decide), cl_s, if0]
        · unfold f_X7_fan
          rw [g7_sit hG.2.2.2.2.2.2.1 hns hi, cl_s, if1', g7_far (by omega), cl_s, if1', g7_part_n hc, cl_s, if0]
    · refine qs (-1) hn hG ?_ ?_
      · unfold f_X6_fan
        rw [g_sit isR1 hG.1 hns hi, cl_s, if1', g_win_n hbb (by decide), cl_s, if0']
      · unfold f_X7_fan
        rw [g7_sit hG.2.2.2.2.2.2.1 hns hi, cl_s, if1', g7_far_n hbb, cl_s, if0']
  · refine qs (-1) hn hG ?_ ?_
    · unfold f_X6_fan
      rw [g_sit_n isR1 hG.1 hns ha, cl_s, if0']
    · unfold f_X7_fan
      rw [g7_sit_n hG.2.2.2.2.2.2.1 hns ha, cl_s, if0']

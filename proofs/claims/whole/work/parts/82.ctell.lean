/-! the class reads the whole text -/
theorem shl2 : ∀ n, n < 10 → (nI 1 <<< (nI n &&& 31)) = nI (2 ^ n) := by decide
theorem tb_and' : ∀ a, a < 16 → ∀ c, c < 64 → ∀ j, j < 10 → ((nI (64 * a + c) &&& nI (2 ^ j)) = 0 ↔ (64 * a + c) / 2 ^ j % 2 = 0) := by decide +kernel
theorem tb_or' : ∀ a, a < 16 → ∀ c, c < 64 → ∀ j, j < 10 → (64 * a + c) / 2 ^ j % 2 = 0 → (nI (64 * a + c) ||| nI (2 ^ j)) = nI (64 * a + c + 2 ^ j) := by decide +kernel
theorem tb_and {m j : Nat} (hm : m < 1024) (hj : j < 10) : ((nI m &&& nI (2 ^ j)) = 0 ↔ m / 2 ^ j % 2 = 0) := by
  have h := tb_and' (m / 64) (by omega) (m % 64) (by omega) j hj
  rw [show 64 * (m / 64) + m % 64 = m by omega] at h
  exact h
theorem tb_or {m j : Nat} (hm : m < 1024) (hj : j < 10) (hb : m / 2 ^ j % 2 = 0) : (nI m ||| nI (2 ^ j)) = nI (m + 2 ^ j) := by
  have h := tb_or' (m / 64) (by omega) (m % 64) (by omega) j hj
  rw [show 64 * (m / 64) + m % 64 = m by omega] at h
  exact h hb
theorem t_onc {s : St} {b : Nat → Nat} {len p row first base N hi : Nat} {d : Dr} (hS : CS s b len p d) (hD : WD d) (hp : p ≤ len) (hrow : kd row = 9 ∧ ln row = N + 1 ∧ lnI row = N + 1 ∧ 14 ≤ row ∧ row ≤ 26) (hN : first + N < 10) (hhi : hi < 2 ^ 31) (hRR : ∀ (s' : St) (k v : Nat), k ≤ N → RR s' 14 d.1 d.2.1 d.2.2.1 → RR (wI s' row k (nI v)) 14 d.1 d.2.1 (up d.2.2.1 (base + k) v)) : ∃ x s2, f_X5_readOnce row (nI first) (nI hi) s = some (x, s2) ∧ FC s s2 ∧ CL s2 x b len (mOnc b len p first base N hi d) := by
  obtain ⟨nl, ns, g, m⟩ := d
  obtain ⟨hB, h4, h2, h7, hR⟩ := hS
  have hm' := hD.2.2.1
  dsimp only at h7 hR hm' hRR
  obtain ⟨w1, w2, w3, w4, w5⟩ := hrow
  unfold f_X5_readOnce mOnc
  dsimp only
  rw [if_pos w1, w2, pk_sub (by omega), show N + 1 - 1 = N from rfl]
  obtain ⟨x, s1, e1, f1, f2, n1⟩ := c_num (lo := 0) (hi := N) hB hp h4 h2 (by decide) (by omega)
  rw [e1, cl_s]
  cases hm : mNum b len p 0 N with
  | inl e =>
    rw [hm] at n1
    obtain ⟨rfl, n2, n3⟩ := n1
    rw [if0, an_l]
    exact ⟨_, _, rfl, f1.fc, rfl, n2, n3⟩
  | inr k =>
    rw [hm] at n1
    obtain ⟨rfl, n2, n3, n4⟩ := n1
    obtain ⟨k1, k2, k3, k4⟩ := mNum_r hp hm
    rw [if1, an_r, bd_s, bd_s, n4, nI_add, f1.2.2, h7, shl2 _ (by omega)]
    have hand := tb_and (m := m) (j := first + k.1) hm' (by omega)
    by_cases c : m / 2 ^ (first + k.1) % 2 = 1
    · rw [if_neg (fun e => by rw [hand] at e; omega), c_refuse, cl_s, if_pos or01, if_pos c]
      refine ⟨_, _, rfl, (f1.tr (F3.wi (by decide) (by decide))).fc, rfl, ?_, ?_⟩
      · rw [wI_at]
      · rw [wI_ne (by decide)]; exact f2
    · have c0 : m / 2 ^ (first + k.1) % 2 = 0 := by omega
      rw [if_pos (hand.mpr c0), bd_s, tb_or hm' (by omega) c0, if_neg c]
      have F1 : FC s (wI s1 33 7 (nI (m + 2 ^ (first + k.1)))) := f1.fc.tr FC.w7
      obtain ⟨y, s3, e3, f3, f4, n5⟩ := c_num (s := wI s1 33 7 (nI (m + 2 ^ (first + k.1)))) (p := k.2) (lo := 0) (hi := hi) (hB.fc F1) k2 (by rw [wI_ne (by decide)]; exact n3) (by rw [wI_ne (by decide)]; exact n2) (by decide) hhi
      rw [e3, cl_s]
      cases hm2 : mNum b len k.2 0 hi with
      | inl e =>
        rw [hm2] at n5
        obtain ⟨rfl, m2, m3⟩ := n5
        rw [if0, an_l]
        exact ⟨_, _, rfl, F1.tr f3.fc, rfl, m2, m3⟩
      | inr v =>
        rw [hm2] at n5
        obtain ⟨rfl, m2, m3, m4⟩ := n5
        rw [if1, an_r, if_pos (by rw [w3]; exact inb_t (by omega) (by omega)), bd_s, nI_clamp (by omega), m4]
        have F2 : FC s (wI s3 row k.1 (nI v.1)) := F1.tr (f3.fc.tr (FC.wi w4 w5))
        refine ⟨_, _, rfl, F2, rfl, hB.fc F2, ?_, ?_, ?_, ?_⟩
        · rw [wI_1o (by omega)]; exact m3
        · rw [wI_1o (by omega)]; exact m2
        · rw [wI_1o (by omega), f3.2.2, wI_at]
        · exact hRR s3 k.1 v.1 k4 (rr_f3 (rr_w33 (rr_f3 hR f1)) f3)
theorem t_stp {s : St} {b : Nat → Nat} {len : Nat} {r : Nat × Dr} (hS : CS s b len r.1 r.2) (hp : r.1 ≤ len) : ∃ x s2, f_X5_readLine_J100 (nI 1) s = some (x, s2) ∧ FC s s2 ∧ CL s2 x b len (mStp b len r) := by
  obtain ⟨hB, h4, h2, h7, hR⟩ := hS
  obtain ⟨s1, e1, f1, f2, f3, f4, f5⟩ := c_token hB hp h4
  have hle := (tok_ok (b := b) hp).le
  unfold f_X5_readLine_J100 mStp
  rw [if1', e1, cl_s, f4]
  by_cases cb : bad (tok b len r.1) = true
  · rw [if_pos cb] at f5
    simp only [if_pos cb]
    rw [if0']
    exact ⟨_, _, rfl, f1.fc, rfl, f5, f2⟩
  · rw [if_neg cb, h2] at f5
    simp only [if_neg cb]
    rw [if1']
    by_cases c3 : (tok b len r.1).2.1 = 3
    · rw [if_pos (show nI (tok b len r.1).2.1 = nI 3 by rw [c3]), if_pos c3]
      exact ⟨_, _, rfl, f1.fc, rfl, hB.f3 f1, f3, f5, by rw [f1.2.2]; exact h7, rr_f3 hR f1⟩
    · rw [if_neg (show ¬ nI (tok b len r.1).2.1 = nI 3 from fun e => c3 ((nI_eq (by omega) (by omega)).mp e)), if_neg c3, c_refuse, cl_s, if0']
      refine ⟨_, _, rfl, (f1.tr (F3.wi (by decide) (by decide))).fc, rfl, ?_, ?_⟩
      · rw [wI_at]
      · rw [wI_ne (by decide)]; exact f2
theorem t_fin {s : St} {b : Nat → Nat} {len : Nat} {R : Option (Int32 × St)} {r : (Nat × Nat) ⊕ (Nat × Dr)} (h : ∃ x s2, R = some (x, s2) ∧ FC s s2 ∧ CL s2 x b len r) (hr : ∀ a, r = Sum.inr a → a.1 ≤ len) : ∃ x s2, cl R (fun x s => f_X5_readLine_J100 x s) = some (x, s2) ∧ FC s s2 ∧ CL s2 x b len (an r (mStp b len)) := by
  obtain ⟨x, s1, e1, F1, n1⟩ := h
  rw [e1, cl_s]
  cases r with
  | inl e =>
    obtain ⟨rfl, n2, n3⟩ := n1
    unfold f_X5_readLine_J100
    rw [if0', an_l]
    exact ⟨_, _, rfl, F1, rfl, n2, n3⟩
  | inr a =>
    obtain ⟨rfl, n2⟩ := n1
    obtain ⟨y, s3, e3, F3', n3⟩ := t_stp n2 (hr a rfl)
    rw [an_r]
    exact ⟨y, s3, e3, F1.tr F3', n3⟩
theorem row25 : kd (14 + 11) = 9 ∧ ln (14 + 11) = 5 + 1 ∧ lnI (14 + 11) = 5 + 1 ∧ 14 ≤ 14 + 11 ∧ 14 + 11 ≤ 26 := by decide
theorem row26 : kd (14 + 12) = 9 ∧ ln (14 + 12) = 3 + 1 ∧ lnI (14 + 12) = 3 + 1 ∧ 14 ≤ 14 + 12 ∧ 14 + 12 ≤ 26 := by decide
theorem t_bod {s : St} {b : Nat → Nat} {len w q0 p : Nat} {d : Dr} (hS : CS s b len p d) (hD : WD d) (hp : p ≤ len) (h3 : s.1 33 3 = nI q0) (hw : w ≤ 7) : ∃ x s2, f_X5_readLine_J17 14 (nI w) s = some (x, s2) ∧ FC s s2 ∧ CL s2 x b len (an (mBod b len w q0 p d) (mStp b len)) := by
  have hr : ∀ a, mBod b len w q0 p d = Sum.inr a → a.1 ≤ len := fun a h => (mBod_r hp hw hD h).2.1
  unfold f_X5_readLine_J17
  by_cases c4 : w = 4
  · subst c4
    unfold mBod at hr ⊢
    rw [if_pos rfl] at hr
    rw [if_pos rfl, if_pos rfl]
    exact t_fin (t_sit hS hD hp h3) hr
  rw [if_neg (show ¬ nI w = nI 4 from fun e => c4 ((nI_eq (by omega) (by omega)).mp e))]
  by_cases c5 : w = 5
  · subst c5
    unfold mBod at hr ⊢
    rw [if_neg (by decide), if_pos rfl] at hr
    rw [if_pos rfl, if_pos kd14, if_neg (by decide), if_pos rfl]
    exact t_fin (t_onc hS hD hp row25 (by decide) (by decide) (fun s' k v hk h => rr_way h hD.1 hD.2.1 (by omega))) hr
  rw [if_neg (show ¬ nI w = nI 5 from fun e => c5 ((nI_eq (by omega) (by omega)).mp e))]
  by_cases c6 : w = 6
  · subst c6
    unfold mBod at hr ⊢
    rw [if_neg (by decide), if_neg (by decide), if_pos rfl] at hr
    rw [if_pos rfl, if_pos kd14, if_neg (by decide), if_neg (by decide), if_pos rfl]
    exact t_fin (t_onc hS hD hp row26 (by decide) (by decide) (fun s' k v hk h => rr_price h hD.1 hD.2.1 (by omega))) hr
  rw [if_neg (show ¬ nI w = nI 6 from fun e => c6 ((nI_eq (by omega) (by omega)).mp e))]
  by_cases c7 : w = 7
  · subst c7
    unfold mBod
    rw [if_pos rfl, if_neg (by decide), if_neg (by decide), if_neg (by decide), if_pos rfl, an_l, c_refuse, cl_s, if_pos or01]
    refine ⟨_, _, rfl, (F3.wi (by decide) (by decide)).fc, rfl, ?_, ?_⟩
    · rw [wI_at]
    · rw [wI_ne (by decide)]; exact h3
  rw [if_neg (show ¬ nI w = nI 7 from fun e => c7 ((nI_eq (by omega) (by omega)).mp e)), if_pos (by rw [nI_toInt (by omega)]; omega)]
  unfold mBod at hr ⊢
  rw [if_neg c4, if_neg c5, if_neg c6, if_neg c7] at hr ⊢
  exact t_fin (t_lif hS hD hp h3) hr
theorem t_lin {s : St} {b : Nat → Nat} {len : Nat} {t : Nat × Nat × Nat} {d : Dr} (hS : CS s b len t.2.2 d) (hD : WD d) (h3 : s.1 33 3 = nI t.1) (h5 : s.1 33 5 = nI t.2.1) (ht : t.1 ≤ t.2.2 ∧ t.2.2 ≤ len ∧ t.2.1 ≤ 4) : ∃ x s2, f_X5_readLine 14 s = some (x, s2) ∧ FC s s2 ∧ CL s2 x b len (mLin b len t d) := by
  unfold f_X5_readLine mLin
  rw [h5]
  by_cases c : t.2.1 = 1
  · rw [if_neg (fun e => e (by rw [c])), if_pos c, c_word hS.1 h3 hS.2.1 ht.1 ht.2.1, cl_s]
    exact t_bod hS hD ht.2.1 h3 wd_le
  · rw [if_pos (fun e => c ((nI_eq (by omega) (by omega)).mp e)), if_neg c]
    exact t_bod hS hD ht.2.1 h3 (by omega)
theorem lp_go {S T : Type} {body : S → Option (S ⊕ T)} {F : Nat} {q q2 : S} (h : body q = some (Sum.inl q2)) : lp body (F + 1) q = lp body F q2 := by rw [lp, h]
def CF (s2 : St) (x : Int32) (r : (Nat × Nat) ⊕ (Nat × Dr)) : Prop := Sum.elim (fun e => s2.1 33 2 = nI e.1 ∧ s2.1 33 3 = nI e.2) (fun a => x = nI a.1 ∧ s2.1 33 2 = nI 0 ∧ RR s2 14 a.2.1 a.2.2.1 a.2.2.2.1) r
theorem t_lop {b : Nat → Nat} {len : Nat} : ∀ (F : Nat) (s : St) (p n : Nat) (d : Dr) (F2 : Nat), CS s b len p d → WD d → p ≤ len → len - p < F → n ≤ p → F ≤ F2 → ∃ x s2, lp (fun q : Int32 × St => f_X5_tell_L21 14 q.1 q.2) F2 (nI n, s) = some (x, s2) ∧ FC s s2 ∧ CF s2 x (mLop b len F p n d)
  | 0, _, _, _, _, _, _, _, _, h, _, _ => absurd h (by omega)
  | F + 1, s, p, n, d, F2, hS, hD, hp, hF, hn, hF2 => by
    obtain ⟨F2, rfl⟩ : ∃ f, F2 = f + 1 := ⟨F2 - 1, by omega⟩
    have hlen := hS.1.1
    have hle := (tok_ok (b := b) hp).le
    obtain ⟨s1, e1, f1, f2, f3, f4, f5⟩ := c_token hS.1 hp hS.2.1
    have hb : f_X5_tell_L21 14 (nI n) s = cl (f_X5_readToken s) (fun x9 s8 => if x9 = 0 then (some (Sum.inr ((nI n, s8)))) else (if (s8.1 33 5) = 0 then (some (Sum.inr ((nI n, s8)))) else (cl (f_X5_readLine 14 s8) (fun x13 s12 => if x13 = 0 then (some (Sum.inr ((nI n, s12)))) else (some (Sum.inl ((nI n + (nI 1)), s12))))))) := by
      unfold f_X5_tell_L21
      rw [if_neg (fun e => by rw [nI_ltI (by omega) (by omega)] at e; omega)]
    rw [e1, cl_s, f4] at hb
    unfold mLop
    by_cases cb : bad (tok b len p) = true
    · rw [if_pos cb] at f5
      simp only [if_pos cb] at hb ⊢
      rw [if0'] at hb
      rw [lp_out hb]
      exact ⟨_, _, rfl, f1.fc, f5, f2⟩
    · rw [if_neg cb, hS.2.2.1] at f5
      simp only [if_neg cb] at hb ⊢
      rw [if1'] at hb
      by_cases c0 : (tok b len p).2.1 = 0
      · rw [if_pos (by rw [c0]; rfl)] at hb
        rw [if_pos c0, lp_out hb]
        exact ⟨_, _, rfl, f1.fc, rfl, f5, rr_f3 hS.2.2.2.2 f1⟩
      · rw [if_neg (nI_ne0 (by omega) (by omega))] at hb
        rw [if_neg c0]
        have hS1 : CS s1 b len (tok b len p).2.2 d := ⟨hS.1.f3 f1, f3, f5, by rw [f1.2.2]; exact hS.2.2.2.1, rr_f3 hS.2.2.2.2 f1⟩
        obtain ⟨x, s3, e3, F3', n3⟩ := t_lin hS1 hD f2 f4 ⟨hle.1, hle.2.1, hle.2.2.2⟩
        rw [e3, cl_s] at hb
        cases hm : mLin b len (tok b len p) d with
        | inl e =>
          rw [hm] at n3
          obtain ⟨rfl, n4, n5⟩ := n3
          rw [if0'] at hb
          rw [an_l, lp_out hb]
          exact ⟨_, _, rfl, f1.fc.tr F3', n4, n5⟩
        | inr r =>
          rw [hm] at n3
          obtain ⟨rfl, n4⟩ := n3
          obtain ⟨k1, k2, k3⟩ := mLin_r hp hD hm
          rw [if1', nI_add] at hb
          rw [an_r, lp_go hb]
          obtain ⟨y, s5, e5, F5, n5⟩ := t_lop F s3 r.1 (n + 1) r.2 F2 n4 k3 k2 (by omega) (by omega) (by omega)
          exact ⟨y, s5, e5, f1.fc.tr (F3'.tr F5), n5⟩
def d0 : Dr := (0, 0, fun _ => 0, 0)
theorem wd0 : WD d0 := ⟨by decide, by decide, by decide, fun l hl => absurd hl (Nat.not_lt_zero _), fun l hl => absurd hl (Nat.not_lt_zero _), fun k hk => Nat.zero_le _, fun k hk => Nat.zero_le _, fun j hj => rfl, fun l h1 h2 => rfl⟩
theorem ln14b : lnI (14 + 5) = 3 ∧ lnI (14 + 6) = 3 ∧ lnI (14 + 7) = 60 ∧ lnI (14 + 10) = 12 ∧ lnI (14 + 11) = 6 ∧ lnI (14 + 12) = 4 := by decide
theorem t_clear (s : St) : ∃ s2, f_X2_clear 14 s = some ((), s2) ∧ (∀ k, ¬ (14 ≤ k ∧ k ≤ 26) → s2.1 k = s.1 k) ∧ RR s2 14 0 0 (fun _ => 0) := by
  unfold f_X2_clear
  rw [if_pos kd14, bd_s, bd_s, bd_s]
  generalize hs0 : wI (wI (wI s 14 0 (nI 0)) 14 1 (nI 0)) 14 2 (nI 0) = s0
  have g0 : ∀ k, k ≠ 14 → s0.1 k = s.1 k := fun k hk => by rw [← hs0, wI_1o hk, wI_1o hk, wI_1o hk]
  have g1 : s0.1 14 0 = nI 0 ∧ s0.1 14 1 = nI 0 ∧ s0.1 14 2 = nI 0 := by
    rw [← hs0]
    refine ⟨?_, ?_, ?_⟩
    · rw [wI_ne (by decide), wI_ne (by decide), wI_at]
    · rw [wI_ne (by decide), wI_at]
    · rw [wI_at]
  obtain ⟨s1, a1, a2, a3, -⟩ := b_fill (s := s0) ln14b.1 (by decide) (by decide)
  obtain ⟨s2, b1, b2, b3, -⟩ := b_fill (s := s1) ln14b.2.1 (by decide) (by decide)
  obtain ⟨s3, c1, c2, c3, -⟩ := b_fill (s := s2) ln14b.2.2.1 (by decide) (by decide)
  obtain ⟨s4, d1, d2, d3, -⟩ := b_fill (s := s3) ln14b.2.2.2.1 (by decide) (by decide)
  obtain ⟨s5, e1, e2, e3, -⟩ := b_fill (s := s4) ln14b.2.2.2.2.1 (by decide) (by decide)
  obtain ⟨s6, f1, f2, f3, -⟩ := b_fill (s := s5) ln14b.2.2.2.2.2 (by decide) (by decide)
  rw [a1, cl_s, b1, cl_s, c1, cl_s, d1, cl_s, e1, cl_s, f1, cl_s]
  refine ⟨_, rfl, fun k hk => ?_, ?_⟩
  · rw [f3 k (by omega), e3 k (by omega), d3 k (by omega), c3 k (by omega), b3 k (by omega), a3 k (by omega), g0 k (by omega)]
  · rw [R14]
    have h14 : s6.1 14 = s0.1 14 := by rw [f3 14 (by decide), e3 14 (by decide), d3 14 (by decide), c3 14 (by decide), b3 14 (by decide), a3 14 (by decide)]
    rw [h14]
    refine ⟨g1.1, g1.2.1, g1.2.2, fun l hl => absurd hl (Nat.not_lt_zero _), fun l hl => ⟨?_, ?_⟩, fun j hj => ?_, fun i hi => absurd hi (Nat.not_lt_zero _), fun j hj => ?_, fun j hj => ?_, fun j hj => ?_⟩
    · rw [f3 19 (by decide), e3 19 (by decide), d3 19 (by decide), c3 19 (by decide), b3 19 (by decide)]; exact a2 l hl
    · rw [f3 20 (by decide), e3 20 (by decide), d3 20 (by decide), c3 20 (by decide), show al (fun _ => 0) l = 0 from sm_zero (fun _ _ => rfl)]; exact b2 l hl
    · rw [f3 21 (by decide), e3 21 (by decide), d3 21 (by decide)]; exact c2 j hj
    · rw [f3 24 (by decide), e3 24 (by decide)]; exact d2 j hj
    · rw [f3 25 (by decide)]; exact e2 j hj
    · exact f2 j hj
theorem t_tell {s : St} {b : Nat → Nat} {len : Nat} (hB : CB s b len) : ∃ x s2, f_X5_tell 14 s = some (x, s2) ∧ FC s s2 ∧ CF s2 x (mLop b len 161 0 0 d0) := by
  have hlen := hB.1
  obtain ⟨s1, a1, a2, a3⟩ := t_clear s
  unfold f_X5_tell
  rw [if_pos kd14, a1, cl_s, bd_s, bd_s, bd_s]
  have F1 : FC s (wI (wI (wI s1 33 2 (nI 0)) 33 4 (nI 0)) 33 7 (nI 0)) := by
    refine ⟨fun k h1 h2 => ?_, ?_⟩
    · rw [wI_1o h1, wI_1o h1, wI_1o h1, a2 k h2]
    · rw [wI_ne (by decide), wI_ne (by decide), wI_ne (by decide), a2 33 (by decide)]
  obtain ⟨x, s2, e2, F2, n2⟩ := t_lop (b := b) (len := len) 161 (wI (wI (wI s1 33 2 (nI 0)) 33 4 (nI 0)) 33 7 (nI 0)) 0 0 d0 Fu ⟨hB.fc F1, by rw [wI_ne (by decide), wI_at], by rw [wI_ne (by decide), wI_ne (by decide), wI_at], by rw [wI_at]; rfl, rr_w33 (rr_w33 (rr_w33 a3))⟩ wd0 (Nat.zero_le _) (by omega) (Nat.le_refl _) (by decide)
  exact ⟨x, s2, e2, F1.tr F2, n2⟩

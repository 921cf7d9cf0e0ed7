/-! the reference reads the whole text -/
theorem f0le : nI 0 ≤ 0 := by decide
theorem Fl.nle {s : St} {e : Nat × Nat} (h : Fl s e) : ¬ s.1 189 16 ≤ 0 := by
  rw [h.2.2.1, nI_le0 (by have := h.2.1; omega)]
  have := h.1
  omega
theorem k_stp {s : St} {b : Nat → Nat} {len : Nat} {x : (Nat × Nat) ⊕ (Nat × Dr)} (hB : RB s b len) (h : RLn s b len x) (hx : ∀ a, x = Sum.inr a → a.1 ≤ len) : ∃ s2, (if ¬ (s.1 189 16) = 0 then (cl (f_X7_takes s) (fun _ s19 => some (((), s19)))) else (if ¬ (s.1 189 14) = (nI 3) then (f_X7_readLine_J111 (nI 0) s) else (f_X7_readLine_J111 (nI 1) s))) = some ((), s2) ∧ F7 s s2 ∧ RLn s2 b len (an x (mStp b len)) := by
  cases x with
  | inl e =>
    have h' : Fl s e := h
    rw [if_pos h'.ne, r_takesF h', cl_s, an_l]
    exact ⟨_, rfl, F7.rf, h'⟩
  | inr a =>
    obtain ⟨hA, hD⟩ := h
    have ha := hx a rfl
    have hle := (tok_ok (b := b) ha).le
    have hlen := hB.1
    rw [an_r]
    unfold mStp
    by_cases cb : bad (tok b len a.1) = true
    · rw [if_pos (hA.fl cb).ne, r_takesF (hA.fl cb), cl_s, if_pos cb]
      exact ⟨_, rfl, F7.rf, hA.fl cb⟩
    · rw [hA.f0 cb, if0, hA.so cb, if_neg cb]
      by_cases c3 : (tok b len a.1).2.1 = 3
      · obtain ⟨s3, e3, f3, n3⟩ := r_takes (p := (tok b len a.1).2.2) hB hle.2.1 hA.1 (hA.f0 cb)
        rw [if_neg (fun e => e (by rw [c3])), if_pos c3]
        unfold f_X7_readLine_J111
        rw [r_need1, cl_s, e3, cl_s]
        exact ⟨_, rfl, f3.f7, n3, hD.t7 f3⟩
      · have hF : Fl (wI (wI s 189 16 (nI 2)) 189 17 (nI (tok b len a.1).1)) (2, (tok b len a.1).1) := fl_w (by decide) (by decide)
        rw [if_pos (fun e => c3 ((nI_eq (by omega) (by omega)).mp e)), if_neg c3]
        unfold f_X7_readLine_J111
        rw [r_need0 (hA.f0 cb) hA.2.1, cl_s, r_takesF hF, cl_s]
        exact ⟨_, rfl, t7_w.f7, hF⟩
/-- the word is good: the line goes on -/
theorem k_go {s : St} {b : Nat → Nat} {len p : Nat} {v : Int32} {d : Dr} {x : (Nat × Nat) ⊕ (Nat × Dr)} (hB : RB s b len) (hp : p ≤ len) (h12 : s.1 189 12 = nI p) (h16 : s.1 189 16 = nI 0) (hD : RD s d) (hbad : bad (tok b len p) = true → x = Sum.inl (1, (tok b len p).1)) (hx : ∀ a, x = Sum.inr a → a.1 ≤ len) (hk : ∀ s', RB s' b len → RA s' b (tok b len p) → RD s' d → ∃ s2, f_X7_readLineOf v s' = some ((), s2) ∧ F7 s' s2 ∧ RLn s2 b len x) : ∃ s2, f_X7_readLine_J69 v (nI 1) s = some ((), s2) ∧ F7 s s2 ∧ RLn s2 b len (an x (mStp b len)) := by
  obtain ⟨s3, e3, f3, n3⟩ := r_takes hB hp h12 h16
  unfold f_X7_readLine_J69
  rw [r_need1, cl_s, e3, cl_s]
  by_cases cb : bad (tok b len p) = true
  · rw [if_neg (n3.fl cb).nle, hbad cb, an_l]
    exact ⟨_, rfl, f3.f7, n3.fl cb⟩
  · rw [n3.f0 cb, if_pos f0le]
    obtain ⟨s4, e4, f4, n4⟩ := hk s3 (hB.t7 f3) n3 (hD.t7 f3)
    obtain ⟨s5, e5, f5, n5⟩ := k_stp ((hB.t7 f3).f7 f4) n4 hx
    rw [e4, cl_s, e5]
    exact ⟨_, rfl, f3.f7.tr (f4.tr f5), n5⟩
theorem k_J69F {s : St} {e : Nat × Nat} {v k0 : Int32} (h : Fl s e) : f_X7_readLine_J69 v k0 s = some ((), s) := by
  unfold f_X7_readLine_J69
  rw [r_needF h.ne, cl_s, r_takesF h, cl_s, if_neg h.nle]
theorem k_full {s : St} {v : Int32} {q : Nat} (h16 : s.1 189 16 = nI 0) (h13 : s.1 189 13 = nI q) : ∃ s2, f_X7_readLine_J69 v (nI 0) s = some ((), s2) ∧ F7 s s2 ∧ Fl s2 (5, q) := by
  have hF : Fl (wI (wI s 189 16 (nI 5)) 189 17 (nI q)) (5, q) := fl_w (by decide) (by decide)
  unfold f_X7_readLine_J69
  rw [r_need0 h16 h13, cl_s, r_takesF hF, cl_s, if_neg hF.nle]
  exact ⟨_, rfl, t7_w.f7, hF⟩
theorem mCell_bad {b : Nat → Nat} {len p : Nat} (h : bad (tok b len p) = true) : mCell b len p = Sum.inl (1, (tok b len p).1) := by
  unfold mCell
  rw [mNum_bad h, an_l]
theorem k_bod {s : St} {b : Nat → Nat} {len w q p : Nat} {d : Dr} (hB : RB s b len) (hp : p ≤ len) (hw : w ≤ 7) (h12 : s.1 189 12 = nI p) (h13 : s.1 189 13 = nI q) (h16 : s.1 189 16 = nI 0) (hD : RD s d) (hW : WD d) : ∃ s2, f_X7_readLine_J17 (wr w) s = some ((), s2) ∧ F7 s s2 ∧ RLn s2 b len (an (mBod b len w q p d) (mStp b len)) := by
  have hr : ∀ a, mBod b len w q p d = Sum.inr a → a.1 ≤ len := fun a h => (mBod_r hp hw hW h).2.1
  have hnl := hW.1
  have hns := hW.2.1
  unfold f_X7_readLine_J17
  by_cases c7 : w = 7
  · subst c7
    have hF : Fl (wI (wI s 189 16 (nI 2)) 189 17 (nI q)) (2, q) := fl_w (by decide) (by decide)
    have e7 : mBod b len 7 q p d = Sum.inl (2, q) := by
      unfold mBod
      rw [if_neg (by decide), if_neg (by decide), if_neg (by decide), if_pos rfl]
    unfold f_X7_readLine_J30
    rw [e7, an_l, show wr 7 = -4 from rfl, if_pos rfl, r_need0 h16 h13, cl_s, if_neg (show ¬ nI 4 < -4 by decide), if_pos (show ¬ -4 = nI 4 by decide)]
    unfold f_X7_readLine_J68 f_X7_readLine_J64
    rw [k_J69F hF, k_J69F hF, ite_self]
    exact ⟨_, rfl, t7_w.f7, hF⟩
  have ew : wr w = nI w := if_neg c7
  have hn4 : ¬ nI w = -4 := by
    rcases (show w = 0 ∨ w = 1 ∨ w = 2 ∨ w = 3 ∨ w = 4 ∨ w = 5 ∨ w = 6 by omega) with rfl | rfl | rfl | rfl | rfl | rfl | rfl
    all_goals decide
  rw [ew, if_neg hn4]
  unfold f_X7_readLine_J30
  rw [r_need1, cl_s]
  unfold f_X7_readLine_J64 f_X7_readLine_J68
  by_cases c4 : w = 4
  · subst c4
    unfold mBod at hr ⊢
    rw [if_pos rfl] at hr
    rw [if_neg (by decide), if_neg (by decide), if_pos rfl, hD.2.1]
    by_cases cf : 4 ≤ d.2.1
    · obtain ⟨s2, e2, f2, n2⟩ := k_full (v := nI 4) h16 h13
      rw [if_pos (nI_le cf (by omega)), e2]
      unfold mSit
      rw [if_pos cf, an_l]
      exact ⟨_, rfl, f2, n2⟩
    · rw [if_neg (nI_ge (by omega) (by omega))]
      refine k_go hB hp h12 h16 hD (fun h => ?_) hr (fun s' a1 a2 a3 => k_sit a1 hp a2 a3 (by omega))
      unfold mSit
      rw [if_neg cf, mCell_bad h, an_l]
  by_cases c5 : w = 5
  · subst c5
    unfold mBod at hr ⊢
    rw [if_neg (by decide), if_pos rfl] at hr
    rw [if_pos (by decide), if_neg (by decide), if_pos rfl]
    refine k_go hB hp h12 h16 hD (fun h => ?_) hr (fun s' a1 a2 a3 => k_air a1 hp a2 a3 hW.2.2.1)
    unfold mOnc
    rw [mNum_bad h, an_l]
  by_cases c6 : w = 6
  · subst c6
    unfold mBod at hr ⊢
    rw [if_neg (by decide), if_neg (by decide), if_pos rfl] at hr
    rw [if_pos (by decide), if_neg (by decide), if_neg (by decide), if_pos rfl]
    refine k_go hB hp h12 h16 hD (fun h => ?_) hr (fun s' a1 a2 a3 => k_price a1 hp a2 a3 hW.2.2.1)
    unfold mOnc
    rw [mNum_bad h, an_l]
  unfold mBod at hr ⊢
  rw [if_neg c4, if_neg c5, if_neg c6, if_neg c7] at hr ⊢
  rw [if_neg (fun e => by rw [nI_ltI (by omega) (by omega)] at e; omega), if_pos (fun e => c4 ((nI_eq (by omega) (by omega)).mp e)), hD.1]
  by_cases cf : 3 ≤ d.1
  · obtain ⟨s2, e2, f2, n2⟩ := k_full (v := nI w) h16 h13
    rw [if_pos (nI_le cf (by omega)), e2]
    unfold mLif
    rw [if_pos cf, an_l]
    exact ⟨_, rfl, f2, n2⟩
  · rw [if_neg (nI_ge (by omega) (by omega))]
    refine k_go hB hp h12 h16 hD (fun h => ?_) hr (fun s' a1 a2 a3 => k_lif a1 hp a2 a3 (by omega) (by omega))
    unfold mLif
    rw [if_neg cf, mCell_bad h, an_l]
theorem k_lin {s : St} {b : Nat → Nat} {len : Nat} {t : Nat × Nat × Nat} {d : Dr} (hB : RB s b len) (hA : RA s b t) (hb : ¬ bad t = true) (hD : RD s d) (hW : WD d) (ht : t.1 ≤ t.2.2 ∧ t.2.2 ≤ len ∧ t.2.1 ≤ 4) : ∃ s2, f_X7_readLine s = some ((), s2) ∧ F7 s s2 ∧ RLn s2 b len (mLin b len t d) := by
  unfold f_X7_readLine mLin
  rw [hA.so hb]
  by_cases c : t.2.1 = 1
  · rw [if_neg (fun e => e (by rw [c])), if_pos c, r_word hB hA.1 hA.2.1 ht.1 ht.2.1, cl_s]
    exact k_bod hB ht.2.1 wd_le hA.1 hA.2.1 (hA.f0 hb) hD hW
  · rw [if_pos (fun e => c ((nI_eq (by omega) (by omega)).mp e)), if_neg c]
    exact k_bod hB ht.2.1 (Nat.le_refl 7) hA.1 hA.2.1 (hA.f0 hb) hD hW
theorem lp_ox {S T : Type} {body : S → Option (S ⊕ T)} {F : Nat} {q : S} {o : Option T} (h : body q = ox o) : lp body (F + 1) q = o := by
  rw [lp, h]
  cases o with
  | none => rfl
  | some t => rfl
def RF (s2 : St) (v : Int32) (r : (Nat × Nat) ⊕ (Nat × Dr)) : Prop := Sum.elim (fun e => Fl s2 e) (fun a => v = nI a.1 ∧ s2.1 189 16 = nI 0 ∧ RD s2 a.2) r
theorem k_lop {b : Nat → Nat} {len : Nat} : ∀ (F : Nat) (s : St) (p n : Nat) (d : Dr) (F2 : Nat), RB s b len → RA s b (tok b len p) → RD s d → WD d → p ≤ len → len - p < F → F < F2 → ∃ v s2, lp (fun q : Int32 × St => f_X7_text_L20 q.1 q.2) F2 (nI n, s) = f_X7_text_J44 v s2 ∧ F7 s s2 ∧ RF s2 v (mLop b len F p n d)
  | 0, _, _, _, _, _, _, _, _, _, _, h, _ => absurd h (by omega)
  | F + 1, s, p, n, d, F2, hB, hA, hD, hW, hp, hF, hF2 => by
    obtain ⟨F2, rfl⟩ : ∃ f, F2 = f + 1 := ⟨F2 - 1, by omega⟩
    have hlen := hB.1
    have hle := (tok_ok (b := b) hp).le
    unfold mLop
    by_cases cb : bad (tok b len p) = true
    · have hb : f_X7_text_L20 (nI n) s = ox (f_X7_text_J44 (nI n) s) := by
        unfold f_X7_text_L20
        rw [if_pos (hA.fl cb).ne]
      rw [if_pos cb, lp_ox hb]
      exact ⟨_, _, rfl, F7.rf, hA.fl cb⟩
    · rw [if_neg cb]
      by_cases c0 : (tok b len p).2.1 = 0
      · have hb : f_X7_text_L20 (nI n) s = ox (f_X7_text_J44 (nI n) s) := by
          unfold f_X7_text_L20
          rw [hA.f0 cb, if0, hA.so cb, if_pos (by rw [c0]; rfl)]
        rw [if_pos c0, lp_ox hb]
        exact ⟨_, _, rfl, F7.rf, rfl, hA.f0 cb, hD⟩
      · obtain ⟨s3, e3, f3, n3⟩ := k_lin hB hA cb hD hW ⟨hle.1, hle.2.1, hle.2.2.2⟩
        have hb : f_X7_text_L20 (nI n) s = some (Sum.inl (nI (n + 1), s3)) := by
          unfold f_X7_text_L20
          rw [hA.f0 cb, if0, hA.so cb, if_neg (nI_ne0 (by omega) (by omega)), e3, cl_s, nI_add]
        rw [if_neg c0, lp_go hb]
        cases hm : mLin b len (tok b len p) d with
        | inl e =>
          rw [hm] at n3
          have n4 : Fl s3 e := n3
          obtain ⟨F2, rfl⟩ : ∃ f, F2 = f + 1 := ⟨F2 - 1, by omega⟩
          have hb2 : f_X7_text_L20 (nI (n + 1)) s3 = ox (f_X7_text_J44 (nI (n + 1)) s3) := by
            unfold f_X7_text_L20
            rw [if_pos n4.ne]
          rw [an_l, lp_ox hb2]
          exact ⟨_, _, rfl, f3, n4⟩
        | inr r =>
          rw [hm] at n3
          obtain ⟨n4, n5⟩ := n3
          obtain ⟨k1, k2, k3⟩ := mLin_r hp hW hm
          rw [an_r]
          obtain ⟨v, s5, e5, f5, n6⟩ := k_lop F s3 r.1 (n + 1) r.2 F2 (hB.f7 f3) n4 n5 k3 k2 (by omega) (by omega)
          exact ⟨v, s5, e5, f3.tr f5, n6⟩
theorem r_first (s : St) : ∃ s2, f_X7_firstDraft s = some ((), s2) ∧ RD s2 d0 ∧ (∀ k, k ≠ 189 → k ≠ 193 → s2.1 k = s.1 k) ∧ ∀ j, ¬ (6 ≤ j ∧ j ≤ 9) → s2.1 189 j = s.1 189 j := by
  unfold f_X7_firstDraft
  obtain ⟨t, k1, k2⟩ := lp_inv (body := fun q : Int32 × St => f_X7_firstDraft_L2 q.1 q.2) (fun i q => q.1 = nI i ∧ (∀ j, j < i → q.2.1 193 j = nI 0) ∧ (∀ k, k ≠ 193 → q.2.1 k = s.1 k)) (fun t => RD t.2 d0 ∧ (∀ k, k ≠ 189 → k ≠ 193 → t.2.1 k = s.1 k) ∧ ∀ j, ¬ (6 ≤ j ∧ j ≤ 9) → t.2.1 189 j = s.1 189 j) 131 (fun i q hi hq => by
    obtain ⟨x, y⟩ := q
    obtain ⟨q1, q2, q3⟩ := hq
    dsimp only at q1 q2 q3 ⊢
    subst q1
    unfold f_X7_firstDraft_L2
    rw [if_neg (nI_ge hi (by decide)), if_pos (ib193 hi), bd_s, nI_clamp (by omega), nI_add]
    refine ⟨_, rfl, rfl, fun j hj => ?_, fun k hk => ?_⟩
    · dsimp only
      by_cases e : j = i
      · rw [e, wI_at]
      · rw [wI_ne e]; exact q2 j (by omega)
    · dsimp only; rw [wI_1o hk]; exact q3 k hk) (fun q hq => by
    obtain ⟨x, y⟩ := q
    obtain ⟨q1, q2, q3⟩ := hq
    dsimp only at q1 q2 q3 ⊢
    subst q1
    unfold f_X7_firstDraft_L2
    rw [if_pos (nI_le (Nat.le_refl _) (by decide)), bd_s, bd_s, bd_s, bd_s]
    refine ⟨_, rfl, ⟨?_, ?_, ?_, ?_, fun j hj => ?_⟩, fun k h1 h2 => ?_, fun j hj => ?_⟩
    · dsimp only; rw [wI_ne (by decide), wI_ne (by decide), wI_ne (by decide), wI_at]; rfl
    · dsimp only; rw [wI_ne (by decide), wI_ne (by decide), wI_at]; rfl
    · dsimp only; rw [wI_ne (by decide), wI_at]; rfl
    · dsimp only; rw [wI_at]; rfl
    · dsimp only; rw [wI_1o (by decide), wI_1o (by decide), wI_1o (by decide), wI_1o (by decide)]; exact q2 j hj
    · dsimp only; rw [wI_1o h1, wI_1o h1, wI_1o h1, wI_1o h1]; exact q3 k h2
    · dsimp only; rw [wI_ne (by omega), wI_ne (by omega), wI_ne (by omega), wI_ne (by omega), q3 189 (by decide)]) (q := (nI 0, s)) ⟨rfl, fun j hj => absurd hj (by omega), fun _ _ => rfl⟩ (Fu_lt (by decide))
  exact ⟨t.2, k1, k2⟩
theorem z192 : inb (nI 0) (lnZ 192) = true ∧ inb (nI 1) (lnZ 192) = true ∧ vp_nar .boolean (nI 0) = nI 0 := by decide
theorem r_keep (s : St) : ∃ s2, f_X7_keepDraft s = some ((), s2) ∧ (∀ j, j < 131 → s2.1 190 j = s.1 193 j) ∧ (∀ j, 131 ≤ j → s2.1 190 j = s.1 190 j) ∧ s2.1 189 3 = s.1 189 6 ∧ s2.1 189 4 = s.1 189 7 ∧ (∀ j, j ≠ 3 → j ≠ 4 → s2.1 189 j = s.1 189 j) ∧ (∀ k, k < 2 → s2.1 192 k = nI 0) ∧ (∀ k, k ≠ 189 → k ≠ 190 → k ≠ 192 → s2.1 k = s.1 k) := by
  unfold f_X7_keepDraft
  obtain ⟨t, k1, k2⟩ := lp_inv (body := fun q : Int32 × St => f_X7_keepDraft_L2 q.1 q.2) (fun i q => q.1 = nI i ∧ (∀ j, j < i → q.2.1 190 j = s.1 193 j) ∧ (∀ j, 131 ≤ j → q.2.1 190 j = s.1 190 j) ∧ (∀ k, k ≠ 190 → q.2.1 k = s.1 k)) (fun t => (∀ j, j < 131 → t.2.1 190 j = s.1 193 j) ∧ (∀ j, 131 ≤ j → t.2.1 190 j = s.1 190 j) ∧ t.2.1 189 3 = s.1 189 6 ∧ t.2.1 189 4 = s.1 189 7 ∧ (∀ j, j ≠ 3 → j ≠ 4 → t.2.1 189 j = s.1 189 j) ∧ (∀ k, k < 2 → t.2.1 192 k = nI 0) ∧ (∀ k, k ≠ 189 → k ≠ 190 → k ≠ 192 → t.2.1 k = s.1 k)) 131 (fun i q hi hq => by
    obtain ⟨x, y⟩ := q
    obtain ⟨q1, q2, q4, q3⟩ := hq
    dsimp only at q1 q2 q3 q4 ⊢
    subst q1
    unfold f_X7_keepDraft_L2
    rw [if_neg (nI_ge hi (by decide)), if_pos (ib193 hi), if_pos (ib190 (by omega)), bd_s, nI_clamp (by omega), nI_add]
    refine ⟨_, rfl, rfl, fun j hj => ?_, fun j hj => ?_, fun k hk => ?_⟩
    · dsimp only
      by_cases e : j = i
      · rw [e, wI_at, q3 193 (by decide)]
      · rw [wI_ne e]; exact q2 j (by omega)
    · dsimp only; rw [wI_ne (by omega)]; exact q4 j hj
    · dsimp only; rw [wI_1o hk]; exact q3 k hk) (fun q hq => by
    obtain ⟨x, y⟩ := q
    obtain ⟨q1, q2, q4, q3⟩ := hq
    dsimp only at q1 q2 q3 q4 ⊢
    subst q1
    unfold f_X7_keepDraft_L2
    rw [if_pos (nI_le (Nat.le_refl _) (by decide)), bd_s, bd_s, if_pos z192.1, bd_s, if_pos z192.2.1, bd_s, z192.2.2, nI_clamp (by decide), nI_clamp (by decide), wI_ne (show 7 ≠ 3 by decide)]
    refine ⟨_, rfl, fun j hj => ?_, fun j hj => ?_, ?_, ?_, fun j h3 h4 => ?_, fun k hk => ?_, fun k h1 h2 h3 => ?_⟩
    · dsimp only; rw [wI_1o (by decide), wI_1o (by decide), wI_1o (by decide), wI_1o (by decide)]; exact q2 j hj
    · dsimp only; rw [wI_1o (by decide), wI_1o (by decide), wI_1o (by decide), wI_1o (by decide)]; exact q4 j hj
    · dsimp only; rw [wI_1o (by decide), wI_1o (by decide), wI_ne (by decide), wI_at, q3 189 (by decide)]
    · dsimp only; rw [wI_1o (by decide), wI_1o (by decide), wI_at, q3 189 (by decide)]
    · dsimp only; rw [wI_1o (by decide), wI_1o (by decide), wI_ne h4, wI_ne h3, q3 189 (by decide)]
    · dsimp only
      rcases (show k = 0 ∨ k = 1 by omega) with rfl | rfl
      · rw [wI_ne (by decide), wI_at]
      · rw [wI_at]
    · dsimp only; rw [wI_1o h3, wI_1o h3, wI_1o h1, wI_1o h1]; exact q3 k h2) (q := (nI 0, s)) ⟨rfl, fun j hj => absurd hj (by omega), fun _ _ => rfl, fun _ _ => rfl⟩ (Fu_lt (by decide))
  exact ⟨t.2, k1, k2⟩

/-! the class reads numbers, CELLS, words -/
def FC (s s2 : St) : Prop := (∀ k, k ≠ 33 → ¬ (14 ≤ k ∧ k ≤ 26) → s2.1 k = s.1 k) ∧ s2.1 33 1 = s.1 33 1
theorem FC.rf {s : St} : FC s s := ⟨fun _ _ _ => rfl, rfl⟩
theorem FC.tr {s s2 s3 : St} (h : FC s s2) (h2 : FC s2 s3) : FC s s3 := ⟨fun k a b => (h2.1 k a b).trans (h.1 k a b), h2.2.trans h.2⟩
theorem F3.fc {s s2 : St} (h : F3 s s2) : FC s s2 := ⟨fun k a _ => h.1 k a, h.2.1⟩
theorem FC.wi {s : St} {k i : Nat} {x : Int32} (h1 : 14 ≤ k) (h2 : k ≤ 26) : FC s (wI s k i x) := ⟨fun j _ hj => wI_1o (fun e => hj ⟨by omega, by omega⟩), by rw [wI_1o (by omega)]⟩
theorem FC.w7 {s : St} {x : Int32} : FC s (wI s 33 7 x) := ⟨fun j hj _ => wI_1o hj, wI_ne (by decide)⟩
theorem CB.fc {s s2 : St} {b : Nat → Nat} {len : Nat} (h : CB s b len) (hF : FC s s2) : CB s2 b len := ⟨h.1, by rw [hF.2]; exact h.2.1, fun i hi => ⟨(h.2.2 i hi).1, by rw [hF.1 34 (by decide) (by decide)]; exact (h.2.2 i hi).2⟩⟩
/-- refused: e says why, and where -/
def CE (s2 : St) (x : Int32) (e : Nat × Nat) : Prop := x = nI 0 ∧ s2.1 33 2 = nI e.1 ∧ s2.1 33 3 = nI e.2
def CN (s2 : St) (x : Int32) (r : (Nat × Nat) ⊕ (Nat × Nat)) : Prop := Sum.elim (CE s2 x) (fun v => x = nI 1 ∧ s2.1 33 2 = nI 0 ∧ s2.1 33 4 = nI v.2 ∧ s2.1 33 6 = nI v.1) r
theorem c_num {s : St} {b : Nat → Nat} {len p lo hi : Nat} (hB : CB s b len) (hp : p ≤ len) (h4 : s.1 33 4 = nI p) (h2 : s.1 33 2 = nI 0) (hlo : lo < 2 ^ 31) (hhi : hi < 2 ^ 31) : ∃ x s2, f_X5_readNumber (nI lo) (nI hi) s = some (x, s2) ∧ F3 s s2 ∧ s2.1 33 3 = nI (tok b len p).1 ∧ CN s2 x (mNum b len p lo hi) := by
  have hT := tok_ok (b := b) hp
  have hlen := hB.1
  obtain ⟨s1, e1, c1⟩ := c_token hB hp h4
  unfold f_X5_readNumber mNum
  rw [e1, cl_s]
  generalize tok b len p = t at *
  obtain ⟨f1, f2, f3, f4, f5⟩ := c1
  have hle := hT.le
  by_cases cb : bad t = true
  · rw [if_pos cb] at f5
    simp only [if_pos cb]
    rw [if0]
    exact ⟨_, _, rfl, f1, f2, rfl, f5, f2⟩
  · rw [if_neg cb, h2] at f5
    simp only [if_neg cb]
    rw [if1, f4]
    by_cases c2 : t.2.1 = 2
    · rw [if_pos (show nI t.2.1 = nI 2 by rw [c2]), if_neg (show ¬ ¬ t.2.1 = 2 from fun e => e c2), bd_s, bd_s, wI_ne (by decide), f2]
      have hn : t.2.2 - t.1 ≤ 2 := by
        rcases Nat.lt_or_ge 2 (t.2.2 - t.1) with h | h
        · exact absurd (bad_iff.mpr (Or.inr ⟨c2, h⟩)) cb
        · exact h
      have hrun : ∀ j, t.1 ≤ j → j < t.2.2 → 48 ≤ b j ∧ b j ≤ 57 ∧ j < len := by
        intro j h1 h2
        obtain ⟨t1, t2, t3, t4, t5⟩ := hT
        rcases t5 with ⟨a, b', c⟩ | ⟨a, b', c, d, e, f⟩
        · omega
        · have := (f (by omega)).1 j h1 h2
          rw [c2] at this
          have := tkb_2.mp this
          exact ⟨this.1, this.2, by omega⟩
      obtain ⟨u, k1, k2, k3, k4⟩ := lp_inv (body := fun q : Int32 × St => f_X5_readNumber_L33 (nI lo) (nI hi) q.1 q.2) (fun i q => q.1 = nI (t.1 + i) ∧ F3 s q.2 ∧ q.2.1 33 2 = nI 0 ∧ q.2.1 33 3 = nI t.1 ∧ q.2.1 33 4 = nI t.2.2 ∧ q.2.1 33 6 = nI (nvj b t.1 i)) (fun u => F3 s u.2 ∧ u.2.1 33 3 = nI t.1 ∧ CN u.2 u.1 (if lo ≤ nv b t ∧ nv b t ≤ hi then Sum.inr (nv b t, t.2.2) else Sum.inl (3, t.1))) (t.2.2 - t.1) (fun i q hi' hq => by
        obtain ⟨x, y⟩ := q
        obtain ⟨q1, q2, q3, q4, q5, q6⟩ := hq
        dsimp only at q1 q2 q3 q4 q5 q6 ⊢
        subst q1
        obtain ⟨r1, r2, r3⟩ := hrun (t.1 + i) (by omega) (by omega)
        obtain ⟨y1, y2⟩ := (hB.f3 q2).2.2 (t.1 + i) r3
        unfold f_X5_readNumber_L33
        rw [q5, if_neg (nI_ge (by omega) (by omega)), if_pos (ib34 (by omega)), bd_s, nI_clamp (by omega), q6, y2, pk_mul, nI_add, nI_add, pk_sub (by omega)]
        refine ⟨_, rfl, rfl, q2.tr (F3.wi (by decide) (by decide)), ?_, ?_, ?_, ?_⟩
        · dsimp only; rw [wI_ne (by decide)]; exact q3
        · dsimp only; rw [wI_ne (by decide)]; exact q4
        · dsimp only; rw [wI_ne (by decide)]; exact q5
        · dsimp only; rw [wI_at, nvj_s, Nat.add_sub_assoc r1]) (fun q hq => by
        obtain ⟨x, y⟩ := q
        obtain ⟨q1, q2, q3, q4, q5, q6⟩ := hq
        dsimp only at q1 q2 q3 q4 q5 q6 ⊢
        subst q1
        have hv : y.1 33 6 = nI (nv b t) := q6
        have h99 : nv b t ≤ 99 := nvj_le hn (fun i hi => (hrun (t.1 + i) (by omega) (by omega)).2.1)
        unfold f_X5_readNumber_L33
        rw [q5, if_pos (nI_le (by omega) (by omega)), hv, b_isWithin _ hlo hhi, cl_s, nI_toInt (by omega)]
        by_cases c3 : lo ≤ nv b t ∧ nv b t ≤ hi
        · rw [if_pos (show (lo : Int) ≤ ((nv b t : Nat) : Int) ∧ ((nv b t : Nat) : Int) ≤ (hi : Int) by omega), if1, if_pos c3]
          exact ⟨_, rfl, q2, q4, rfl, q3, q5, hv⟩
        · rw [if_neg (show ¬ ((lo : Int) ≤ ((nv b t : Nat) : Int) ∧ ((nv b t : Nat) : Int) ≤ (hi : Int)) by omega), if0, c_refuse, cl_s, if0', if_neg c3]
          refine ⟨_, rfl, q2.tr (F3.wi (by decide) (by decide)), ?_, rfl, ?_, ?_⟩
          · dsimp only; rw [wI_ne (by decide)]; exact q4
          · dsimp only; rw [wI_at]
          · dsimp only; rw [wI_ne (by decide)]; exact q4) (q := (nI t.1, wI s1 33 6 (nI 0))) ⟨rfl, f1.tr (F3.wi (by decide) (by decide)), by dsimp only; rw [wI_ne (by decide)]; exact f5, by dsimp only; rw [wI_ne (by decide)]; exact f2, by dsimp only; rw [wI_ne (by decide)]; exact f3, by dsimp only; rw [wI_at]; rfl⟩ (Fu_lt (by omega))
      exact ⟨u.1, u.2, k1, k2, k3, k4⟩
    · rw [if_pos (show ¬ t.2.1 = 2 from c2), if_neg (show ¬ nI t.2.1 = nI 2 from fun e => c2 ((nI_eq (by omega) (by omega)).mp e)), c_refuse, cl_s, if_pos or01]
      refine ⟨_, _, rfl, f1.tr (F3.wi (by decide) (by decide)), ?_, rfl, ?_, ?_⟩
      · rw [wI_ne (by decide)]; exact f2
      · rw [wI_at]
      · rw [wI_ne (by decide)]; exact f2
def CC (s2 : St) (x : Int32) (r : (Nat × Nat) ⊕ (Nat × Nat)) : Prop := Sum.elim (CE s2 x) (fun c => x = nI 1 ∧ s2.1 33 2 = nI 0 ∧ s2.1 33 4 = nI c.2 ∧ ∃ v, v < 50 ∧ v % 10 < 4 ∧ c.1 = 4 * (v / 10) + v % 10 ∧ s2.1 33 6 = nI v) r
/-- a NUMBER of at most 99 that names a CELL -/
def rdCell (s : St) : Option (Int32 × St) := cl (f_X5_readNumber (nI 0) (nI 99) s) (fun x2 s1 => if x2 = 0 then (some (((nI 0), s1))) else f_X5_namesCell s1)
theorem rdCell_cl {s : St} {K : St → Option (Int32 × St)} : cl (f_X5_readNumber (nI 0) (nI 99) s) (fun x5 s4 => if x5 = 0 then (some (((nI 0), s4))) else (cl (f_X5_namesCell s4) (fun x8 s7 => if ¬ x8 = 0 then K s7 else (some (((nI 0), s7)))))) = cl (rdCell s) (fun x8 s7 => if ¬ x8 = 0 then K s7 else (some (((nI 0), s7)))) := by
  unfold rdCell
  cases f_X5_readNumber (nI 0) (nI 99) s with
  | none => rfl
  | some q =>
    obtain ⟨x, y⟩ := q
    rw [cl_s, cl_s]
    by_cases h : x = 0
    · rw [if_pos h, if_pos h, cl_s, if0]
    · rw [if_neg h, if_neg h]
theorem c_cell {s : St} {b : Nat → Nat} {len p : Nat} (hB : CB s b len) (hp : p ≤ len) (h4 : s.1 33 4 = nI p) (h2 : s.1 33 2 = nI 0) : ∃ x s2, rdCell s = some (x, s2) ∧ F3 s s2 ∧ CC s2 x (mCell b len p) := by
  obtain ⟨x, s1, e1, f1, f3, n1⟩ := c_num (lo := 0) (hi := 99) hB hp h4 h2 (by decide) (by decide)
  unfold rdCell mCell
  rw [e1, cl_s]
  cases hm : mNum b len p 0 99 with
  | inl e =>
    rw [hm] at n1
    obtain ⟨rfl, n2, n3⟩ := n1
    rw [if0', an_l]
    exact ⟨_, _, rfl, f1, rfl, n2, n3⟩
  | inr v =>
    rw [hm] at n1
    obtain ⟨rfl, n2, n3, n4⟩ := n1
    obtain ⟨k1, k2, k3, k4⟩ := mNum_r hp hm
    rw [if1', an_r]
    unfold f_X5_namesCell
    rw [n4]
    by_cases c : v.1 < 50 ∧ v.1 % 10 < 4
    · rw [b_isCell c.1 c.2, cl_s, if1, if_pos c]
      exact ⟨_, _, rfl, f1, rfl, n2, n3, v.1, c.1, c.2, rfl, n4⟩
    · rw [b_isCell_n (fun ⟨n, e, h1, h2⟩ => c (by
        rw [nI_eq (by omega) (by omega)] at e
        rw [e]
        exact ⟨h1, h2⟩)), cl_s, if0, c_refuse, cl_s, if0', if_neg c]
      refine ⟨_, _, rfl, f1.tr (F3.wi (by decide) (by decide)), rfl, ?_, ?_⟩
      · rw [wI_at]
      · rw [wI_ne (by decide)]; exact f3
theorem c_isWord {s : St} {b : Nat → Nat} {len q r i : Nat} (hB : CB s b len) (h3 : s.1 33 3 = nI q) (h4 : s.1 33 4 = nI r) (hq : q ≤ r) (hr : r ≤ len) (hi : i < 7) : f_X5_isWord i s = some (if wq b q r i = true then nI 1 else nI 0, s) := by
  have hl := lenS_ok i hi
  have hlen := hB.1
  unfold f_X5_isWord f_J0_length_8abf5
  rw [if_pos hi, cl_s, h4, h3, pk_sub hq]
  by_cases e : r - q = lenS.getD i 0
  · rw [if_pos (by rw [e])]
    obtain ⟨t, k1, k2⟩ := lp_brk (body := fun x : Int32 × St => f_X5_isWord_L20 i x.1 x.2) (fun k x => x.1 = nI k ∧ x.2 = s ∧ ∀ j, j < k → nI (b (q + j)) = chS i j) (fun t => t = (if wq b q r i = true then nI 1 else nI 0, s)) (lenS.getD i 0) (fun k x hk hx => by
      obtain ⟨x, y⟩ := x
      obtain ⟨x1, x2, x3⟩ := hx
      dsimp only at x1 x2 ⊢
      subst x1
      rw [x2]
      obtain ⟨y1, y2⟩ := hB.2.2 (q + k) (by omega)
      unfold f_X5_isWord_L20 f_J0_length_8abf5 f_J0_charAt_5068e
      rw [if_pos hi, cl_s, if_neg (nI_ge hk (by omega)), h3, nI_add, if_pos (ib34 (by omega)), if_pos ⟨hi, inb_t hk (by omega)⟩, cl_s, nI_clamp (by omega), nI_clamp (by omega), y2]
      by_cases c : nI (b (q + k)) = chS i k
      · rw [if_pos c]
        refine Or.inl ⟨_, rfl, by dsimp only; rw [nI_add], rfl, fun j hj => ?_⟩
        by_cases ej : j = k
        · rw [ej]; exact c
        · exact x3 j (by omega)
      · rw [if_neg c]
        refine Or.inr ⟨_, rfl, ?_⟩
        rw [if_neg (fun h => c ((wq_iff.mp h).2 k hk))]) (fun x hx => by
      obtain ⟨x, y⟩ := x
      obtain ⟨x1, x2, x3⟩ := hx
      dsimp only at x1 x2 ⊢
      subst x1
      rw [x2]
      unfold f_X5_isWord_L20 f_J0_length_8abf5
      rw [if_pos hi, cl_s, if_pos (nI_le (Nat.le_refl _) (by omega))]
      refine ⟨_, rfl, ?_⟩
      rw [if_pos (wq_iff.mpr ⟨e, x3⟩)]) (q := (nI 0, s)) ⟨rfl, rfl, fun j hj => absurd hj (by omega)⟩ (Fu_lt (by omega))
    rw [k1, k2]
  · rw [if_neg (fun h => e ((nI_eq (by omega) (by omega)).mp h)), if_neg (fun h => e (wq_iff.mp h).1)]
theorem c_word {s : St} {b : Nat → Nat} {len q r : Nat} (hB : CB s b len) (h3 : s.1 33 3 = nI q) (h4 : s.1 33 4 = nI r) (hq : q ≤ r) (hr : r ≤ len) : f_X5_wordRead s = some (nI (wd b q r), s) := by
  unfold f_X5_wordRead wd
  rw [c_isWord hB h3 h4 hq hr (show 0 < 7 by decide), cl_s]
  by_cases c0 : wq b q r 0 = true
  · simp only [if_pos c0]; rw [if1']
  simp only [if_neg c0]
  rw [if0', c_isWord hB h3 h4 hq hr (show 1 < 7 by decide), cl_s]
  by_cases c1 : wq b q r 1 = true
  · simp only [if_pos c1]; rw [if1']
  simp only [if_neg c1]
  rw [if0', c_isWord hB h3 h4 hq hr (show 2 < 7 by decide), cl_s]
  by_cases c2 : wq b q r 2 = true
  · simp only [if_pos c2]; rw [if1']
  simp only [if_neg c2]
  rw [if0', c_isWord hB h3 h4 hq hr (show 3 < 7 by decide), cl_s]
  by_cases c3 : wq b q r 3 = true
  · simp only [if_pos c3]; rw [if1']
  simp only [if_neg c3]
  rw [if0', c_isWord hB h3 h4 hq hr (show 4 < 7 by decide), cl_s]
  by_cases c4 : wq b q r 4 = true
  · simp only [if_pos c4]; rw [if1']
  simp only [if_neg c4]
  rw [if0', c_isWord hB h3 h4 hq hr (show 5 < 7 by decide), cl_s]
  by_cases c5 : wq b q r 5 = true
  · simp only [if_pos c5]; rw [if1']
  simp only [if_neg c5]
  rw [if0', c_isWord hB h3 h4 hq hr (show 6 < 7 by decide), cl_s]
  by_cases c6 : wq b q r 6 = true
  · simp only [if_pos c6]; rw [if1']
  simp only [if_neg c6]
  rw [if0']

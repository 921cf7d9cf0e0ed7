/-! the reference reads numbers, CELLS, words -/
def F7 (s s2 : St) : Prop := (∀ k, k ≠ 189 → k ≠ 193 → s2.1 k = s.1 k) ∧ ∀ j, ¬ (6 ≤ j ∧ j ≤ 9) → ¬ (12 ≤ j ∧ j ≤ 17) → s2.1 189 j = s.1 189 j
theorem F7.rf {s : St} : F7 s s := ⟨fun _ _ _ => rfl, fun _ _ _ => rfl⟩
theorem F7.tr {s s2 s3 : St} (h : F7 s s2) (h2 : F7 s2 s3) : F7 s s3 := ⟨fun k a b => (h2.1 k a b).trans (h.1 k a b), fun j a b => (h2.2 j a b).trans (h.2 j a b)⟩
theorem T7.f7 {s s2 : St} (h : T7 s s2) : F7 s s2 := ⟨fun k a _ => h.1 k a, fun j _ b => h.2 j b⟩
theorem F7.w3 {s : St} {i : Nat} {x : Int32} : F7 s (wI s 193 i x) := ⟨fun k _ b => wI_1o b, fun j _ _ => by rw [wI_1o (by decide)]⟩
theorem F7.w9 {s : St} {i : Nat} {x : Int32} (h1 : 6 ≤ i) (h2 : i ≤ 9) : F7 s (wI s 189 i x) := ⟨fun k a _ => wI_1o a, fun j a _ => wI_ne (by omega)⟩
theorem RB.f7 {s s2 : St} {b : Nat → Nat} {len : Nat} (h : RB s b len) (hF : F7 s s2) : RB s2 b len := ⟨h.1, by rw [hF.2 11 (by omega) (by omega)]; exact h.2.1, fun i hi => ⟨(h.2.2 i hi).1, by rw [hF.1 194 (by decide) (by decide)]; exact (h.2.2 i hi).2⟩⟩
/-- a fault is found: e says why, and where -/
def Fl (s : St) (e : Nat × Nat) : Prop := 1 ≤ e.1 ∧ e.1 ≤ 5 ∧ s.1 189 16 = nI e.1 ∧ s.1 189 17 = nI e.2
theorem Fl.ne {s : St} {e : Nat × Nat} (h : Fl s e) : ¬ s.1 189 16 = 0 := by
  rw [h.2.2.1]
  exact nI_ne0 (by have := h.1; omega) (by have := h.2.1; omega)
theorem Fl.cg {s s2 : St} {e : Nat × Nat} (h : Fl s e) (hF : ∀ j, 12 ≤ j → j ≤ 17 → s2.1 189 j = s.1 189 j) : Fl s2 e := ⟨h.1, h.2.1, by rw [hF 16 (by decide) (by decide)]; exact h.2.2.1, by rw [hF 17 (by decide) (by decide)]; exact h.2.2.2⟩
theorem RA.cg {s s2 : St} {b : Nat → Nat} {t : Nat × Nat × Nat} (h : RA s b t) (hF : ∀ j, 12 ≤ j → j ≤ 17 → s2.1 189 j = s.1 189 j) : RA s2 b t := by
  unfold RA at h ⊢
  rw [hF 12 (by decide) (by decide), hF 13 (by decide) (by decide), hF 14 (by decide) (by decide), hF 15 (by decide) (by decide), hF 16 (by decide) (by decide), hF 17 (by decide) (by decide)]
  exact h
theorem RA.fl {s : St} {b : Nat → Nat} {t : Nat × Nat × Nat} (h : RA s b t) (hb : bad t = true) : Fl s (1, t.1) := ⟨(show 1 ≤ 1 by decide), (show 1 ≤ 5 by decide), by rw [h.2.2.2.2.1, if_pos hb], h.2.2.2.2.2 hb⟩
theorem RA.f0 {s : St} {b : Nat → Nat} {t : Nat × Nat × Nat} (h : RA s b t) (hb : ¬ bad t = true) : s.1 189 16 = nI 0 := by rw [h.2.2.2.2.1, if_neg hb]
theorem RA.so {s : St} {b : Nat → Nat} {t : Nat × Nat × Nat} (h : RA s b t) (hb : ¬ bad t = true) : s.1 189 14 = nI t.2.1 := by
  rw [h.2.2.1, if_neg (fun e => hb (bad_iff.mpr (Or.inl e)))]
theorem w39 {s : St} {i : Nat} {x : Int32} : ∀ j, 12 ≤ j → j ≤ 17 → (wI s 193 i x).1 189 j = s.1 189 j := fun j _ _ => by rw [wI_1o (by decide)]
theorem w99 {s : St} {i : Nat} {x : Int32} (h : i ≤ 9) : ∀ j, 12 ≤ j → j ≤ 17 → (wI s 189 i x).1 189 j = s.1 189 j := fun j _ _ => wI_ne (by omega)
theorem r_lookF {s : St} {a b : Int32} (h : ¬ s.1 189 16 = 0) : f_X7_looked a b s = some (nI 0, s) := by
  unfold f_X7_looked f_X7_looked_J25 f_X7_looked_J49
  rw [if_pos h, if_pos h, if_pos h]
theorem r_takesF {s : St} {e : Nat × Nat} (h : Fl s e) : f_X7_takes s = some ((), s) := by
  unfold f_X7_takes
  rw [if_neg]
  rw [h.2.2.1, nI_le0 (by have := h.2.1; omega)]
  have := h.1
  omega
theorem r_numF {s : St} {e : Nat × Nat} {a b : Int32} (h : Fl s e) : f_X7_readNumber a b s = some (nI 0, s) := by
  unfold f_X7_readNumber
  rw [r_lookF h.ne, cl_s, r_takesF h, cl_s]
theorem r_cellF {s : St} {e : Nat × Nat} (h : Fl s e) : f_X7_readCell s = some (nI 0, s) := by
  unfold f_X7_readCell
  rw [r_lookF h.ne, cl_s, b7_isCell (by decide) (by decide), cl_s, r_need1, cl_s, r_takesF h, cl_s, if_pos h.ne]
theorem fl_w {s : St} {c q : Nat} (h1 : 1 ≤ c) (h2 : c ≤ 5) : Fl (wI (wI s 189 16 (nI c)) 189 17 (nI q)) (c, q) := ⟨h1, h2, by rw [wI_ne (by decide), wI_at], by rw [wI_at]⟩
theorem t7_w {s : St} {x y : Int32} : T7 s (wI (wI s 189 16 x) 189 17 y) := (T7.wi (by decide) (by decide)).tr (T7.wi (by decide) (by decide))
def RK (s s2 : St) (x : Int32) (r : (Nat × Nat) ⊕ (Nat × Nat)) : Prop := Sum.elim (fun e => x = nI 0 ∧ Fl s2 e) (fun v => x = nI v.1 ∧ s2 = s) r
theorem r_look {s : St} {b : Nat → Nat} {len p lo hi : Nat} (hp : p ≤ len) (hlen : len ≤ 160) (hA : RA s b (tok b len p)) (hlo : lo < 2 ^ 31) (hhi : hi < 2 ^ 31) : ∃ x s2, f_X7_looked (nI lo) (nI hi) s = some (x, s2) ∧ T7 s s2 ∧ RK s s2 x (mNum b len p lo hi) := by
  have hT := tok_ok (b := b) hp
  unfold mNum
  generalize tok b len p = t at *
  have hle := hT.le
  by_cases cb : bad t = true
  · rw [if_pos cb, r_lookF (hA.fl cb).ne]
    exact ⟨_, _, rfl, T7.rf, rfl, hA.fl cb⟩
  · have h16 := hA.f0 cb
    have h14 := hA.so cb
    rw [if_neg cb]
    unfold f_X7_looked
    rw [h16, if0, h14]
    by_cases c2 : t.2.1 = 2
    · rw [if_neg (show ¬ ¬ nI t.2.1 = nI 2 from fun e => e (by rw [c2])), if_neg (show ¬ ¬ t.2.1 = 2 from fun e => e c2)]
      have h15 := hA.2.2.2.1 c2 cb
      have hn : t.2.2 - t.1 ≤ 2 := by
        rcases Nat.lt_or_ge 2 (t.2.2 - t.1) with h | h
        · exact absurd (bad_iff.mpr (Or.inr ⟨c2, h⟩)) cb
        · exact h
      have h99 : nv b t ≤ 99 := by
        refine nvj_le hn (fun i hi => ?_)
        obtain ⟨t1, t2, t3, t4, t5⟩ := hT
        rcases t5 with ⟨a, b', c⟩ | ⟨a, b', c, d, e, f⟩
        · omega
        · have := (f (by omega)).1 (t.1 + i) (by omega) (by omega)
          rw [c2] at this
          exact (tkb_2.mp this).2
      unfold f_X7_looked_J21 f_X7_looked_J25
      rw [r_need1, cl_s, h16, if0, h15, nI_l hlo, nI_l hhi, b7_win _ hlo hhi, cl_s, nI_toInt (by omega)]
      by_cases c3 : lo ≤ nv b t ∧ nv b t ≤ hi
      · rw [if_pos (show (lo : Int) ≤ ((nv b t : Nat) : Int) ∧ ((nv b t : Nat) : Int) ≤ (hi : Int) by omega), r_need1, cl_s, if_pos c3]
        unfold f_X7_looked_J49
        rw [h16, if0, h15]
        exact ⟨_, _, rfl, T7.rf, rfl, rfl⟩
      · rw [if_neg (show ¬ ((lo : Int) ≤ ((nv b t : Nat) : Int) ∧ ((nv b t : Nat) : Int) ≤ (hi : Int)) by omega), r_need0 h16 hA.2.1, cl_s, if_neg c3]
        have hF : Fl (wI (wI s 189 16 (nI 3)) 189 17 (nI t.1)) (3, t.1) := fl_w (by decide) (by decide)
        unfold f_X7_looked_J49
        rw [if_pos hF.ne]
        exact ⟨_, _, rfl, t7_w, rfl, hF⟩
    · rw [if_pos (show ¬ nI t.2.1 = nI 2 from fun e => c2 ((nI_eq (by omega) (by omega)).mp e)), if_pos (show ¬ t.2.1 = 2 from c2)]
      have hF : Fl (wI (wI s 189 16 (nI 2)) 189 17 (nI t.1)) (2, t.1) := fl_w (by decide) (by decide)
      unfold f_X7_looked_J21 f_X7_looked_J25 f_X7_looked_J49
      rw [r_need0 h16 hA.2.1, cl_s, if_pos hF.ne, if_pos hF.ne]
      exact ⟨_, _, rfl, t7_w, rfl, hF⟩
theorem mNum_at {b : Nat → Nat} {len p lo hi : Nat} {v : Nat × Nat} (h : mNum b len p lo hi = Sum.inr v) : v.2 = (tok b len p).2.2 ∧ ¬ bad (tok b len p) = true := by
  unfold mNum at h
  by_cases c1 : bad (tok b len p) = true
  · rw [if_pos c1] at h; cases h
  · rw [if_neg c1] at h
    by_cases c2 : (tok b len p).2.1 = 2
    · rw [if_neg (fun e => e c2)] at h
      by_cases c3 : lo ≤ nv b (tok b len p) ∧ nv b (tok b len p) ≤ hi
      · rw [if_pos c3] at h
        injection h with h
        subst h
        exact ⟨rfl, c1⟩
      · rw [if_neg c3] at h; cases h
    · rw [if_pos c2] at h; cases h
theorem mNum_bad {b : Nat → Nat} {len p lo hi : Nat} (h : bad (tok b len p) = true) : mNum b len p lo hi = Sum.inl (1, (tok b len p).1) := by
  unfold mNum
  rw [if_pos h]
def RN (s2 : St) (x : Int32) (b : Nat → Nat) (len : Nat) (r : (Nat × Nat) ⊕ (Nat × Nat)) : Prop := Sum.elim (fun e => x = nI 0 ∧ Fl s2 e) (fun v => x = nI v.1 ∧ RA s2 b (tok b len v.2)) r
theorem r_num {s : St} {b : Nat → Nat} {len p lo hi : Nat} (hB : RB s b len) (hp : p ≤ len) (hA : RA s b (tok b len p)) (hlo : lo < 2 ^ 31) (hhi : hi < 2 ^ 31) : ∃ x s2, f_X7_readNumber (nI lo) (nI hi) s = some (x, s2) ∧ T7 s s2 ∧ RN s2 x b len (mNum b len p lo hi) := by
  obtain ⟨x, s1, e1, f1, n1⟩ := r_look hp hB.1 hA hlo hhi
  unfold f_X7_readNumber
  rw [e1, cl_s]
  cases hm : mNum b len p lo hi with
  | inl e =>
    rw [hm] at n1
    obtain ⟨rfl, n2⟩ := n1
    rw [r_takesF n2, cl_s]
    exact ⟨_, _, rfl, f1, rfl, n2⟩
  | inr v =>
    rw [hm] at n1
    obtain ⟨rfl, rfl⟩ := n1
    obtain ⟨v2, cb⟩ := mNum_at hm
    obtain ⟨k1, k2, k3, k4⟩ := mNum_r hp hm
    obtain ⟨s3, e3, f3, n3⟩ := r_takes (p := v.2) hB k2 (by rw [v2]; exact hA.1) (hA.f0 cb)
    rw [e3, cl_s]
    exact ⟨_, _, rfl, f3, rfl, n3⟩
def RC (s2 : St) (x : Int32) (b : Nat → Nat) (len : Nat) (r : (Nat × Nat) ⊕ (Nat × Nat)) : Prop := Sum.elim (fun e => Fl s2 e) (fun v => (¬ bad (tok b len v.2) = true → x = nI v.1) ∧ RA s2 b (tok b len v.2)) r
theorem r_cell {s : St} {b : Nat → Nat} {len p : Nat} (hB : RB s b len) (hp : p ≤ len) (hA : RA s b (tok b len p)) : ∃ x s2, f_X7_readCell s = some (x, s2) ∧ T7 s s2 ∧ RC s2 x b len (mCell b len p) := by
  obtain ⟨x, s1, e1, f1, n1⟩ := r_look (lo := 0) (hi := 99) hp hB.1 hA (by decide) (by decide)
  unfold f_X7_readCell mCell
  rw [e1, cl_s]
  cases hm : mNum b len p 0 99 with
  | inl e =>
    rw [hm] at n1
    obtain ⟨rfl, n2⟩ := n1
    rw [b7_isCell (by decide) (by decide), cl_s, r_need1, cl_s, r_takesF n2, cl_s, if_pos n2.ne, an_l]
    exact ⟨_, _, rfl, f1, n2⟩
  | inr v =>
    rw [hm] at n1
    obtain ⟨rfl, rfl⟩ := n1
    obtain ⟨v2, cb⟩ := mNum_at hm
    obtain ⟨k1, k2, k3, k4⟩ := mNum_r hp hm
    rw [an_r]
    by_cases c : v.1 < 50 ∧ v.1 % 10 < 4
    · obtain ⟨s3, e3, f3, n3⟩ := r_takes (p := v.2) hB k2 (by rw [v2]; exact hA.1) (hA.f0 cb)
      rw [b7_isCell c.1 c.2, cl_s, r_need1, cl_s, e3, cl_s, if_pos c]
      by_cases cb2 : bad (tok b len v.2) = true
      · rw [if_pos (n3.fl cb2).ne]
        exact ⟨_, _, rfl, f3, fun h => absurd cb2 h, n3⟩
      · rw [n3.f0 cb2, if0, b7_cellOf c.1, cl_s]
        exact ⟨_, _, rfl, f3, fun _ => rfl, n3⟩
    · have hF : Fl (wI (wI s1 189 16 (nI 3)) 189 17 (nI (tok b len p).1)) (3, (tok b len p).1) := fl_w (by decide) (by decide)
      rw [b7_isCell_n (fun ⟨n, e, h1, h2⟩ => c (by
        rw [nI_eq (by omega) (by omega)] at e
        rw [e]
        exact ⟨h1, h2⟩)), cl_s, r_need0 (hA.f0 cb) hA.2.1, cl_s, r_takesF hF, cl_s, if_pos hF.ne, if_neg c]
      exact ⟨_, _, rfl, t7_w, hF⟩
theorem r_is {s : St} {b : Nat → Nat} {len q r n : Nat} {c0 c1 c2 : Int32} (hB : RB s b len) (h12 : s.1 189 12 = nI r) (h13 : s.1 189 13 = nI q) (hq : q ≤ r) (hr : r ≤ len) (hn : n < 1000) : f_X7_is (nI n) c0 c1 c2 s = some (if r - q = n ∧ byt b len q = c0 ∧ byt b len (q + 1) = c1 ∧ byt b len (q + 2) = c2 then nI 1 else nI 0, s) := by
  have hlen := hB.1
  unfold f_X7_is
  rw [h12, h13, pk_sub hq]
  by_cases e : r - q = n
  · rw [if_neg (fun h => h (by rw [e])), r_byte hB (by omega), cl_s]
    by_cases e0 : byt b len q = c0
    · rw [if_neg (fun h => h e0), h13, nI_add, r_byte hB (by omega), cl_s]
      by_cases e1 : byt b len (q + 1) = c1
      · rw [if_neg (fun h => h e1), h13, nI_add, r_byte hB (by omega), cl_s]
        by_cases e2 : byt b len (q + 2) = c2
        · rw [if_neg (fun h => h e2), if_pos ⟨e, e0, e1, e2⟩]
        · rw [if_pos e2, if_neg (fun h => e2 h.2.2.2)]
      · rw [if_pos e1, if_neg (fun h => e1 h.2.2.1)]
    · rw [if_pos e0, if_neg (fun h => e0 h.2.1)]
  · rw [if_pos (fun h => e ((nI_eq (by omega) (by omega)).mp h)), if_neg (fun h => e h.1)]
theorem r_ends {s : St} {b : Nat → Nat} {len q : Nat} {c3 c4 c5 : Int32} (hB : RB s b len) (h13 : s.1 189 13 = nI q) (hq : q ≤ len) : f_X7_ends c3 c4 c5 s = some (if byt b len (q + 3) = c3 ∧ (c4 = 0 ∨ byt b len (q + 4) = c4) ∧ (c5 = 0 ∨ byt b len (q + 5) = c5) then nI 1 else nI 0, s) := by
  have hlen := hB.1
  have hJ : f_X7_ends_J32 c5 s = some (if c5 = 0 ∨ byt b len (q + 5) = c5 then nI 1 else nI 0, s) := by
    unfold f_X7_ends_J32
    by_cases e5 : c5 = 0
    · rw [if_pos e5, if_pos (Or.inl e5)]
    · rw [if_neg e5, h13, nI_add, r_byte hB (by omega), cl_s]
      by_cases e6 : byt b len (q + 5) = c5
      · rw [if_neg (fun h => h e6), if_pos (Or.inr e6)]
      · rw [if_pos e6, if_neg (fun h => h.elim e5 e6)]
  unfold f_X7_ends
  rw [h13, nI_add, r_byte hB (by omega), cl_s]
  by_cases e3 : byt b len (q + 3) = c3
  · rw [if_neg (fun h => h e3)]
    by_cases e4 : c4 = 0
    · rw [if_pos e4, hJ]
      by_cases c : c5 = 0 ∨ byt b len (q + 5) = c5
      · rw [if_pos c, if_pos ⟨e3, Or.inl e4, c⟩]
      · rw [if_neg c, if_neg (fun h => c h.2.2)]
    · rw [if_neg e4, h13, nI_add, r_byte hB (by omega), cl_s]
      by_cases e5 : byt b len (q + 4) = c4
      · rw [if_neg (fun h => h e5), hJ]
        by_cases c : c5 = 0 ∨ byt b len (q + 5) = c5
        · rw [if_pos c, if_pos ⟨e3, Or.inr e5, c⟩]
        · rw [if_neg c, if_neg (fun h => c h.2.2)]
      · rw [if_pos e5, if_neg (fun h => h.2.1.elim e4 e5)]
  · rw [if_pos e3, if_neg (fun h => e3 h.1)]
theorem r_ww {α : Type} {A C : St → Option α} {s : St} {b : Nat → Nat} {len q r n i : Nat} {c0 c1 c2 c3 c4 c5 : Int32} (hB : RB s b len) (h12 : s.1 189 12 = nI r) (h13 : s.1 189 13 = nI q) (hq : q ≤ r) (hr : r ≤ len) (hn : n < 1000) (hW : ((r - q = n ∧ byt b len q = c0 ∧ byt b len (q + 1) = c1 ∧ byt b len (q + 2) = c2) ∧ byt b len (q + 3) = c3 ∧ (c4 = 0 ∨ byt b len (q + 4) = c4) ∧ (c5 = 0 ∨ byt b len (q + 5) = c5)) ↔ wq b q r i = true) : cl (f_X7_is (nI n) c0 c1 c2 s) (fun x2 s1 => if x2 = 0 then A s1 else (cl (f_X7_ends c3 c4 c5 s1) (fun x5 s4 => if x5 = 0 then A s4 else C s4))) = if wq b q r i = true then C s else A s := by
  rw [r_is hB h12 h13 hq hr hn, cl_s]
  by_cases c : r - q = n ∧ byt b len q = c0 ∧ byt b len (q + 1) = c1 ∧ byt b len (q + 2) = c2
  · rw [if_pos c, if1', r_ends hB h13 (by omega), cl_s]
    by_cases d : byt b len (q + 3) = c3 ∧ (c4 = 0 ∨ byt b len (q + 4) = c4) ∧ (c5 = 0 ∨ byt b len (q + 5) = c5)
    · rw [if_pos d, if1', if_pos (hW.mp ⟨c, d⟩)]
    · rw [if_neg d, if0', if_neg (fun h => d (hW.mpr h).2)]
  · rw [if_neg c, if0', if_neg (fun h => c (hW.mpr h).1)]
theorem byt_in {b : Nat → Nat} {len j : Nat} (h : j < len) : byt b len j = nI (b j) := if_pos h
theorem w5 {b : Nat → Nat} {len q r i : Nat} {c0 c1 c2 c3 c4 : Int32} (hr : r ≤ len) (hl : lenS.getD i 0 = 5) (e0 : chS i 0 = c0) (e1 : chS i 1 = c1) (e2 : chS i 2 = c2) (e3 : chS i 3 = c3) (e4 : chS i 4 = c4) (h4 : ¬ c4 = 0) : ((r - q = 5 ∧ byt b len q = c0 ∧ byt b len (q + 1) = c1 ∧ byt b len (q + 2) = c2) ∧ byt b len (q + 3) = c3 ∧ (c4 = 0 ∨ byt b len (q + 4) = c4) ∧ (nI 0 = 0 ∨ byt b len (q + 5) = nI 0)) ↔ wq b q r i = true := by
  rw [wq_iff, hl]
  constructor
  · intro ⟨⟨a, a0, a1, a2⟩, a3, a4, a5⟩
    have a4' : byt b len (q + 4) = c4 := a4.resolve_left h4
    rw [byt_in (by omega)] at a0 a1 a2 a3 a4'
    refine ⟨a, fun j hj => ?_⟩
    rcases (show j = 0 ∨ j = 1 ∨ j = 2 ∨ j = 3 ∨ j = 4 by omega) with rfl | rfl | rfl | rfl | rfl
    · rw [e0]; exact a0
    · rw [e1]; exact a1
    · rw [e2]; exact a2
    · rw [e3]; exact a3
    · rw [e4]; exact a4'
  · intro ⟨a, h⟩
    have a0 := h 0 (by decide)
    have a1 := h 1 (by decide)
    have a2 := h 2 (by decide)
    have a3 := h 3 (by decide)
    have a4 := h 4 (by decide)
    rw [e0] at a0
    rw [e1] at a1
    rw [e2] at a2
    rw [e3] at a3
    rw [e4] at a4
    refine ⟨⟨a, ?_, ?_, ?_⟩, ?_, Or.inr ?_, Or.inl (by decide)⟩
    all_goals rw [byt_in (by omega)]; assumption
theorem w4 {b : Nat → Nat} {len q r i : Nat} {c0 c1 c2 c3 : Int32} (hr : r ≤ len) (hl : lenS.getD i 0 = 4) (e0 : chS i 0 = c0) (e1 : chS i 1 = c1) (e2 : chS i 2 = c2) (e3 : chS i 3 = c3) : ((r - q = 4 ∧ byt b len q = c0 ∧ byt b len (q + 1) = c1 ∧ byt b len (q + 2) = c2) ∧ byt b len (q + 3) = c3 ∧ (nI 0 = 0 ∨ byt b len (q + 4) = nI 0) ∧ (nI 0 = 0 ∨ byt b len (q + 5) = nI 0)) ↔ wq b q r i = true := by
  rw [wq_iff, hl]
  constructor
  · intro ⟨⟨a, a0, a1, a2⟩, a3, a4, a5⟩
    rw [byt_in (by omega)] at a0 a1 a2 a3
    refine ⟨a, fun j hj => ?_⟩
    rcases (show j = 0 ∨ j = 1 ∨ j = 2 ∨ j = 3 by omega) with rfl | rfl | rfl | rfl
    · rw [e0]; exact a0
    · rw [e1]; exact a1
    · rw [e2]; exact a2
    · rw [e3]; exact a3
  · intro ⟨a, h⟩
    have a0 := h 0 (by decide)
    have a1 := h 1 (by decide)
    have a2 := h 2 (by decide)
    have a3 := h 3 (by decide)
    rw [e0] at a0
    rw [e1] at a1
    rw [e2] at a2
    rw [e3] at a3
    refine ⟨⟨a, ?_, ?_, ?_⟩, ?_, Or.inl (by decide), Or.inl (by decide)⟩
    all_goals rw [byt_in (by omega)]; assumption
theorem w6 {b : Nat → Nat} {len q r i : Nat} {c0 c1 c2 c3 c4 c5 : Int32} (hr : r ≤ len) (hl : lenS.getD i 0 = 6) (e0 : chS i 0 = c0) (e1 : chS i 1 = c1) (e2 : chS i 2 = c2) (e3 : chS i 3 = c3) (e4 : chS i 4 = c4) (e5 : chS i 5 = c5) (h4 : ¬ c4 = 0) (h5 : ¬ c5 = 0) : ((r - q = 6 ∧ byt b len q = c0 ∧ byt b len (q + 1) = c1 ∧ byt b len (q + 2) = c2) ∧ byt b len (q + 3) = c3 ∧ (c4 = 0 ∨ byt b len (q + 4) = c4) ∧ (c5 = 0 ∨ byt b len (q + 5) = c5)) ↔ wq b q r i = true := by
  rw [wq_iff, hl]
  constructor
  · intro ⟨⟨a, a0, a1, a2⟩, a3, a4, a5⟩
    have a4' : byt b len (q + 4) = c4 := a4.resolve_left h4
    have a5' : byt b len (q + 5) = c5 := a5.resolve_left h5
    rw [byt_in (by omega)] at a0 a1 a2 a3 a4' a5'
    refine ⟨a, fun j hj => ?_⟩
    rcases (show j = 0 ∨ j = 1 ∨ j = 2 ∨ j = 3 ∨ j = 4 ∨ j = 5 by omega) with rfl | rfl | rfl | rfl | rfl | rfl
    · rw [e0]; exact a0
    · rw [e1]; exact a1
    · rw [e2]; exact a2
    · rw [e3]; exact a3
    · rw [e4]; exact a4'
    · rw [e5]; exact a5'
  · intro ⟨a, h⟩
    have a0 := h 0 (by decide)
    have a1 := h 1 (by decide)
    have a2 := h 2 (by decide)
    have a3 := h 3 (by decide)
    have a4 := h 4 (by decide)
    have a5 := h 5 (by decide)
    rw [e0] at a0
    rw [e1] at a1
    rw [e2] at a2
    rw [e3] at a3
    rw [e4] at a4
    rw [e5] at a5
    refine ⟨⟨a, ?_, ?_, ?_⟩, ?_, Or.inr ?_, Or.inr ?_⟩
    all_goals rw [byt_in (by omega)]; assumption
theorem w3 {b : Nat → Nat} {len q r i : Nat} {c0 c1 c2 : Int32} (hr : r ≤ len) (hl : lenS.getD i 0 = 3) (e0 : chS i 0 = c0) (e1 : chS i 1 = c1) (e2 : chS i 2 = c2) : (r - q = 3 ∧ byt b len q = c0 ∧ byt b len (q + 1) = c1 ∧ byt b len (q + 2) = c2) ↔ wq b q r i = true := by
  rw [wq_iff, hl]
  constructor
  · intro ⟨a, a0, a1, a2⟩
    rw [byt_in (by omega)] at a0 a1 a2
    refine ⟨a, fun j hj => ?_⟩
    rcases (show j = 0 ∨ j = 1 ∨ j = 2 by omega) with rfl | rfl | rfl
    · rw [e0]; exact a0
    · rw [e1]; exact a1
    · rw [e2]; exact a2
  · intro ⟨a, h⟩
    have a0 := h 0 (by decide)
    have a1 := h 1 (by decide)
    have a2 := h 2 (by decide)
    rw [e0] at a0
    rw [e1] at a1
    rw [e2] at a2
    refine ⟨a, ?_, ?_, ?_⟩
    all_goals rw [byt_in (by omega)]; assumption
theorem wd_of {b : Nat → Nat} {q r i : Nat} (hi : i < 7) (h : wq b q r i = true) : wd b q r = i := by
  have hf : ∀ j, j < 7 → j ≠ i → ¬ wq b q r j = true := fun j hj hne => by rw [wq_one hi hj h (fun e => hne e.symm)]; decide
  unfold wd
  rcases (show i = 0 ∨ i = 1 ∨ i = 2 ∨ i = 3 ∨ i = 4 ∨ i = 5 ∨ i = 6 by omega) with rfl | rfl | rfl | rfl | rfl | rfl | rfl
  · rw [if_pos h]
  · rw [if_neg (hf 0 (by decide) (by decide)), if_pos h]
  · rw [if_neg (hf 0 (by decide) (by decide)), if_neg (hf 1 (by decide) (by decide)), if_pos h]
  · rw [if_neg (hf 0 (by decide) (by decide)), if_neg (hf 1 (by decide) (by decide)), if_neg (hf 2 (by decide) (by decide)), if_pos h]
  · rw [if_neg (hf 0 (by decide) (by decide)), if_neg (hf 1 (by decide) (by decide)), if_neg (hf 2 (by decide) (by decide)), if_neg (hf 3 (by decide) (by decide)), if_pos h]
  · rw [if_neg (hf 0 (by decide) (by decide)), if_neg (hf 1 (by decide) (by decide)), if_neg (hf 2 (by decide) (by decide)), if_neg (hf 3 (by decide) (by decide)), if_neg (hf 4 (by decide) (by decide)), if_pos h]
  · rw [if_neg (hf 0 (by decide) (by decide)), if_neg (hf 1 (by decide) (by decide)), if_neg (hf 2 (by decide) (by decide)), if_neg (hf 3 (by decide) (by decide)), if_neg (hf 4 (by decide) (by decide)), if_neg (hf 5 (by decide) (by decide)), if_pos h]
def wr (w : Nat) : Int32 := if w = 7 then -4 else nI w
theorem r_kind {s : St} {b : Nat → Nat} {len q r : Nat} (hB : RB s b len) (h12 : s.1 189 12 = nI r) (h13 : s.1 189 13 = nI q) (hq : q ≤ r) (hr : r ≤ len) (g4 : ¬ wq b q r 4 = true) (g5 : ¬ wq b q r 5 = true) (g6 : ¬ wq b q r 6 = true) : f_X7_kindNow s = some (wr (wd b q r), s) := by
  unfold f_X7_kindNow
  rw [r_ww (i := 0) hB h12 h13 hq hr (by decide) (w5 hr rfl (by decide) (by decide) (by decide) (by decide) (by decide) (by decide))]
  by_cases g0 : wq b q r 0 = true
  · rw [if_pos g0, wd_of (by decide) g0]; rfl
  rw [if_neg g0]
  unfold f_X7_kindNow_J28
  rw [r_ww (i := 1) hB h12 h13 hq hr (by decide) (w5 hr rfl (by decide) (by decide) (by decide) (by decide) (by decide) (by decide))]
  by_cases g1 : wq b q r 1 = true
  · rw [if_pos g1, wd_of (by decide) g1]; rfl
  rw [if_neg g1]
  unfold f_X7_kindNow_J56
  rw [r_ww (i := 2) hB h12 h13 hq hr (by decide) (w4 hr rfl (by decide) (by decide) (by decide) (by decide))]
  by_cases g2 : wq b q r 2 = true
  · rw [if_pos g2, wd_of (by decide) g2]; rfl
  rw [if_neg g2]
  unfold f_X7_kindNow_J85
  rw [r_ww (i := 3) (A := fun s => some (-4, s)) hB h12 h13 hq hr (by decide) (w5 hr rfl (by decide) (by decide) (by decide) (by decide) (by decide) (by decide))]
  by_cases g3 : wq b q r 3 = true
  · rw [if_pos g3, wd_of (by decide) g3]; rfl
  rw [if_neg g3]
  unfold wd
  rw [if_neg g0, if_neg g1, if_neg g2, if_neg g3, if_neg g4, if_neg g5, if_neg g6]
  rfl
theorem r_word {s : St} {b : Nat → Nat} {len q r : Nat} (hB : RB s b len) (h12 : s.1 189 12 = nI r) (h13 : s.1 189 13 = nI q) (hq : q ≤ r) (hr : r ≤ len) : f_X7_lineNow s = some (wr (wd b q r), s) := by
  unfold f_X7_lineNow
  rw [r_ww (i := 4) hB h12 h13 hq hr (by decide) (w6 hr rfl (by decide) (by decide) (by decide) (by decide) (by decide) (by decide) (by decide) (by decide))]
  by_cases g4 : wq b q r 4 = true
  · rw [if_pos g4, wd_of (by decide) g4]; rfl
  rw [if_neg g4]
  unfold f_X7_lineNow_J30
  have hw3 := w3 (b := b) (len := len) (q := q) (r := r) (i := 5) (c0 := nI 97) (c1 := nI 105) (c2 := nI 114) hr rfl (by decide) (by decide) (by decide)
  rw [r_is hB h12 h13 hq hr (by decide), cl_s]
  by_cases g5 : wq b q r 5 = true
  · rw [if_pos (hw3.mpr g5), if1', wd_of (by decide) g5]; rfl
  rw [if_neg (fun e => g5 (hw3.mp e)), if0']
  rw [r_ww (i := 6) (A := fun s => cl (f_X7_kindNow s) (fun x14 s13 => some ((x14, s13)))) hB h12 h13 hq hr (by decide) (w5 hr rfl (by decide) (by decide) (by decide) (by decide) (by decide) (by decide))]
  by_cases g6 : wq b q r 6 = true
  · rw [if_pos g6, wd_of (by decide) g6]; rfl
  rw [if_neg g6, r_kind hB h12 h13 hq hr g4 g5 g6, cl_s]

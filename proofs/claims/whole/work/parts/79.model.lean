/-! the text, in numbers: what a line tells, where it falls -/
def an {α β : Type} (x : (Nat × Nat) ⊕ α) (f : α → (Nat × Nat) ⊕ β) : (Nat × Nat) ⊕ β := match x with
  | Sum.inl e => Sum.inl e
  | Sum.inr a => f a
theorem an_l {α β : Type} {e : Nat × Nat} {f : α → (Nat × Nat) ⊕ β} : an (Sum.inl e) f = Sum.inl e := rfl
theorem an_r {α β : Type} {a : α} {f : α → (Nat × Nat) ⊕ β} : an (Sum.inr a) f = f a := rfl
theorem an_inr {α β : Type} {x : (Nat × Nat) ⊕ α} {f : α → (Nat × Nat) ⊕ β} {c : β} (h : an x f = Sum.inr c) : ∃ a, x = Sum.inr a ∧ f a = Sum.inr c := by
  cases x with
  | inl e => exact absurd h (fun q => by cases q)
  | inr a => exact ⟨a, rfl, h⟩
/-- nl, ns, the flat state, the bits of what is told already -/
abbrev Dr : Type := Nat × Nat × (Nat → Nat) × Nat
noncomputable def mNum (b : Nat → Nat) (len p lo hi : Nat) : (Nat × Nat) ⊕ (Nat × Nat) :=
  if bad (tok b len p) = true then Sum.inl (1, (tok b len p).1)
  else if ¬ (tok b len p).2.1 = 2 then Sum.inl (2, (tok b len p).1)
  else if lo ≤ nv b (tok b len p) ∧ nv b (tok b len p) ≤ hi then Sum.inr (nv b (tok b len p), (tok b len p).2.2)
  else Sum.inl (3, (tok b len p).1)
noncomputable def mCell (b : Nat → Nat) (len p : Nat) : (Nat × Nat) ⊕ (Nat × Nat) :=
  an (mNum b len p 0 99) (fun v => if v.1 < 50 ∧ v.1 % 10 < 4 then Sum.inr (4 * (v.1 / 10) + v.1 % 10, v.2) else Sum.inl (3, (tok b len p).1))
noncomputable def mSit (b : Nat → Nat) (len q0 p : Nat) (d : Dr) : (Nat × Nat) ⊕ (Nat × Dr) :=
  if 4 ≤ d.2.1 then Sum.inl (5, q0) else an (mCell b len p) (fun c => an (mNum b len c.2 0 9) (fun v => Sum.inr (v.2, d.1, d.2.1 + 1, up (up d.2.2.1 (12 + 2 * d.2.1) c.1) (13 + 2 * d.2.1) v.1, d.2.2.2)))
noncomputable def mLif (b : Nat → Nat) (len q0 p w : Nat) (d : Dr) : (Nat × Nat) ⊕ (Nat × Dr) :=
  if 3 ≤ d.1 then Sum.inl (5, q0) else an (mCell b len p) (fun c => an (mNum b len c.2 1 9) (fun v => an (mNum b len v.2 0 99) (fun u => Sum.inr (u.2, d.1 + 1, d.2.1, up (up (up (up d.2.2.1 (4 * d.1) w) (4 * d.1 + 1) c.1) (4 * d.1 + 2) v.1) (4 * d.1 + 3) u.1, d.2.2.2))))
noncomputable def mOnc (b : Nat → Nat) (len p first base N hi : Nat) (d : Dr) : (Nat × Nat) ⊕ (Nat × Dr) :=
  an (mNum b len p 0 N) (fun k => if d.2.2.2 / 2 ^ (first + k.1) % 2 = 1 then Sum.inl (4, (tok b len p).1) else an (mNum b len k.2 0 hi) (fun v => Sum.inr (v.2, d.1, d.2.1, up d.2.2.1 (base + k.1) v.1, d.2.2.2 + 2 ^ (first + k.1))))
noncomputable def mStp (b : Nat → Nat) (len : Nat) (r : Nat × Dr) : (Nat × Nat) ⊕ (Nat × Dr) :=
  if bad (tok b len r.1) = true then Sum.inl (1, (tok b len r.1).1) else if (tok b len r.1).2.1 = 3 then Sum.inr ((tok b len r.1).2.2, r.2) else Sum.inl (2, (tok b len r.1).1)
noncomputable def mBod (b : Nat → Nat) (len w q0 p : Nat) (d : Dr) : (Nat × Nat) ⊕ (Nat × Dr) :=
  if w = 4 then mSit b len q0 p d else if w = 5 then mOnc b len p 0 32 5 4 d else if w = 6 then mOnc b len p 6 38 3 9 d else if w = 7 then Sum.inl (2, q0) else mLif b len q0 p w d
/-- the run from q to r is the word i -/
def wq (b : Nat → Nat) (q r i : Nat) : Bool := decide (r - q = lenS.getD i 0 ∧ ∀ j, j < lenS.getD i 0 → nI (b (q + j)) = chS i j)
theorem wq_iff {b : Nat → Nat} {q r i : Nat} : wq b q r i = true ↔ (r - q = lenS.getD i 0 ∧ ∀ j, j < lenS.getD i 0 → nI (b (q + j)) = chS i j) := decide_eq_true_iff
def wd (b : Nat → Nat) (q r : Nat) : Nat := if wq b q r 0 = true then 0 else if wq b q r 1 = true then 1 else if wq b q r 2 = true then 2 else if wq b q r 3 = true then 3 else if wq b q r 4 = true then 4 else if wq b q r 5 = true then 5 else if wq b q r 6 = true then 6 else 7
theorem wd_le {b : Nat → Nat} {q r : Nat} : wd b q r ≤ 7 := by
  unfold wd
  repeat' split
  all_goals omega
theorem wrd_ne : ∀ i, i < 7 → ∀ j, j < 7 → i ≠ j → lenS.getD i 0 = lenS.getD j 0 → ∃ k, k < lenS.getD i 0 ∧ chS i k ≠ chS j k := by decide
theorem wq_one {b : Nat → Nat} {q r i j : Nat} (hi : i < 7) (hj : j < 7) (h : wq b q r i = true) (hne : i ≠ j) : wq b q r j = false := by
  rw [Bool.eq_false_iff]
  intro h2
  obtain ⟨a1, a2⟩ := wq_iff.mp h
  obtain ⟨b1, b2⟩ := wq_iff.mp h2
  have e : lenS.getD i 0 = lenS.getD j 0 := a1.symm.trans b1
  obtain ⟨k, k1, k2⟩ := wrd_ne i hi j hj hne e
  exact k2 ((a2 k k1).symm.trans (b2 k (by rw [← e]; exact k1)))
noncomputable def mLin (b : Nat → Nat) (len : Nat) (t : Nat × Nat × Nat) (d : Dr) : (Nat × Nat) ⊕ (Nat × Dr) :=
  an (mBod b len (if t.2.1 = 1 then wd b t.1 t.2.2 else 7) t.1 t.2.2 d) (mStp b len)
noncomputable def mLop (b : Nat → Nat) (len : Nat) : Nat → Nat → Nat → Dr → (Nat × Nat) ⊕ (Nat × Dr)
  | 0, _, _, _ => Sum.inl (0, 0)
  | F + 1, p, n, d => if bad (tok b len p) = true then Sum.inl (1, (tok b len p).1) else if (tok b len p).2.1 = 0 then Sum.inr (n, d) else an (mLin b len (tok b len p) d) (fun r => mLop b len F r.1 (n + 1) r.2)
/-- a draft as it must be -/
def WD (d : Dr) : Prop :=
  d.1 ≤ 3 ∧ d.2.1 ≤ 4 ∧ d.2.2.2 < 1024 ∧
  (∀ l, l < d.1 → d.2.2.1 (4 * l) ≤ 3 ∧ d.2.2.1 (4 * l + 1) < 20 ∧ 1 ≤ d.2.2.1 (4 * l + 2) ∧ d.2.2.1 (4 * l + 2) ≤ 9 ∧ d.2.2.1 (4 * l + 3) ≤ 99) ∧
  (∀ i, i < d.2.1 → d.2.2.1 (12 + 2 * i) < 20 ∧ d.2.2.1 (13 + 2 * i) ≤ 9) ∧
  (∀ k, k < 6 → d.2.2.1 (32 + k) ≤ 4) ∧ (∀ y, y < 4 → d.2.2.1 (38 + y) ≤ 9) ∧
  (∀ j, (20 ≤ j ∧ j < 32) ∨ 42 ≤ j → d.2.2.1 j = 0) ∧
  (∀ l, d.1 ≤ l → l < 3 → d.2.2.1 (4 * l + 3) = 0)
theorem mNum_r {b : Nat → Nat} {len p lo hi : Nat} {v : Nat × Nat} (hp : p ≤ len) (h : mNum b len p lo hi = Sum.inr v) : p < v.2 ∧ v.2 ≤ len ∧ lo ≤ v.1 ∧ v.1 ≤ hi := by
  have hT := tok_ok (b := b) hp
  unfold mNum at h
  generalize tok b len p = t at h hT
  by_cases c1 : bad t = true
  · rw [if_pos c1] at h; cases h
  · rw [if_neg c1] at h
    by_cases c2 : t.2.1 = 2
    · rw [if_neg (fun e => e c2)] at h
      by_cases c3 : lo ≤ nv b t ∧ nv b t ≤ hi
      · rw [if_pos c3] at h
        injection h with h
        subst h
        obtain ⟨t1, t2, t3, t4, t5⟩ := hT
        rcases t5 with ⟨a, b', c⟩ | ⟨a, b', c, d, e, f⟩
        · omega
        · exact ⟨by dsimp only; omega, d, c3.1, c3.2⟩
      · rw [if_neg c3] at h; cases h
    · rw [if_pos c2] at h; cases h
theorem mCell_r {b : Nat → Nat} {len p : Nat} {v : Nat × Nat} (hp : p ≤ len) (h : mCell b len p = Sum.inr v) : p < v.2 ∧ v.2 ≤ len ∧ v.1 < 20 := by
  obtain ⟨a, h1, h2⟩ := an_inr h
  obtain ⟨k1, k2, k3, k4⟩ := mNum_r hp h1
  by_cases c : a.1 < 50 ∧ a.1 % 10 < 4
  · rw [if_pos c] at h2
    injection h2 with h2
    subst h2
    exact ⟨k1, k2, by dsimp only; omega⟩
  · rw [if_neg c] at h2; cases h2
theorem mSit_r {b : Nat → Nat} {len q0 p : Nat} {d : Dr} {r : Nat × Dr} (hp : p ≤ len) (hD : WD d) (h : mSit b len q0 p d = Sum.inr r) : p < r.1 ∧ r.1 ≤ len ∧ WD r.2 := by
  unfold mSit at h
  by_cases c : 4 ≤ d.2.1
  · rw [if_pos c] at h; cases h
  · rw [if_neg c] at h
    obtain ⟨a, h1, h2⟩ := an_inr h
    obtain ⟨v, h3, h4⟩ := an_inr h2
    obtain ⟨k1, k2, k3⟩ := mCell_r hp h1
    obtain ⟨j1, j2, j3, j4⟩ := mNum_r k2 h3
    injection h4 with h4
    subst h4
    obtain ⟨nl, ns, g, m⟩ := d
    obtain ⟨a1, a2, a3, a4, a5, a6, a7, a8, a9⟩ := hD
    dsimp only at *
    refine ⟨by omega, j2, a1, (show ns + 1 ≤ 4 by omega), a3, fun l hl => ?_, fun i hi => ?_, fun k hk => ?_, fun k hk => ?_, fun j hj => ?_, fun l h1 h2 => ?_⟩
    · dsimp only at hl ⊢
      simp (disch := omega) only [up_o]; exact a4 l hl
    · dsimp only at hi ⊢
      by_cases e : i = ns
      · subst e; simp (disch := omega) only [up_o, up_k]; omega
      · simp (disch := omega) only [up_o]; exact a5 i (by omega)
    · dsimp only; simp (disch := omega) only [up_o]; exact a6 k hk
    · dsimp only; simp (disch := omega) only [up_o]; exact a7 k hk
    · dsimp only; simp (disch := omega) only [up_o]; exact a8 j hj
    · dsimp only at h1 ⊢; simp (disch := omega) only [up_o]; exact a9 l h1 h2
theorem mLif_r {b : Nat → Nat} {len q0 p w : Nat} {d : Dr} {r : Nat × Dr} (hp : p ≤ len) (hw : w ≤ 3) (hD : WD d) (h : mLif b len q0 p w d = Sum.inr r) : p < r.1 ∧ r.1 ≤ len ∧ WD r.2 := by
  unfold mLif at h
  by_cases c : 3 ≤ d.1
  · rw [if_pos c] at h; cases h
  · rw [if_neg c] at h
    obtain ⟨a, h1, h2⟩ := an_inr h
    obtain ⟨v, h3, h4⟩ := an_inr h2
    obtain ⟨u, h5, h6⟩ := an_inr h4
    obtain ⟨k1, k2, k3⟩ := mCell_r hp h1
    obtain ⟨j1, j2, j3, j4⟩ := mNum_r k2 h3
    obtain ⟨i1, i2, i3, i4⟩ := mNum_r j2 h5
    injection h6 with h6
    subst h6
    obtain ⟨nl, ns, g, m⟩ := d
    obtain ⟨a1, a2, a3, a4, a5, a6, a7, a8, a9⟩ := hD
    dsimp only at *
    refine ⟨by omega, i2, (show nl + 1 ≤ 3 by omega), a2, a3, fun l hl => ?_, fun i hi => ?_, fun k hk => ?_, fun k hk => ?_, fun j hj => ?_, fun l h1 h2 => ?_⟩
    · dsimp only at hl ⊢
      by_cases e : l = nl
      · subst e; simp (disch := omega) only [up_o, up_k]; omega
      · simp (disch := omega) only [up_o]; exact a4 l (by omega)
    · dsimp only at hi ⊢
      simp (disch := omega) only [up_o]; exact a5 i hi
    · dsimp only; simp (disch := omega) only [up_o]; exact a6 k hk
    · dsimp only; simp (disch := omega) only [up_o]; exact a7 k hk
    · dsimp only; simp (disch := omega) only [up_o]; exact a8 j hj
    · dsimp only at h1 ⊢; simp (disch := omega) only [up_o]; exact a9 l (by omega) h2
theorem bit_lt : ∀ j, j < 10 → ∀ m, m < 1024 → m / 2 ^ j % 2 = 0 → m + 2 ^ j < 1024 := by
  intro j hj m hm h
  rcases (show j = 0 ∨ j = 1 ∨ j = 2 ∨ j = 3 ∨ j = 4 ∨ j = 5 ∨ j = 6 ∨ j = 7 ∨ j = 8 ∨ j = 9 by omega) with rfl | rfl | rfl | rfl | rfl | rfl | rfl | rfl | rfl | rfl
  all_goals
    simp only [Nat.reducePow, Nat.reduceAdd] at h ⊢
    omega
theorem mOnc_r {b : Nat → Nat} {len p first base N hi : Nat} {d : Dr} {r : Nat × Dr} (hp : p ≤ len) (hD : WD d) (hc : (first = 0 ∧ base = 32 ∧ N = 5 ∧ hi = 4) ∨ (first = 6 ∧ base = 38 ∧ N = 3 ∧ hi = 9)) (h : mOnc b len p first base N hi d = Sum.inr r) : p < r.1 ∧ r.1 ≤ len ∧ WD r.2 := by
  obtain ⟨a, h1, h2⟩ := an_inr h
  obtain ⟨k1, k2, k3, k4⟩ := mNum_r hp h1
  by_cases c : d.2.2.2 / 2 ^ (first + a.1) % 2 = 1
  · rw [if_pos c] at h2; cases h2
  · rw [if_neg c] at h2
    obtain ⟨v, h3, h4⟩ := an_inr h2
    obtain ⟨j1, j2, j3, j4⟩ := mNum_r k2 h3
    injection h4 with h4
    subst h4
    obtain ⟨nl, ns, g, m⟩ := d
    obtain ⟨a1, a2, a3, a4, a5, a6, a7, a8, a9⟩ := hD
    dsimp only at *
    have hm := bit_lt (first + a.1) (by omega) m a3 (by omega)
    refine ⟨by omega, j2, a1, a2, hm, fun l hl => ?_, fun i hi => ?_, fun k hk => ?_, fun k hk => ?_, fun j hj => ?_, fun l h1 h2 => ?_⟩
    · dsimp only at hl ⊢
      simp (disch := omega) only [up_o]; exact a4 l hl
    · dsimp only at hi ⊢
      simp (disch := omega) only [up_o]; exact a5 i hi
    · dsimp only
      by_cases e : 32 + k = base + a.1
      · rw [e, up_k]; omega
      · rw [up_o e]; exact a6 k hk
    · dsimp only
      by_cases e : 38 + k = base + a.1
      · rw [e, up_k]; omega
      · rw [up_o e]; exact a7 k hk
    · dsimp only; simp (disch := omega) only [up_o]; exact a8 j hj
    · dsimp only at h1 ⊢; simp (disch := omega) only [up_o]; exact a9 l h1 h2
theorem mBod_r {b : Nat → Nat} {len w q0 p : Nat} {d : Dr} {r : Nat × Dr} (hp : p ≤ len) (hw : w ≤ 7) (hD : WD d) (h : mBod b len w q0 p d = Sum.inr r) : p < r.1 ∧ r.1 ≤ len ∧ WD r.2 := by
  unfold mBod at h
  by_cases c4 : w = 4
  · rw [if_pos c4] at h; exact mSit_r hp hD h
  rw [if_neg c4] at h
  by_cases c5 : w = 5
  · rw [if_pos c5] at h; exact mOnc_r hp hD (Or.inl ⟨rfl, rfl, rfl, rfl⟩) h
  rw [if_neg c5] at h
  by_cases c6 : w = 6
  · rw [if_pos c6] at h; exact mOnc_r hp hD (Or.inr ⟨rfl, rfl, rfl, rfl⟩) h
  rw [if_neg c6] at h
  by_cases c7 : w = 7
  · rw [if_pos c7] at h; cases h
  rw [if_neg c7] at h
  exact mLif_r hp (by omega) hD h
theorem mLin_r {b : Nat → Nat} {len p : Nat} {d : Dr} {r : Nat × Dr} (hp : p ≤ len) (hD : WD d) (h : mLin b len (tok b len p) d = Sum.inr r) : p < r.1 ∧ r.1 ≤ len ∧ WD r.2 := by
  have hT := (tok_ok (b := b) hp).le
  obtain ⟨a, h1, h2⟩ := an_inr h
  obtain ⟨k1, k2, k3⟩ := mBod_r hT.2.1 (by
    split
    · exact wd_le
    · omega) hD h1
  have hT2 := (tok_ok (b := b) k2).le
  unfold mStp at h2
  by_cases c1 : bad (tok b len a.1) = true
  · rw [if_pos c1] at h2; cases h2
  · rw [if_neg c1] at h2
    by_cases c2 : (tok b len a.1).2.1 = 3
    · rw [if_pos c2] at h2
      injection h2 with h2
      subst h2
      dsimp only
      exact ⟨by omega, hT2.2.1, k3⟩
    · rw [if_neg c2] at h2; cases h2

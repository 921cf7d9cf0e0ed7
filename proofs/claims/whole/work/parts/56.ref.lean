/-! the reference's helpers and STEPS, in numbers -/
theorem l190 : lnI 190 = 393 := by decide
theorem l191 : lnI 191 = 131 := by decide
theorem l193 : lnI 193 = 131 := by decide
theorem l194 : lnI 194 = 160 := by decide
theorem l195 : lnI 195 = 20 := by decide
theorem ib190 {e : Nat} (h : e < 393) : inb (nI e) (lnI 190) = true := by rw [l190]; exact inb_t h (by decide)
theorem ib191 {e : Nat} (h : e < 131) : inb (nI e) (lnI 191) = true := by rw [l191]; exact inb_t h (by decide)
theorem ib195 {e : Nat} (h : e < 20) : inb (nI e) (lnI 195) = true := by rw [l195]; exact inb_t h (by decide)
theorem b7_within (x y z : Int64) (s : St) : f_X7_within x y z s = some (if y ≤ x ∧ x ≤ z then nI 1 else nI 0, s) := by
  unfold f_X7_within
  simp only [lg_cmp_lt, lg_cmp_gt]
  by_cases h1 : x < y
  · rw [if_pos h1, if_neg]
    rintro ⟨h2, -⟩
    rw [Int64.lt_iff_toInt_lt] at h1
    rw [Int64.le_iff_toInt_le] at h2
    omega
  · rw [if_neg h1]
    have h1' : y ≤ x := by
      rw [Int64.lt_iff_toInt_lt] at h1
      rw [Int64.le_iff_toInt_le]
      omega
    by_cases h2 : z < x
    · rw [if_pos h2, if_neg]
      rintro ⟨-, h3⟩
      rw [Int64.lt_iff_toInt_lt] at h2
      rw [Int64.le_iff_toInt_le] at h3
      omega
    · rw [if_neg h2, if_pos]
      refine ⟨h1', ?_⟩
      rw [Int64.lt_iff_toInt_lt] at h2
      rw [Int64.le_iff_toInt_le]
      omega
theorem b7_win (a : Int32) {lo hi : Nat} (h1 : lo < 2 ^ 31) (h2 : hi < 2 ^ 31) (s : St) : f_X7_within a.toInt64 (lN lo) (lN hi) s = some (if (lo : Int) ≤ a.toInt ∧ a.toInt ≤ hi then nI 1 else nI 0, s) := by
  rw [b7_within]
  simp only [Int64.le_iff_toInt_le, Int32.toInt_toInt64, lN_toInt h1, lN_toInt h2]
theorem b7_lesser {a b : Nat} (ha : a < 2 ^ 31) (hb : b < 2 ^ 31) (s : St) : f_X7_lesser (nI a) (nI b) s = some (nI (min a b), s) := by
  unfold f_X7_lesser
  by_cases h : b ≤ a
  · rw [if_pos (nI_le h ha), Nat.min_eq_right h]
  · rw [if_neg (nI_ge (by omega) hb), Nat.min_eq_left (by omega)]
theorem b7_isLife {s : St} {nl : Nat} (h : s.1 189 3 = nI nl) (hn : nl ≤ 3) (a : Int32) : f_X7_isLife a s = some (if 0 ≤ a.toInt ∧ a.toInt < nl then nI 1 else nI 0, s) := by
  unfold f_X7_isLife
  rw [h, b7_within, cl_s]
  have e : (nI nl - nI 1).toInt = (nl : Int) - 1 := by
    rcases (show nl = 0 ∨ nl = 1 ∨ nl = 2 ∨ nl = 3 by omega) with rfl | rfl | rfl | rfl <;> decide
  simp only [Int64.le_iff_toInt_le, Int32.toInt_toInt64, lN_toInt (show 0 < 2 ^ 31 by decide), e]
  by_cases h2 : 0 ≤ a.toInt ∧ a.toInt < nl
  · rw [if_pos (show ((0 : Nat) : Int) ≤ a.toInt ∧ a.toInt ≤ (nl : Int) - 1 by omega), if_pos h2]; rfl
  · rw [if_neg (show ¬ (((0 : Nat) : Int) ≤ a.toInt ∧ a.toInt ≤ (nl : Int) - 1) by omega), if_neg h2]; rfl
theorem b7_isSitter {s : St} {ns : Nat} (h : s.1 189 4 = nI ns) (hn : ns ≤ 4) (a : Int32) : f_X7_isSitter a s = some (if 0 ≤ a.toInt ∧ a.toInt < ns then nI 1 else nI 0, s) := by
  unfold f_X7_isSitter
  rw [h, b7_within, cl_s]
  have e : (nI ns - nI 1).toInt = (ns : Int) - 1 := by
    rcases (show ns = 0 ∨ ns = 1 ∨ ns = 2 ∨ ns = 3 ∨ ns = 4 by omega) with rfl | rfl | rfl | rfl | rfl <;> decide
  simp only [Int64.le_iff_toInt_le, Int32.toInt_toInt64, lN_toInt (show 0 < 2 ^ 31 by decide), e]
  by_cases h2 : 0 ≤ a.toInt ∧ a.toInt < ns
  · rw [if_pos (show ((0 : Nat) : Int) ≤ a.toInt ∧ a.toInt ≤ (ns : Int) - 1 by omega), if_pos h2]; rfl
  · rw [if_neg (show ¬ (((0 : Nat) : Int) ≤ a.toInt ∧ a.toInt ≤ (ns : Int) - 1) by omega), if_neg h2]; rfl
theorem b7_isPart (a : Int32) (s : St) : f_X7_isPart a s = some (if 0 ≤ a.toInt ∧ a.toInt ≤ 1 then nI 1 else nI 0, s) := by
  unfold f_X7_isPart
  rw [b7_win a (by decide) (by decide), cl_s]
  by_cases h2 : 0 ≤ a.toInt ∧ a.toInt ≤ 1
  · rw [if_pos (show ((0 : Nat) : Int) ≤ a.toInt ∧ a.toInt ≤ ((1 : Nat) : Int) by omega), if_pos h2]; rfl
  · rw [if_neg (show ¬ (((0 : Nat) : Int) ≤ a.toInt ∧ a.toInt ≤ ((1 : Nat) : Int)) by omega), if_neg h2]; rfl
theorem b7_isFar (a : Int32) (s : St) : f_X7_isFar a s = some (if 0 ≤ a.toInt ∧ a.toInt ≤ 60 then nI 1 else nI 0, s) := by
  unfold f_X7_isFar
  rw [b7_win a (by decide) (by decide), cl_s]
  by_cases h2 : 0 ≤ a.toInt ∧ a.toInt ≤ 60
  · rw [if_pos (show ((0 : Nat) : Int) ≤ a.toInt ∧ a.toInt ≤ ((60 : Nat) : Int) by omega), if_pos h2]; rfl
  · rw [if_neg (show ¬ (((0 : Nat) : Int) ≤ a.toInt ∧ a.toInt ≤ ((60 : Nat) : Int)) by omega), if_neg h2]; rfl
/-- the reference's now holds the state g -/
def NR (s : St) (nl ns : Nat) (g : Nat → Nat) : Prop := s.1 189 3 = nI nl ∧ s.1 189 4 = nI ns ∧ ∀ j, j < 131 → s.1 191 j = nI (g j)
/-- all but now and going is as it was -/
def Sn (s s2 : St) : Prop := (∀ k, k ≠ 191 → k ≠ 195 → s2.1 k = s.1 k) ∧ s2.2 = s.2
theorem Sn.rf {s : St} : Sn s s := ⟨fun _ _ _ => rfl, rfl⟩
theorem Sn.tr {s s2 s3 : St} (h : Sn s s2) (h2 : Sn s2 s3) : Sn s s3 := ⟨fun k h3 h4 => (h2.1 k h3 h4).trans (h.1 k h3 h4), h2.2.trans h.2⟩
theorem Sn.wi {s : St} {i : Nat} {x : Int32} : Sn s (wI s 191 i x) := ⟨fun j h1 h2 => wI_1o h1, rfl⟩
theorem Sn.wg {s : St} {i : Nat} {x : Int32} : Sn s (wI s 195 i x) := ⟨fun j h1 h2 => wI_1o h2, rfl⟩
theorem NR.wi {s : St} {nl ns : Nat} {g : Nat → Nat} (h : NR s nl ns g) {k v : Nat} : NR (wI s 191 k (nI v)) nl ns (up g k v) := by
  refine ⟨by rw [wI_1o (by decide)]; exact h.1, by rw [wI_1o (by decide)]; exact h.2.1, fun j hj => ?_⟩
  by_cases e : j = k
  · subst e; rw [wI_at, up_k]
  · rw [wI_ne e, up_o e]; exact h.2.2 j hj
theorem NR.wg {s : St} {nl ns : Nat} {g : Nat → Nat} (h : NR s nl ns g) {k : Nat} {x : Int32} : NR (wI s 195 k x) nl ns g := by
  refine ⟨by rw [wI_1o (by decide)]; exact h.1, by rw [wI_1o (by decide)]; exact h.2.1, fun j hj => ?_⟩
  rw [wI_1o (by decide)]; exact h.2.2 j hj
theorem b7_starts {s : St} {nl ns : Nat} {g : Nat → Nat} (h3 : s.1 189 3 = nI nl) (h4 : s.1 189 4 = nI ns) (hg : ∀ j, j < 131 → s.1 190 j = nI (g j)) : ∃ s2, f_X7_starts s = some ((), s2) ∧ NR s2 nl ns g ∧ Sn s s2 := by
  unfold f_X7_starts
  obtain ⟨t, h1, h2⟩ := lp_inv (body := fun q : Int32 × St => f_X7_starts_L2 q.1 q.2) (fun k q => q.1 = nI k ∧ (∀ j, j < k → q.2.1 191 j = nI (g j)) ∧ Sn s q.2) (fun t => NR t.2 nl ns g ∧ Sn s t.2) 131 (fun k q hk hq => by
    obtain ⟨x, s3⟩ := q
    obtain ⟨q1, q2, q3⟩ := hq
    dsimp only at q1 q2 q3 ⊢
    subst q1
    unfold f_X7_starts_L2
    rw [if_neg (nI_ge hk (by decide)), if_pos (ib190 (by omega)), if_pos (ib191 (by omega)), bd_s, nI_add, nI_clamp (by omega), q3.1 190 (by decide) (by decide), hg k hk]
    refine ⟨_, rfl, rfl, fun j hj => ?_, q3.tr Sn.wi⟩
    by_cases e : j = k
    · subst e; rw [wI_at]
    · rw [wI_ne e]; exact q2 j (by omega)) (fun q hq => by
    obtain ⟨x, s3⟩ := q
    obtain ⟨q1, q2, q3⟩ := hq
    dsimp only at q1 q2 q3 ⊢
    subst q1
    unfold f_X7_starts_L2
    rw [if_pos (by decide)]
    exact ⟨_, rfl, ⟨by rw [q3.1 189 (by decide) (by decide)]; exact h3, by rw [q3.1 189 (by decide) (by decide)]; exact h4, q2⟩, q3⟩) (q := (nI 0, s)) ⟨rfl, fun j hj => absurd hj (by omega), Sn.rf⟩ (Fu_lt (by omega))
  exact ⟨t.2, h1, h2⟩
theorem b7_settles {s : St} {nl ns : Nat} {g : Nat → Nat} (h : NR s nl ns g) : ∃ s2, f_X7_settles s = some ((), s2) ∧ (∀ j, j < 131 → s2.1 190 j = nI (g j)) ∧ (∀ j, 131 ≤ j → s2.1 190 j = s.1 190 j) ∧ (∀ k, k ≠ 190 → s2.1 k = s.1 k) ∧ s2.2 = s.2 := by
  unfold f_X7_settles
  obtain ⟨t, h1, h2⟩ := lp_inv (body := fun q : Int32 × St => f_X7_settles_L2 q.1 q.2) (fun k q => q.1 = nI k ∧ (∀ j, j < k → q.2.1 190 j = nI (g j)) ∧ (∀ j, 131 ≤ j → q.2.1 190 j = s.1 190 j) ∧ (∀ k, k ≠ 190 → q.2.1 k = s.1 k) ∧ q.2.2 = s.2) (fun t => (∀ j, j < 131 → t.2.1 190 j = nI (g j)) ∧ (∀ j, 131 ≤ j → t.2.1 190 j = s.1 190 j) ∧ (∀ k, k ≠ 190 → t.2.1 k = s.1 k) ∧ t.2.2 = s.2) 131 (fun k q hk hq => by
    obtain ⟨x, s3⟩ := q
    obtain ⟨q1, q2, q3, q4, q5⟩ := hq
    dsimp only at q1 q2 q3 q4 q5 ⊢
    subst q1
    unfold f_X7_settles_L2
    rw [if_neg (nI_ge hk (by decide)), if_pos (ib191 (by omega)), if_pos (ib190 (by omega)), bd_s, nI_add, nI_clamp (by omega), q4 191 (by decide), h.2.2 k hk]
    refine ⟨_, rfl, rfl, fun j hj => ?_, fun j hj => ?_, fun j hj => ?_, q5⟩
    · by_cases e : j = k
      · subst e; rw [wI_at]
      · rw [wI_ne e]; exact q2 j (by omega)
    · rw [wI_ne (by omega)]; exact q3 j hj
    · rw [wI_1o hj]; exact q4 j hj) (fun q hq => by
    obtain ⟨x, s3⟩ := q
    obtain ⟨q1, q2⟩ := hq
    dsimp only at q1 q2 ⊢
    subst q1
    unfold f_X7_settles_L2
    rw [if_pos (by decide)]
    exact ⟨_, rfl, q2⟩) (q := (nI 0, s)) ⟨rfl, fun j hj => absurd hj (by omega), fun _ _ => rfl, fun _ _ => rfl, rfl⟩ (Fu_lt (by omega))
  exact ⟨t.2, h1, h2⟩
theorem b7_moves {s : St} {k m : Nat} (hk : k ≤ 3) (hm : m ≤ 20000) : f_X7_moves (nI k) (nI m) s = some (nI (mv k m), s) := by
  have e : (nI m + nI 1) / nI 2 = nI ((m + 1) / 2) := by rw [nI_add, pk_div (by omega) (by decide) (by decide)]
  have e2 : nI ((m + 1) / 2) / nI 2 = nI ((m + 1) / 2 / 2) := pk_div (by omega) (by decide) (by decide)
  unfold f_X7_moves mv
  rw [e, bd_s, e2, bd_s, nI_add, b7_lesser (by omega) (by omega), cl_s]
  rcases (show k = 0 ∨ k = 1 ∨ k = 2 ∨ k = 3 by omega) with rfl | rfl | rfl | rfl
  · rfl
  · rfl
  · rfl
  · rfl
theorem b7_told1 {s : St} {nl ns T : Nat} {g : Nat → Nat} (hR : NR s nl ns g) (hW : WF nl ns T g) {l : Nat} (hl : l < nl) : ∃ s2, f_X7_isTold_L2 (nI l) s = some (Sum.inl (nI (l + 1), s2)) ∧ NR s2 nl ns (told1 g l) ∧ Sn s s2 := by
  have hn := hW.1
  have hT := hW.T
  obtain ⟨-, ha, -, hp9, h99⟩ := hW.2.2.2.1 l hl
  have hcl := hW.cell (l := l) (c := g (4 * l + 1)) (by omega) ha
  have hmin := Nat.min_le_right (g (4 * l + 2)) (g (4 * l + 3))
  unfold f_X7_isTold_L2
  rw [hR.1, if_neg (nI_ge hl (by omega)), bd_s]
  simp only [pk_mul, nI_add]
  rw [if_pos (ib191 (by omega)), if_pos (ib191 (by omega)), nI_clamp (by omega), nI_clamp (by omega), nI_clamp (by omega), hR.2.2 _ (by omega), hR.2.2 _ (by omega), b7_lesser (by omega) (by omega), cl_s, bd_s, hR.2.2 _ (by omega), pk_sub hmin, if_pos (ib191 (by omega)), wI_ne (by omega), hR.2.2 _ (by omega)]
  simp only [nI_add]
  rw [if_pos (ib191 (by omega)), bd_s, nI_clamp (by omega), wI_ne (by omega), hR.2.2 _ (by omega), nI_add]
  refine ⟨_, rfl, ?_, Sn.wi.tr Sn.wi⟩
  exact hR.wi.wi
theorem b7_told {s : St} {nl ns T : Nat} {g : Nat → Nat} (hR : NR s nl ns g) (hW : WF nl ns T g) : ∃ s2, f_X7_isTold s = some ((), s2) ∧ NR s2 nl ns (told g nl) ∧ Sn s s2 := by
  have hn := hW.1
  unfold f_X7_isTold
  obtain ⟨t, h1, h2⟩ := lp_inv (body := fun q : Int32 × St => f_X7_isTold_L2 q.1 q.2) (fun l q => q.1 = nI l ∧ NR q.2 nl ns (told g l) ∧ Sn s q.2) (fun t => NR t.2 nl ns (told g nl) ∧ Sn s t.2) nl (fun l q hl hq => by
    obtain ⟨q1, q2, q3⟩ := hq
    obtain ⟨s2, k1, k2, k3⟩ := b7_told1 q2 (hW.told (by omega)) hl
    exact ⟨(nI (l + 1), s2), by rw [q1]; exact k1, rfl, k2, q3.tr k3⟩) (fun q hq => by
    obtain ⟨q1, q2, q3⟩ := hq
    refine ⟨((), q.2), ?_, q2, q3⟩
    unfold f_X7_isTold_L2
    rw [q1, q2.1, if_pos (nI_le (Nat.le_refl _) (by omega))]) (q := (nI 0, s)) ⟨rfl, hR, Sn.rf⟩ (Fu_lt (by omega))
  exact ⟨t.2, h1, h2⟩
theorem b7_take1 {s : St} {nl ns T sl : Nat} {g : Nat → Nat} (hR : NR s nl ns g) (hW : WF nl ns T g) {i l : Nat} (hi : i < ns) (hl : l < nl) (hs : sl ≤ 9) : ∃ s2, f_X7_isTaken_L26 (nI i) (nI sl) (nI l) s = some (Sum.inl (nI (take1 (sl, g) i l).1, nI (l + 1), s2)) ∧ NR s2 nl ns (take1 (sl, g) i l).2 ∧ Sn s s2 := by
  have hn := hW.1
  have hm := hW.2.1
  have hT := hW.T
  have ha := (hW.2.2.2.2.1 i hi).1
  have hcl := hW.cell (l := l) (c := g (12 + 2 * i)) (by omega) ha
  have hmin := Nat.min_le_right sl (g (43 + 20 * l + g (12 + 2 * i)))
  have hmin2 := Nat.min_le_left sl (g (43 + 20 * l + g (12 + 2 * i)))
  unfold f_X7_isTaken_L26
  rw [hR.1, if_neg (nI_ge hl (by omega))]
  simp only [pk_mul, nI_add]
  rw [if_pos (ib191 (by omega)), nI_clamp (by omega), hR.2.2 _ (by omega), nI_add, bd_s, if_pos (ib191 (by omega)), nI_clamp (by omega), hR.2.2 _ (by omega), b7_lesser (by omega) (by omega), cl_s, bd_s, hR.2.2 _ (by omega), pk_sub hmin, if_pos (ib191 (by omega)), bd_s, bd_s, nI_clamp (by omega), wI_ne (by omega), hR.2.2 _ (by omega), nI_add, pk_sub hmin2]
  refine ⟨_, rfl, ?_, Sn.wi.tr Sn.wi⟩
  exact hR.wi.wi
theorem b7_takeS1 {s : St} {nl ns T : Nat} {g : Nat → Nat} (hR : NR s nl ns g) (hW : WF nl ns T g) {i : Nat} (hi : i < ns) : ∃ s2, f_X7_isTaken_L2 (nI i) s = some (Sum.inl (nI (i + 1), s2)) ∧ NR s2 nl ns (takeL i (g (13 + 2 * i), g) nl).2 ∧ Sn s s2 := by
  have hn := hW.1
  have hm := hW.2.1
  have h9 := (hW.2.2.2.2.1 i hi).2
  unfold f_X7_isTaken_L2
  rw [hR.2.1, if_neg (nI_ge hi (by omega))]
  simp only [pk_mul, nI_add]
  rw [if_pos (ib191 (by omega)), bd_s, nI_clamp (by omega), hR.2.2 _ (by omega), show 12 + 2 * i + 1 = 13 + 2 * i by omega]
  obtain ⟨t, k1, k2⟩ := lp_inv (body := fun q : Int32 × Int32 × St => f_X7_isTaken_L26 (nI i) q.1 q.2.1 q.2.2) (fun l q => q.1 = nI (takeL i (g (13 + 2 * i), g) l).1 ∧ q.2.1 = nI l ∧ NR q.2.2 nl ns (takeL i (g (13 + 2 * i), g) l).2 ∧ Sn s q.2.2) (fun t => ∃ s2, t = Sum.inl (nI (i + 1), s2) ∧ NR s2 nl ns (takeL i (g (13 + 2 * i), g) nl).2 ∧ Sn s s2) nl (fun l q hl hq => by
    obtain ⟨x, y, s3⟩ := q
    obtain ⟨q1, q2, q3, q4⟩ := hq
    dsimp only at q1 q2 q3 q4 ⊢
    subst q1; subst q2
    have hle := takeL_le (q := (g (13 + 2 * i), g)) (i := i) (l := l)
    dsimp only at hle
    obtain ⟨s4, k1, k2, k3⟩ := b7_take1 q3 (hW.takeL (q := (g (13 + 2 * i), g)) hi (l := l) (by omega)) hi hl (sl := (takeL i (g (13 + 2 * i), g) l).1) (by omega)
    exact ⟨_, k1, rfl, rfl, k2, q4.tr k3⟩) (fun q hq => by
    obtain ⟨x, y, s3⟩ := q
    obtain ⟨q1, q2, q3, q4⟩ := hq
    dsimp only at q1 q2 q3 q4 ⊢
    subst q1; subst q2
    unfold f_X7_isTaken_L26
    rw [q3.1, if_pos (nI_le (Nat.le_refl _) (by omega)), nI_add]
    exact ⟨_, rfl, s3, rfl, q3, q4⟩) (q := (nI (g (13 + 2 * i)), nI 0, s)) ⟨rfl, rfl, hR, Sn.rf⟩ (Fu_lt (by omega))
  obtain ⟨s2, rfl, k3, k4⟩ := k2
  exact ⟨s2, k1, k3, k4⟩
theorem b7_taken {s : St} {nl ns T : Nat} {g : Nat → Nat} (hR : NR s nl ns g) (hW : WF nl ns T g) : ∃ s2, f_X7_isTaken s = some ((), s2) ∧ NR s2 nl ns (takeS nl g ns) ∧ Sn s s2 := by
  have hm := hW.2.1
  unfold f_X7_isTaken
  obtain ⟨t, h1, h2⟩ := lp_inv (body := fun q : Int32 × St => f_X7_isTaken_L2 q.1 q.2) (fun i q => q.1 = nI i ∧ NR q.2 nl ns (takeS nl g i) ∧ Sn s q.2) (fun t => NR t.2 nl ns (takeS nl g ns) ∧ Sn s t.2) ns (fun i q hi hq => by
    obtain ⟨q1, q2, q3⟩ := hq
    obtain ⟨s2, k1, k2, k3⟩ := b7_takeS1 q2 (hW.takeS (by omega)) hi
    exact ⟨(nI (i + 1), s2), by rw [q1]; exact k1, rfl, k2, q3.tr k3⟩) (fun q hq => by
    obtain ⟨q1, q2, q3⟩ := hq
    refine ⟨((), q.2), ?_, q2, q3⟩
    unfold f_X7_isTaken_L2
    rw [q1, q2.2.1, if_pos (nI_le (Nat.le_refl _) (by omega))]) (q := (nI 0, s)) ⟨rfl, hR, Sn.rf⟩ (Fu_lt (by omega))
  exact ⟨t.2, h1, h2⟩
def nc7 (a b : Int32) : Int32 := if (lN 0 ≤ (a / nI 4 + (if b = nI 1 then nI 1 else if b = nI 2 then -1 else nI 0)).toInt64 ∧ (a / nI 4 + (if b = nI 1 then nI 1 else if b = nI 2 then -1 else nI 0)).toInt64 ≤ lN 4) ∧ (lN 0 ≤ ((a - a / nI 4 * nI 4) + (if b = nI 3 then nI 1 else if b = nI 4 then -1 else nI 0)).toInt64 ∧ ((a - a / nI 4 * nI 4) + (if b = nI 3 then nI 1 else if b = nI 4 then -1 else nI 0)).toInt64 ≤ lN 3) then nI 4 * (a / nI 4 + (if b = nI 1 then nI 1 else if b = nI 2 then -1 else nI 0)) + ((a - a / nI 4 * nI 4) + (if b = nI 3 then nI 1 else if b = nI 4 then -1 else nI 0)) else -4
theorem b7_nextJ46 (x y z : Int32) (s : St) : f_X7_nextCell_J46 x y z s = some (if (lN 0 ≤ x.toInt64 ∧ x.toInt64 ≤ lN 4) ∧ (lN 0 ≤ (z + y).toInt64 ∧ (z + y).toInt64 ≤ lN 3) then nI 4 * x + (z + y) else -4, s) := by
  unfold f_X7_nextCell_J46
  rw [bd_s, b7_within, cl_s]
  by_cases h1 : lN 0 ≤ x.toInt64 ∧ x.toInt64 ≤ lN 4
  · rw [if_pos h1, if_neg (by decide), b7_within, cl_s]
    by_cases h2 : lN 0 ≤ (z + y).toInt64 ∧ (z + y).toInt64 ≤ lN 3
    · rw [if_pos h2, if_neg (by decide), if_pos ⟨h1, h2⟩]
    · rw [if_neg h2, if_pos (by decide), if_neg (fun q => h2 q.2)]
  · rw [if_neg h1, if_pos (by decide), if_neg (fun q => h1 q.1)]
theorem b7_next0 (a b : Int32) (s : St) : f_X7_nextCell a b s = some (nc7 a b, s) := by
  unfold f_X7_nextCell f_X7_nextCell_J22 nc7
  simp only [b7_nextJ46, bd_s]
  by_cases h1 : b = nI 1
  · subst h1; rfl
  · by_cases h2 : b = nI 2
    · subst h2; rfl
    · by_cases h3 : b = nI 3
      · subst h3; rfl
      · by_cases h4 : b = nI 4
        · subst h4; rfl
        · simp only [h1, h2, h3, h4, not_false_iff, if_true, if_false]
theorem nc7_all : ∀ w, w < 5 → 0 < w → ∀ c, c < 20 → nc7 (nI c) (nI w) = if nxt c w = 20 then -4 else nI (nxt c w) := by decide +kernel
theorem b7_next {c w : Nat} (hc : c < 20) (hw : w < 5) (hw0 : 0 < w) (s : St) : f_X7_nextCell (nI c) (nI w) s = some (if nxt c w = 20 then -4 else nI (nxt c w), s) := by
  rw [b7_next0, nc7_all w hw hw0 c hc]
/-- the reference's order of moving -/
def dk2 (w l : Nat) (M : Nat → Nat) (g : Nat → Nat) : Nat → Nat → Nat
  | 0 => g
  | k + 1 =>
    if nxt k w = 20 then up (up (dk2 w l M g k) (43 + 20 * l + k) (dk2 w l M g k (43 + 20 * l + k) - M k)) (103 + l) (dk2 w l M g k (103 + l) + M k)
    else up (up (dk2 w l M g k) (43 + 20 * l + k) (dk2 w l M g k (43 + 20 * l + k) - M k)) (43 + 20 * l + nxt k w) (dk2 w l M g k (43 + 20 * l + nxt k w) + M k)
theorem dk2_cl {w l : Nat} {M g : Nat → Nat} (hl : l < 3) (hw : w < 5) (hw0 : 0 < w) (hM : ∀ x, x < 20 → M x ≤ g (43 + 20 * l + x)) : ∀ k, k ≤ 20 →
    (∀ x, x < 20 → dk2 w l M g k (43 + 20 * l + x) = g (43 + 20 * l + x) - (if x < k then M x else 0) + (if prv x w < 20 ∧ prv x w < k then M (prv x w) else 0)) ∧
    dk2 w l M g k (103 + l) = g (103 + l) + sm (fun x => if nxt x w = 20 then M x else 0) k ∧
    (∀ j, (j < 43 + 20 * l ∨ 43 + 20 * l + 20 ≤ j) → j ≠ 103 + l → dk2 w l M g k j = g j)
  | 0, _ => by
    refine ⟨fun x hx => ?_, rfl, fun j _ _ => rfl⟩
    rw [if_neg (by omega), if_neg (by omega)]
    rfl
  | k + 1, hk => by
    obtain ⟨i1, i2, i3⟩ := dk2_cl (g := g) hl hw hw0 hM k (by omega)
    have hnl := nxt_le w hw k (by omega)
    have hne := hnl.2 hw0
    have es : dk2 w l M g (k + 1) = if nxt k w = 20 then up (up (dk2 w l M g k) (43 + 20 * l + k) (dk2 w l M g k (43 + 20 * l + k) - M k)) (103 + l) (dk2 w l M g k (103 + l) + M k) else up (up (dk2 w l M g k) (43 + 20 * l + k) (dk2 w l M g k (43 + 20 * l + k) - M k)) (43 + 20 * l + nxt k w) (dk2 w l M g k (43 + 20 * l + nxt k w) + M k) := rfl
    rw [es]
    have hMk := hM k (by omega)
    refine ⟨fun x hx => ?_, ?_, fun j hj hj2 => ?_⟩
    · have hpx := prv_le w hw x hx
      have hnp := nxt_prv w hw hw0 k (by omega) x hx
      have h1 := i1 x hx
      by_cases hxk : x = k
      · subst hxk
        rw [if_pos (show x < x + 1 by omega)]
        have e1 : dk2 w l M g x (43 + 20 * l + x) = g (43 + 20 * l + x) + (if prv x w < 20 ∧ prv x w < x then M (prv x w) else 0) := by
          rw [h1, if_neg (show ¬ x < x by omega)]; rfl
        have e2 : (prv x w < 20 ∧ prv x w < x + 1) ↔ (prv x w < 20 ∧ prv x w < x) := by omega
        simp only [e2]
        by_cases e : nxt x w = 20
        · rw [if_pos e, up_o (by omega), up_k, e1]; omega
        · rw [if_neg e, up_o (by omega), up_k, e1]; omega
      · have e5 : (x < k + 1) ↔ (x < k) := by omega
        simp only [e5]
        by_cases hnx : nxt k w = x
        · rw [if_neg (by omega), hnx, up_k, h1]
          have hpv : prv x w = k := hnp.mp hnx
          rw [hpv, if_pos (show k < 20 ∧ k < k + 1 by omega), if_neg (show ¬ (k < 20 ∧ k < k) by omega)]
          omega
        · have hpv : prv x w ≠ k := fun q => hnx (hnp.mpr q)
          have e6 : (prv x w < 20 ∧ prv x w < k + 1) ↔ (prv x w < 20 ∧ prv x w < k) := by omega
          simp only [e6]
          by_cases e : nxt k w = 20
          · rw [if_pos e, up_o (by omega), up_o (by omega), h1]
          · rw [if_neg e, up_o (by omega), up_o (by omega), h1]
    · show _ = g (103 + l) + (sm (fun x => if nxt x w = 20 then M x else 0) k + (if nxt k w = 20 then M k else 0))
      by_cases e : nxt k w = 20
      · rw [if_pos e, if_pos e, up_k, i2]; omega
      · rw [if_neg e, if_neg e, up_o (by omega), up_o (by omega), i2]; omega
    · by_cases e : nxt k w = 20
      · rw [if_pos e, up_o (by omega), up_o (by omega)]; exact i3 j hj hj2
      · rw [if_neg e, up_o (by omega), up_o (by omega)]; exact i3 j hj hj2
theorem dk2_drift {w l : Nat} {g : Nat → Nat} (hl : l < 3) (hw : w < 5) (hw0 : 0 < w) : dk2 w l (fun c => mv (g (4 * l)) (g (43 + 20 * l + c))) g 20 = drift1 w g l := by
  obtain ⟨h1, h2, h3⟩ := dk2_cl (g := g) (M := fun c => mv (g (4 * l)) (g (43 + 20 * l + c))) hl hw hw0 (fun x _ => mv_le _ _) 20 (Nat.le_refl _)
  funext j
  by_cases hj : 43 + 20 * l ≤ j ∧ j < 43 + 20 * l + 20
  · obtain ⟨x, rfl⟩ : ∃ x, j = 43 + 20 * l + x := ⟨j - (43 + 20 * l), by omega⟩
    rw [h1 x (by omega), drift1_c (by omega), if_pos (show x < 20 by omega)]
    by_cases hp : prv x w < 20
    · rw [if_pos ⟨hp, hp⟩, if_pos hp]
    · rw [if_neg (fun q => hp q.1), if_neg hp]
  · by_cases hj2 : j = 103 + l
    · subst hj2
      rw [h2, drift1_l hl]
    · rw [h3 j (by omega) hj2, drift1_o (by omega) hj2]
theorem b7_drift1 {s : St} {nl ns T : Nat} {g : Nat → Nat} (hR : NR s nl ns g) (hW : WF nl ns T g) {w l : Nat} (hw : w < 5) (hw0 : 0 < w) (hl : l < nl) : ∃ s2, f_X7_drifts_L2 (nI w) (nI l) s = some (Sum.inl (nI (l + 1), s2)) ∧ NR s2 nl ns (drift1 w g l) ∧ Sn s s2 := by
  have hn := hW.1
  have hT := hW.T
  have hk3 := (hW.2.2.2.1 l hl).1
  unfold f_X7_drifts_L2
  rw [hR.1, if_neg (nI_ge hl (by omega)), bd_s]
  simp only [pk_mul, nI_add]
  have second : ∀ s3 : St, NR s3 nl ns g → (∀ c, c < 20 → s3.1 195 c = nI (mv (g (4 * l)) (g (43 + 20 * l + c)))) → Sn s s3 → ∃ t, lp (fun q : Int32 × St => f_X7_drifts_L66 (nI w) (nI l) (nI (43 + 20 * l)) q.1 q.2) Fu (nI 0, s3) = some t ∧ ∃ s2, t = Sum.inl (nI (l + 1), s2) ∧ NR s2 nl ns (drift1 w g l) ∧ Sn s s2 := by
    intro s3 h3 hg hS
    have hcl := dk2_cl (g := g) (w := w) (l := l) (M := fun c => mv (g (4 * l)) (g (43 + 20 * l + c))) (by omega) hw hw0 (fun x _ => mv_le _ _)
    refine lp_inv (body := fun q : Int32 × St => f_X7_drifts_L66 (nI w) (nI l) (nI (43 + 20 * l)) q.1 q.2) (fun k q => q.1 = nI k ∧ NR q.2 nl ns (dk2 w l (fun c => mv (g (4 * l)) (g (43 + 20 * l + c))) g k) ∧ (∀ c, c < 20 → q.2.1 195 c = nI (mv (g (4 * l)) (g (43 + 20 * l + c)))) ∧ Sn s q.2) _ 20 (fun k q hk hq => ?_) (fun q hq => ?_) ⟨rfl, h3, hg, hS⟩ (Fu_lt (by omega))
    · obtain ⟨x, s4⟩ := q
      obtain ⟨q1, q2, q3, q4⟩ := hq
      dsimp only at q1 q2 q3 q4 ⊢
      subst q1
      have hnl := nxt_le w hw k hk
      have hne := hnl.2 hw0
      have hsub : mv (g (4 * l)) (g (43 + 20 * l + k)) ≤ dk2 w l (fun c => mv (g (4 * l)) (g (43 + 20 * l + c))) g k (43 + 20 * l + k) := by
        rw [(hcl k (by omega)).1 k hk, if_neg (by omega)]
        have := mv_le (g (4 * l)) (g (43 + 20 * l + k))
        omega
      unfold f_X7_drifts_L66
      rw [if_neg (nI_ge hk (by decide)), b7_next hk hw hw0, cl_s]
      simp only [nI_add]
      rw [if_pos (ib191 (by omega)), if_pos (ib195 hk), bd_s, nI_clamp (by omega), nI_clamp (by omega), q2.2.2 _ (by omega), q3 k hk, pk_sub hsub]
      by_cases e : nxt k w = 20
      · rw [if_pos e, if_neg (fun q => q rfl), if_pos (ib191 (by omega)), bd_s, nI_clamp (by omega), wI_ne (by omega), wI_1o (by decide), q2.2.2 _ (by omega), q3 k hk, nI_add]
        refine ⟨_, rfl, rfl, ?_, fun c hc => ?_, q4.tr (Sn.wi.tr Sn.wi)⟩
        · show NR _ nl ns (if nxt k w = 20 then _ else _)
          rw [if_pos e]
          exact q2.wi.wi
        · dsimp only
          rw [wI_1o (by decide), wI_1o (by decide)]
          exact q3 c hc
      · have hm4 : ¬ nI (nxt k w) = -4 := fun q => by
          have h5 := congrArg Int32.toInt q
          rw [nI_toInt (by omega), show (-4 : Int32).toInt = -4 by decide] at h5
          omega
        rw [if_neg e, if_pos hm4, nI_add, if_pos (ib191 (by omega)), bd_s, nI_clamp (by omega), wI_ne (by omega), wI_1o (by decide), q2.2.2 _ (by omega), q3 k hk, nI_add]
        refine ⟨_, rfl, rfl, ?_, fun c hc => ?_, q4.tr (Sn.wi.tr Sn.wi)⟩
        · show NR _ nl ns (if nxt k w = 20 then _ else _)
          rw [if_neg e]
          exact q2.wi.wi
        · dsimp only
          rw [wI_1o (by decide), wI_1o (by decide)]
          exact q3 c hc
    · obtain ⟨x, s4⟩ := q
      obtain ⟨q1, q2, q3, q4⟩ := hq
      dsimp only at q1 q2 q3 q4 ⊢
      subst q1
      unfold f_X7_drifts_L66
      rw [if_pos (by decide), nI_add]
      refine ⟨_, rfl, s4, rfl, ?_, q4⟩
      rw [← dk2_drift (by omega) hw hw0]
      exact q2
  obtain ⟨t, h1, h2⟩ := lp_inv (body := fun q : Int32 × St => f_X7_drifts_L21 (nI w) (nI l) (nI (43 + 20 * l)) q.1 q.2) (fun k q => q.1 = nI k ∧ NR q.2 nl ns g ∧ (∀ c, c < k → q.2.1 195 c = nI (mv (g (4 * l)) (g (43 + 20 * l + c)))) ∧ Sn s q.2) (fun t => ∃ s2, t = Sum.inl (nI (l + 1), s2) ∧ NR s2 nl ns (drift1 w g l) ∧ Sn s s2) 20 (fun k q hk hq => by
    obtain ⟨x, s4⟩ := q
    obtain ⟨q1, q2, q3, q4⟩ := hq
    dsimp only at q1 q2 q3 q4 ⊢
    subst q1
    have hck := hW.cell (l := l) (c := k) (by omega) hk
    unfold f_X7_drifts_L21
    rw [if_neg (nI_ge hk (by decide))]
    simp only [pk_mul, nI_add]
    rw [if_pos (ib191 (by omega)), if_pos (ib191 (by omega)), nI_clamp (by omega), nI_clamp (by omega), q2.2.2 _ (by omega), q2.2.2 _ (by omega), Nat.add_zero, b7_moves hk3 (by omega), cl_s, if_pos (ib195 hk), bd_s, nI_clamp (by omega)]
    refine ⟨_, rfl, rfl, q2.wg, fun c hc => ?_, q4.tr Sn.wg⟩
    dsimp only
    by_cases e : c = k
    · subst e; rw [wI_at]
    · rw [wI_ne e]; exact q3 c (by omega)) (fun q hq => by
    obtain ⟨x, s4⟩ := q
    obtain ⟨q1, q2, q3, q4⟩ := hq
    dsimp only at q1 q2 q3 q4 ⊢
    subst q1
    obtain ⟨t, k1, k2⟩ := second s4 q2 q3 q4
    unfold f_X7_drifts_L21
    rw [if_pos (by decide), k1, ox_s]
    exact ⟨t, rfl, k2⟩) (q := (nI 0, s)) ⟨rfl, hR, fun c hc => absurd hc (by omega), Sn.rf⟩ (Fu_lt (by omega))
  obtain ⟨s2, rfl, k3, k4⟩ := h2
  exact ⟨s2, h1, k3, k4⟩
theorem b7_drifts {s : St} {nl ns T : Nat} {g : Nat → Nat} (hR : NR s nl ns g) (hW : WF nl ns T g) {w : Nat} (hw : w < 5) (hw0 : 0 < w) : ∃ s2, f_X7_drifts (nI w) s = some ((), s2) ∧ NR s2 nl ns (driftA w g nl) ∧ Sn s s2 := by
  have hn := hW.1
  unfold f_X7_drifts
  obtain ⟨t, h1, h2⟩ := lp_inv (body := fun q : Int32 × St => f_X7_drifts_L2 (nI w) q.1 q.2) (fun l q => q.1 = nI l ∧ NR q.2 nl ns (driftA w g l) ∧ Sn s q.2) (fun t => NR t.2 nl ns (driftA w g nl) ∧ Sn s t.2) nl (fun l q hl hq => by
    obtain ⟨q1, q2, q3⟩ := hq
    obtain ⟨s2, k1, k2, k3⟩ := b7_drift1 q2 (hW.driftA hw hw0 (by omega)) hw hw0 hl
    exact ⟨(nI (l + 1), s2), by rw [q1]; exact k1, rfl, k2, q3.tr k3⟩) (fun q hq => by
    obtain ⟨q1, q2, q3⟩ := hq
    refine ⟨((), q.2), ?_, q2, q3⟩
    unfold f_X7_drifts_L2
    rw [q1, q2.1, if_pos (nI_le (Nat.le_refl _) (by omega))]) (q := (nI 0, s)) ⟨rfl, hR, Sn.rf⟩ (Fu_lt (by omega))
  exact ⟨t.2, h1, h2⟩
/-- a STEP of the reference, by the air of the STEP or as if it were still -/
theorem b7_stepw {s : St} {nl ns T : Nat} {g : Nat → Nat} (hR : NR s nl ns g) (hW : WF nl ns T g) (a : Int32) : ∃ s2, f_X7_stepGoes a s = some ((), s2) ∧ NR s2 nl ns (stp nl ns (if a = 0 then wy g else 0) g) ∧ Sn s s2 := by
  obtain ⟨s1, a1, a2, a3⟩ := b7_told hR hW
  obtain ⟨s3, c1, c2, c3⟩ := b7_taken a2 (hW.told (Nat.le_refl _))
  have hWt : WF nl ns T (tt nl ns g) := hW.tt
  change NR s3 nl ns (tt nl ns g) at c2
  have hk42 : tt nl ns g 42 = g 42 := tt_kp hW 42 (by omega)
  have hkw : tt nl ns g (32 + g 42 % 6) = wy g := tt_kp hW _ (by omega)
  have hwl := wy_lt hW
  have h42 := hW.2.2.2.2.2.2.2.1
  have fin : ∀ {s4 : St} {w : Nat}, w < 5 → NR s4 nl ns (blown nl w (tt nl ns g)) → ∃ s5, f_X7_stepGoes_J40 s4 = some ((), s5) ∧ NR s5 nl ns (stp nl ns w g) ∧ Sn s4 s5 := by
    intro s4 w hw h4
    have e := (tt_kp hW).tr (blown_kp hWt hw) 42 (by omega)
    unfold f_X7_stepGoes_J40
    rw [if_pos (ib191 (by decide)), bd_s, nI_clamp (by decide), h4.2.2 42 (by decide), e, nI_add]
    exact ⟨_, rfl, h4.wi, Sn.wi⟩
  unfold f_X7_stepGoes
  rw [a1, cl_s, c1, cl_s, if_pos (ib191 (by decide)), nI_clamp (by decide), c2.2.2 42 (by decide), hk42, pk_rem (by omega) (by decide) (by decide), nI_add, if_pos (ib191 (by omega)), bd_s, nI_clamp (by omega), c2.2.2 _ (by omega), hkw]
  by_cases hw0 : wy g = 0
  · rw [if_pos (by rw [hw0]; rfl)]
    obtain ⟨s5, d1, d2, d3⟩ := fin (w := 0) (by decide) c2
    refine ⟨s5, d1, ?_, (a3.tr c3).tr d3⟩
    rw [hw0, ite_self]
    exact d2
  · rw [if_neg (fun q => hw0 ((nI_e0 (by omega)).mp q))]
    by_cases ha : a = 0
    · rw [if_neg (fun q => q ha)]
      obtain ⟨s4, e1, e2, e3⟩ := b7_drifts c2 hWt hwl (by omega)
      obtain ⟨s5, d1, d2, d3⟩ := fin (s4 := s4) hwl (by unfold blown; rw [if_neg hw0]; exact e2)
      rw [e1, cl_s]
      refine ⟨s5, d1, ?_, ((a3.tr c3).tr e3).tr d3⟩
      rw [if_pos ha]
      exact d2
    · rw [if_pos ha]
      obtain ⟨s5, d1, d2, d3⟩ := fin (w := 0) (by decide) c2
      refine ⟨s5, d1, ?_, (a3.tr c3).tr d3⟩
      rw [if_neg ha]
      exact d2
theorem b7_step {s : St} {nl ns T : Nat} {g : Nat → Nat} (hR : NR s nl ns g) (hW : WF nl ns T g) : ∃ s2, f_X7_stepGoes (nI 0) s = some ((), s2) ∧ NR s2 nl ns (stp nl ns (wy g) g) ∧ Sn s s2 := b7_stepw hR hW (nI 0)
theorem b7_stepsGo {s : St} {nl ns T n : Nat} {g : Nat → Nat} (hR : NR s nl ns g) (hW : WF nl ns T g) (hn : g 42 + n ≤ 2000) (hn2 : n < 500) : ∃ s2, f_X7_stepsGo (nI n) s = some ((), s2) ∧ NR s2 nl ns (stn nl ns g n) ∧ Sn s s2 := by
  unfold f_X7_stepsGo
  obtain ⟨t, h1, h2⟩ := lp_inv (body := fun q : Int32 × St => f_X7_stepsGo_L2 (nI n) q.1 q.2) (fun k q => q.1 = nI k ∧ NR q.2 nl ns (stn nl ns g k) ∧ Sn s q.2) (fun t => NR t.2 nl ns (stn nl ns g n) ∧ Sn s t.2) n (fun k q hk hq => by
    obtain ⟨x, s3⟩ := q
    obtain ⟨q1, q2, q3⟩ := hq
    dsimp only at q1 q2 q3 ⊢
    subst q1
    obtain ⟨s2, k1, k2, k3⟩ := b7_step q2 (stn_WF hW (k := k) (by omega)).1
    unfold f_X7_stepsGo_L2
    rw [if_neg (nI_ge hk (by omega)), k1, cl_s, nI_add]
    exact ⟨_, rfl, rfl, k2, q3.tr k3⟩) (fun q hq => by
    obtain ⟨x, s3⟩ := q
    obtain ⟨q1, q2, q3⟩ := hq
    dsimp only at q1 q2 q3 ⊢
    subst q1
    unfold f_X7_stepsGo_L2
    rw [if_pos (nI_le (Nat.le_refl _) (by omega))]
    exact ⟨_, rfl, q2, q3⟩) (q := (nI 0, s)) ⟨rfl, hR, Sn.rf⟩ (Fu_lt (by omega))
  exact ⟨t.2, h1, h2⟩
theorem b7_inRoom {s : St} {nl ns : Nat} {g : Nat → Nat} (hR : NR s nl ns g) {l : Nat} (hl : l < 3) : f_X7_inRoom (nI l) s = some (nI (al g l), s) := by
  unfold f_X7_inRoom
  refine lp_run (fun k => (nI (sm (fun c => g (43 + 20 * l + c)) k), nI k, s)) 20 _ (fun k hk => ?_) ?_ rfl (Fu_lt (by omega))
  · dsimp only
    unfold f_X7_inRoom_L4
    simp only [pk_mul, nI_add]
    rw [if_neg (nI_ge hk (by decide)), if_pos (ib191 (by omega)), bd_s, nI_clamp (by omega), hR.2.2 _ (by omega), nI_add]
    rfl
  · dsimp only
    unfold f_X7_inRoom_L4
    rw [if_pos (by decide)]
    rfl
theorem b7_hadBy {s : St} {nl ns : Nat} {g : Nat → Nat} (hR : NR s nl ns g) {i : Nat} (hi : i < 4) : f_X7_hadBy (nI i) s = some (nI (sm (fun l => g (20 + 3 * i + l)) 3), s) := by
  unfold f_X7_hadBy
  refine lp_run (fun k => (nI (sm (fun l => g (20 + 3 * i + l)) k), nI k, s)) 3 _ (fun k hk => ?_) ?_ rfl (Fu_lt (by omega))
  · dsimp only
    unfold f_X7_hadBy_L4
    simp only [pk_mul, nI_add]
    rw [if_neg (nI_ge hk (by decide)), if_pos (ib191 (by omega)), bd_s, nI_clamp (by omega), hR.2.2 _ (by omega), nI_add]
    rfl
  · dsimp only
    unfold f_X7_hadBy_L4
    rw [if_pos (by decide)]
theorem b7_hadOf {s : St} {nl ns : Nat} {g : Nat → Nat} (hR : NR s nl ns g) {l : Nat} (hl : l < 3) : f_X7_hadOf (nI l) s = some (nI (hd g l), s) := by
  unfold f_X7_hadOf
  refine lp_run (fun k => (nI (sm (fun i => g (20 + 3 * i + l)) k), nI k, s)) 4 _ (fun k hk => ?_) ?_ rfl (Fu_lt (by omega))
  · dsimp only
    unfold f_X7_hadOf_L4
    simp only [pk_mul, nI_add]
    rw [if_neg (nI_ge hk (by decide)), if_pos (ib191 (by omega)), bd_s, nI_clamp (by omega), hR.2.2 _ (by omega), nI_add]
    rfl
  · dsimp only
    unfold f_X7_hadOf_L4
    rw [if_pos (by decide)]
    rfl
theorem b7_allIn {s : St} {nl ns : Nat} {g : Nat → Nat} (hR : NR s nl ns g) : f_X7_allIn s = some (nI (sm (al g) 3), s) := by
  unfold f_X7_allIn
  rw [b7_inRoom hR (by decide), cl_s, b7_inRoom hR (by decide), cl_s, b7_inRoom hR (by decide), cl_s, nI_add, nI_add]
  simp only [sm, Nat.zero_add]
theorem b7_allLost {s : St} {nl ns : Nat} {g : Nat → Nat} (hR : NR s nl ns g) : f_X7_allLost s = some (nI (sm (fun l => g (103 + l)) 3), s) := by
  unfold f_X7_allLost
  rw [if_pos (ib191 (by decide)), if_pos (ib191 (by decide)), if_pos (ib191 (by decide)), nI_clamp (by decide), nI_clamp (by decide), nI_clamp (by decide), hR.2.2 _ (by decide), hR.2.2 _ (by decide), hR.2.2 _ (by decide), nI_add, nI_add]
  simp only [sm, Nat.zero_add, Nat.add_zero]
theorem b7_allHad {s : St} {nl ns : Nat} {g : Nat → Nat} (hR : NR s nl ns g) : f_X7_allHad s = some (nI (sm (hd g) 3), s) := by
  unfold f_X7_allHad
  rw [b7_hadOf hR (by decide), cl_s, b7_hadOf hR (by decide), cl_s, b7_hadOf hR (by decide), cl_s, nI_add, nI_add]
  simp only [sm, Nat.zero_add]
theorem b7_allLeft {s : St} {nl ns : Nat} {g : Nat → Nat} (hR : NR s nl ns g) (hn : nl ≤ 3) : f_X7_allLeft s = some (nI (sm (fun l => g (4 * l + 3)) nl), s) := by
  unfold f_X7_allLeft
  refine lp_run (fun k => (nI (sm (fun l => g (4 * l + 3)) k), nI k, s)) nl _ (fun k hk => ?_) ?_ rfl (Fu_lt (by omega))
  · dsimp only
    unfold f_X7_allLeft_L4
    simp only [pk_mul, nI_add]
    rw [hR.1, if_neg (nI_ge hk (by omega)), if_pos (ib191 (by omega)), bd_s, nI_clamp (by omega), hR.2.2 _ (by omega), nI_add]
    rfl
  · dsimp only
    unfold f_X7_allLeft_L4
    rw [hR.1, if_pos (nI_le (Nat.le_refl _) (by omega))]

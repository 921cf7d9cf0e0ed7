/-! THE TAPE: TOKENS, in numbers -/
def tkb (c : Nat) : Nat := if 97 ≤ c ∧ c ≤ 122 then 1 else if 48 ≤ c ∧ c ≤ 57 then 2 else if c = 59 then 3 else 4
theorem tkb_rng (c : Nat) : 1 ≤ tkb c ∧ tkb c ≤ 4 := by
  unfold tkb
  split
  · omega
  · split
    · omega
    · split <;> omega
theorem tkb_32 {c : Nat} (h : tkb c ≤ 2) : c ≠ 32 := by
  intro e
  subst e
  exact absurd h (by decide)
theorem tkb_2 {c : Nat} : tkb c = 2 ↔ 48 ≤ c ∧ c ≤ 57 := by
  unfold tkb
  split
  · omega
  · split
    · omega
    · split <;> omega
theorem tkb_1 {c : Nat} : tkb c = 1 ↔ 97 ≤ c ∧ c ≤ 122 := by
  unfold tkb
  split
  · omega
  · split
    · omega
    · split <;> omega
theorem tkb_3 {c : Nat} : tkb c = 3 ↔ c = 59 := by
  unfold tkb
  split
  · omega
  · split
    · omega
    · split <;> omega
/-- the TOKEN from p on: where it begins, of which sort, where it ends -/
def Tk (b : Nat → Nat) (len p : Nat) (t : Nat × Nat × Nat) : Prop :=
  p ≤ t.1 ∧ t.1 ≤ len ∧ (∀ j, p ≤ j → j < t.1 → b j = 32) ∧ (t.1 < len → b t.1 ≠ 32) ∧
  ((t.1 = len ∧ t.2.1 = 0 ∧ t.2.2 = len) ∨
   (t.1 < len ∧ t.2.1 = tkb (b t.1) ∧ t.1 < t.2.2 ∧ t.2.2 ≤ len ∧ (2 < t.2.1 → t.2.2 = t.1 + 1) ∧ (t.2.1 ≤ 2 → (∀ j, t.1 ≤ j → j < t.2.2 → tkb (b j) = t.2.1) ∧ (t.2.2 < len → tkb (b t.2.2) ≠ t.2.1))))
theorem tk_ex {b : Nat → Nat} {len p : Nat} (hp : p ≤ len) : ∃ t, Tk b len p t := by
  obtain ⟨J, j1, j2, j3⟩ := fst_stop (fun j => b (p + j) ≠ 32) (len - p)
  have k1 : ∀ j, p ≤ j → j < p + J → b j = 32 := by
    intro j h1 h2
    have h3 := j2 (j - p) (by omega)
    rw [show p + (j - p) = j by omega] at h3
    exact Classical.not_not.mp h3
  by_cases hq : p + J = len
  · exact ⟨(len, 0, len), hp, Nat.le_refl _, fun j h1 h2 => k1 j h1 (by omega), fun h => absurd h (Nat.lt_irrefl _), Or.inl ⟨rfl, rfl, rfl⟩⟩
  · have k2 : b (p + J) ≠ 32 := by
      rcases j3 with h | h
      · omega
      · exact h
    obtain ⟨R, r1, r2, r3⟩ := fst_stop (fun j => tkb (b (p + J + 1 + j)) ≠ tkb (b (p + J))) (len - (p + J + 1))
    by_cases hk : tkb (b (p + J)) ≤ 2
    · refine ⟨(p + J, tkb (b (p + J)), p + J + 1 + R), by dsimp only; omega, by dsimp only; omega, k1, fun _ => k2, Or.inr ⟨by dsimp only; omega, rfl, by dsimp only; omega, by dsimp only; omega, fun h => by dsimp only at h; omega, fun _ => ⟨fun j h1 h2 => ?_, fun h => ?_⟩⟩⟩
      · dsimp only at h1 h2 ⊢
        by_cases e : j = p + J
        · rw [e]
        · have h3 := r2 (j - (p + J + 1)) (by omega)
          rw [show p + J + 1 + (j - (p + J + 1)) = j by omega] at h3
          exact Classical.not_not.mp h3
      · dsimp only at h ⊢
        rcases r3 with h4 | h4
        · omega
        · exact h4
    · exact ⟨(p + J, tkb (b (p + J)), p + J + 1), by dsimp only; omega, by dsimp only; omega, k1, fun _ => k2, Or.inr ⟨by dsimp only; omega, rfl, by dsimp only; omega, by dsimp only; omega, fun _ => rfl, fun h => absurd h hk⟩⟩
noncomputable def tok (b : Nat → Nat) (len p : Nat) : Nat × Nat × Nat := Classical.epsilon (fun t => Tk b len p t)
theorem tok_ok {b : Nat → Nat} {len p : Nat} (hp : p ≤ len) : Tk b len p (tok b len p) := Classical.epsilon_spec (tk_ex hp)
def bad (t : Nat × Nat × Nat) : Bool := decide (t.2.1 = 4 ∨ t.2.1 = 2 ∧ 2 < t.2.2 - t.1)
theorem bad_iff {t : Nat × Nat × Nat} : bad t = true ↔ (t.2.1 = 4 ∨ t.2.1 = 2 ∧ 2 < t.2.2 - t.1) := decide_eq_true_iff
theorem Tk.le {b : Nat → Nat} {len p : Nat} {t : Nat × Nat × Nat} (h : Tk b len p t) : t.1 ≤ t.2.2 ∧ t.2.2 ≤ len ∧ p ≤ t.2.2 ∧ t.2.1 ≤ 4 := by
  obtain ⟨h1, h2, h3, h4, h5⟩ := h
  rcases h5 with ⟨a, b, c⟩ | ⟨a, b', c, d, e, f⟩
  · omega
  · have := tkb_rng (b t.1)
    omega
/-- what a run of figures says -/
def nvj (b : Nat → Nat) (q : Nat) : Nat → Nat
  | 0 => 0
  | j + 1 => nvj b q j * 10 + (b (q + j) - 48)
theorem nvj_s {b : Nat → Nat} {q j : Nat} : nvj b q (j + 1) = nvj b q j * 10 + (b (q + j) - 48) := rfl
theorem nvj_le {b : Nat → Nat} {q j : Nat} (hj : j ≤ 2) (h : ∀ i, i < j → b (q + i) ≤ 57) : nvj b q j ≤ 99 := by
  rcases (show j = 0 ∨ j = 1 ∨ j = 2 by omega) with rfl | rfl | rfl
  · exact Nat.zero_le _
  · have h0 := h 0 (by decide)
    show (0 * 10 + (b (q + 0) - 48)) ≤ 99
    omega
  · have h0 := h 0 (by decide)
    have h1 := h 1 (by decide)
    show ((0 * 10 + (b (q + 0) - 48)) * 10 + (b (q + 1) - 48)) ≤ 99
    omega
def nv (b : Nat → Nat) (t : Nat × Nat × Nat) : Nat := nvj b t.1 (t.2.2 - t.1)
theorem wI_id {s : St} {k i : Nat} {x : Int32} (h : s.1 k i = x) : wI s k i x = s := by
  refine Prod.ext ?_ rfl
  funext a
  by_cases e : a = k
  · subst e
    rw [wI_k]
    funext j
    by_cases e2 : j = i
    · subst e2; rw [upd_k, h]
    · rw [upd_o e2]
  · rw [wI_1o e]
/-- the class's TAPE holds b -/
def CB (s : St) (b : Nat → Nat) (len : Nat) : Prop := len ≤ 160 ∧ s.1 33 1 = nI len ∧ ∀ i, i < len → b i < 128 ∧ s.1 34 i = nI (b i)
/-- all but the TAPE's own is as it was -/
def F3 (s s2 : St) : Prop := (∀ k, k ≠ 33 → s2.1 k = s.1 k) ∧ s2.1 33 1 = s.1 33 1 ∧ s2.1 33 7 = s.1 33 7
theorem F3.rf {s : St} : F3 s s := ⟨fun _ _ => rfl, rfl, rfl⟩
theorem F3.tr {s s2 s3 : St} (h : F3 s s2) (h2 : F3 s2 s3) : F3 s s3 := ⟨fun k hk => (h2.1 k hk).trans (h.1 k hk), h2.2.1.trans h.2.1, h2.2.2.trans h.2.2⟩
theorem F3.wi {s : St} {i : Nat} {x : Int32} (h1 : i ≠ 1) (h7 : i ≠ 7) : F3 s (wI s 33 i x) := ⟨fun k hk => wI_1o hk, wI_ne (fun e => h1 e.symm), wI_ne (fun e => h7 e.symm)⟩
theorem CB.f3 {s s2 : St} {b : Nat → Nat} {len : Nat} (h : CB s b len) (hF : F3 s s2) : CB s2 b len := ⟨h.1, by rw [hF.2.1]; exact h.2.1, fun i hi => ⟨(h.2.2 i hi).1, by rw [hF.1 34 (by decide)]; exact (h.2.2 i hi).2⟩⟩
theorem ib34 {e : Nat} (h : e < 160) : inb (nI e) (lnB 34) = true := by rw [show lnB 34 = 160 by decide]; exact inb_t h (by decide)
theorem c_tokenOf {c : Nat} (hc : c < 128) (s : St) : f_X5_tokenOf (nI c) s = some (nI (tkb c), s) := by
  have e1 : (nI c < nI 97) ↔ c < 97 := nI_ltI (by omega) (by omega)
  have e2 : (nI 122 < nI c) ↔ 122 < c := nI_ltI (by omega) (by omega)
  have e3 : (nI c < nI 48) ↔ c < 48 := nI_ltI (by omega) (by omega)
  have e4 : (nI 57 < nI c) ↔ 57 < c := nI_ltI (by omega) (by omega)
  have e5 : (nI c = nI 59) ↔ c = 59 := nI_eq (by omega) (by omega)
  unfold f_X5_tokenOf f_X5_tokenOf_J14 f_X5_tokenOf_J28 tkb
  simp only [e1, e2, e3, e4, e5]
  repeat' split
  all_goals first | rfl | (exfalso; omega)
theorem c_refuse {x : Int32} {s : St} : f_X5_refuse x s = some (nI 0, wI s 33 2 x) := rfl
theorem or01 : nI 0 = 0 ∨ nI 0 = (1 : Int32) := by decide
theorem c_J165 {s : St} {q k r : Nat} (h3 : s.1 33 3 = nI q) (h4 : s.1 33 4 = nI r) (h5 : s.1 33 5 = nI k) (hq : q ≤ r) (hr : r ≤ 160) (hk : k ≤ 4) : f_X5_readToken_J165 s = some (if bad (q, k, r) = true then (nI 0, wI s 33 2 (nI 1)) else (nI 1, s)) := by
  unfold f_X5_readToken_J165
  rw [h5, h4, h3, pk_sub hq, c_refuse, cl_s, if_pos or01]
  by_cases k4 : k = 4
  · subst k4
    rw [if_pos rfl, if_pos (bad_iff.mpr (Or.inl rfl))]
  · rw [if_neg (fun e => k4 ((nI_eq (by omega) (by omega)).mp e))]
    by_cases k2 : k = 2
    · subst k2
      rw [if_neg (fun e => e rfl)]
      by_cases hl : 2 < r - q
      · rw [if_neg (nI_ge hl (by omega)), if_pos (bad_iff.mpr (Or.inr ⟨rfl, hl⟩))]
      · rw [if_pos (nI_le (by omega) (by omega)), if_neg (fun e => by
          rcases bad_iff.mp e with h | h
          · exact k4 h
          · exact hl h.2)]
    · rw [if_pos (fun e => k2 ((nI_eq (by omega) (by omega)).mp e)), if_neg (fun e => by
        rcases bad_iff.mp e with h | h
        · exact k4 h
        · exact k2 h.1)]
/-- what readToken leaves -/
def CT (s s2 : St) (t : Nat × Nat × Nat) : Prop := F3 s s2 ∧ s2.1 33 3 = nI t.1 ∧ s2.1 33 4 = nI t.2.2 ∧ s2.1 33 5 = nI t.2.1 ∧ s2.1 33 2 = (if bad t = true then nI 1 else s.1 33 2)
theorem CT.of {s s3 : St} {q k r : Nat} (hF : F3 s s3) (h2 : s3.1 33 2 = s.1 33 2) (h3 : s3.1 33 3 = nI q) (h4 : s3.1 33 4 = nI r) (h5 : s3.1 33 5 = nI k) (hq : q ≤ r) (hr : r ≤ 160) (hk : k ≤ 4) : ∃ s2, f_X5_readToken_J165 s3 = some (if bad (q, k, r) = true then nI 0 else nI 1, s2) ∧ CT s s2 (q, k, r) := by
  rw [c_J165 h3 h4 h5 hq hr hk]
  by_cases c : bad (q, k, r) = true
  · rw [if_pos c, if_pos c]
    refine ⟨_, rfl, hF.tr (F3.wi (by decide) (by decide)), ?_, ?_, ?_, ?_⟩
    · rw [wI_ne (by decide)]; exact h3
    · rw [wI_ne (by decide)]; exact h4
    · rw [wI_ne (by decide)]; exact h5
    · rw [wI_at, if_pos c]
  · rw [if_neg c, if_neg c]
    exact ⟨_, rfl, hF, h3, h4, h5, by rw [if_neg c]; exact h2⟩
theorem c_run {s s0 : St} {b : Nat → Nat} {len q k r : Nat} (hB : CB s b len) (hF : F3 s0 s) (h2 : s.1 33 2 = s0.1 33 2) (h3 : s.1 33 3 = nI q) (h4 : s.1 33 4 = nI (q + 1)) (h5 : s.1 33 5 = nI k) (hk : k ≤ 2) (hqr : q < r) (hr : r ≤ len) (hrun : ∀ j, q ≤ j → j < r → tkb (b j) = k) (hend : r < len → tkb (b r) ≠ k) : ∃ s2, lp (fun x : St => f_X5_readToken_L118 (nI 1) x) Fu s = some (if bad (q, k, r) = true then nI 0 else nI 1, s2) ∧ CT s0 s2 (q, k, r) := by
  have hlen := hB.1
  obtain ⟨t, k1, k2⟩ := lp_inv (body := fun x : St => f_X5_readToken_L118 (nI 1) x) (fun i x => x.1 33 4 = nI (q + 1 + i) ∧ F3 s x ∧ x.1 33 2 = s.1 33 2 ∧ x.1 33 3 = nI q ∧ x.1 33 5 = nI k) (fun t => t.1 = (if bad (q, k, r) = true then nI 0 else nI 1) ∧ CT s0 t.2 (q, k, r)) (r - (q + 1)) (fun i x hi hx => by
    obtain ⟨x1, x2, x3, x4, x5⟩ := hx
    have hB2 := hB.f3 x2
    obtain ⟨y1, y2⟩ := hB2.2.2 (q + 1 + i) (by omega)
    have hr1 := hrun (q + 1 + i) (by omega) (by omega)
    unfold f_X5_readToken_L118
    rw [if1', x1, hB2.2.1, if_neg (nI_ge (by omega) (by omega)), if_pos (ib34 (by omega)), nI_clamp (by omega), y2, c_tokenOf y1, cl_s, x5, hr1, if_neg (fun e => e rfl), bd_s, x1, nI_add]
    refine ⟨_, rfl, wI_at, x2.tr (F3.wi (by decide) (by decide)), ?_, ?_, ?_⟩
    · rw [wI_ne (by decide)]; exact x3
    · rw [wI_ne (by decide)]; exact x4
    · rw [wI_ne (by decide)]; exact x5) (fun x hx => by
    obtain ⟨x1, x2, x3, x4, x5⟩ := hx
    rw [show q + 1 + (r - (q + 1)) = r by omega] at x1
    have hB2 := hB.f3 x2
    obtain ⟨s2, z1, z2⟩ := CT.of (hF.tr x2) (x3.trans h2) x4 x1 x5 (by omega) (by omega) (by omega)
    unfold f_X5_readToken_L118
    rw [if1', x1, hB2.2.1]
    by_cases c : r < len
    · obtain ⟨y1, y2⟩ := hB2.2.2 r c
      have y3 := tkb_rng (b r)
      rw [if_neg (nI_ge c (by omega)), if_pos (ib34 (by omega)), nI_clamp (by omega), y2, c_tokenOf y1, cl_s, x5, if_pos (fun e => hend c ((nI_eq (by omega) (by omega)).mp e)), z1, ox_s]
      exact ⟨_, rfl, rfl, z2⟩
    · rw [if_pos (nI_le (by omega) (by omega)), z1, ox_s]
      exact ⟨_, rfl, rfl, z2⟩) (q := s) ⟨by rw [h4, Nat.add_zero], F3.rf, rfl, h3, h5⟩ (Fu_lt (by omega))
  obtain ⟨v, s2⟩ := t
  obtain ⟨e, k3⟩ := k2
  dsimp only at e
  subst e
  exact ⟨s2, k1, k3⟩
theorem c_J38 {s s0 : St} {b : Nat → Nat} {len p : Nat} {t : Nat × Nat × Nat} (hB : CB s b len) (hT : Tk b len p t) (hF : F3 s0 s) (h2 : s.1 33 2 = s0.1 33 2) (h4 : s.1 33 4 = nI t.1) : ∃ s2, f_X5_readToken_J38 s = some (if bad t = true then nI 0 else nI 1, s2) ∧ CT s0 s2 t := by
  obtain ⟨q, k, r⟩ := t
  obtain ⟨t1, t2, t3, t4, t5⟩ := hT
  dsimp only at t1 t2 t3 t4 t5 h4
  have hlen := hB.1
  unfold f_X5_readToken_J38
  rw [bd_s, wI_ne (show (1 : Nat) ≠ 3 by decide), wI_ne (show (4 : Nat) ≠ 3 by decide), hB.2.1, h4]
  rcases t5 with ⟨z1, z2, z3⟩ | ⟨a1, a2, a3, a4, a5, a6⟩
  · rw [if_pos (nI_le (by omega) (by omega))]
    unfold f_X5_readToken_J74
    rw [bd_s, wI_at, if0]
    have hb : ¬ bad (q, k, r) = true := fun e => by
      rcases bad_iff.mp e with h | h
      · dsimp only at h; omega
      · dsimp only at h; omega
    rw [if_neg hb]
    refine ⟨_, rfl, hF.tr ((F3.wi (by decide) (by decide)).tr (F3.wi (by decide) (by decide))), ?_, ?_, ?_, ?_⟩
    · rw [wI_ne (by decide), wI_at]
    · rw [wI_ne (by decide), wI_ne (by decide), h4]; dsimp only; rw [z1, z3]
    · rw [wI_at]; dsimp only; rw [z2]
    · rw [if_neg hb, wI_ne (by decide), wI_ne (by decide)]; exact h2
  · obtain ⟨y1, y2⟩ := hB.2.2 q a1
    have y3 := tkb_rng (b q)
    rw [if_neg (nI_ge a1 (by omega)), if_pos (ib34 (by omega)), nI_clamp (by omega), wI_1o (by decide), y2, c_tokenOf y1, cl_s, ← a2]
    unfold f_X5_readToken_J74
    rw [bd_s, wI_at, if_pos (nI_ne0 (by omega) (by omega)), bd_s, wI_ne (show (4 : Nat) ≠ 5 by decide), wI_ne (show (4 : Nat) ≠ 3 by decide), h4, nI_add, wI_ne (show (5 : Nat) ≠ 4 by decide), wI_at]
    generalize hs5 : wI (wI (wI s 33 3 (nI q)) 33 5 (nI k)) 33 4 (nI (q + 1)) = s5
    have f5 : F3 s s5 := by rw [← hs5]; exact (F3.wi (by decide) (by decide)).tr ((F3.wi (by decide) (by decide)).tr (F3.wi (by decide) (by decide)))
    have g2 : s5.1 33 2 = s.1 33 2 := by rw [← hs5, wI_ne (by decide), wI_ne (by decide), wI_ne (by decide)]
    have g3 : s5.1 33 3 = nI q := by rw [← hs5, wI_ne (by decide), wI_ne (by decide), wI_at]
    have g4 : s5.1 33 4 = nI (q + 1) := by rw [← hs5, wI_at]
    have g5 : s5.1 33 5 = nI k := by rw [← hs5, wI_ne (by decide), wI_at]
    by_cases k12 : k ≤ 2
    · obtain ⟨a7, a8⟩ := a6 k12
      obtain ⟨s2, z1, z2⟩ := c_run (hB.f3 f5) (hF.tr f5) (g2.trans h2) g3 g4 g5 k12 a3 a4 a7 a8
      rcases (show k = 1 ∨ k = 2 by omega) with rfl | rfl
      · rw [if_pos rfl]
        exact ⟨s2, z1, z2⟩
      · rw [if_neg (by decide), if_neg (fun e => e rfl)]
        exact ⟨s2, z1, z2⟩
    · have e := a5 (by omega)
      subst e
      obtain ⟨s2, z1, z2⟩ := CT.of (hF.tr f5) (g2.trans h2) g3 g4 g5 (by omega) (by omega) (by omega)
      rw [if_neg (fun e => by rw [nI_eq (by omega) (by omega)] at e; omega), if_pos (fun e => by rw [nI_eq (by omega) (by omega)] at e; omega)]
      refine ⟨s2, ?_, z2⟩
      refine lp_out (F := 999) ?_
      unfold f_X5_readToken_L118
      rw [if0', z1, ox_s]
theorem c_token {s : St} {b : Nat → Nat} {len p : Nat} (hB : CB s b len) (hp : p ≤ len) (h4 : s.1 33 4 = nI p) : ∃ s2, f_X5_readToken s = some (if bad (tok b len p) = true then nI 0 else nI 1, s2) ∧ CT s s2 (tok b len p) := by
  have hT := tok_ok (b := b) hp
  have hlen := hB.1
  generalize tok b len p = t at hT
  obtain ⟨t1, t2, t3, t4, t5⟩ := id hT
  unfold f_X5_readToken
  obtain ⟨u, k1, k2⟩ := lp_inv (body := fun x : St => f_X5_readToken_L0 x) (fun i x => x.1 33 4 = nI (p + i) ∧ F3 s x ∧ x.1 33 2 = s.1 33 2) (fun u => u.1 = (if bad t = true then nI 0 else nI 1) ∧ CT s u.2 t) (t.1 - p) (fun i x hi hx => by
    obtain ⟨x1, x2, x3⟩ := hx
    have hB2 := hB.f3 x2
    obtain ⟨y1, y2⟩ := hB2.2.2 (p + i) (by omega)
    unfold f_X5_readToken_L0
    rw [x1, hB2.2.1, if_neg (nI_ge (by omega) (by omega)), if_pos (ib34 (by omega)), nI_clamp (by omega), y2, t3 (p + i) (by omega) (by omega), if_neg (fun e => e rfl), bd_s, nI_add]
    refine ⟨_, rfl, wI_at, x2.tr (F3.wi (by decide) (by decide)), ?_⟩
    rw [wI_ne (by decide)]; exact x3) (fun x hx => by
    obtain ⟨x1, x2, x3⟩ := hx
    rw [show p + (t.1 - p) = t.1 by omega] at x1
    have hB2 := hB.f3 x2
    obtain ⟨s2, z1, z2⟩ := c_J38 hB2 hT x2 x3 x1
    unfold f_X5_readToken_L0
    rw [x1, hB2.2.1, z1]
    by_cases c : t.1 < len
    · obtain ⟨y1, y2⟩ := hB2.2.2 t.1 c
      rw [if_neg (nI_ge c (by omega)), if_pos (ib34 (by omega)), nI_clamp (by omega), y2, if_pos (fun e => t4 c ((nI_eq (by omega) (by omega)).mp e)), ox_s]
      exact ⟨_, rfl, rfl, z2⟩
    · rw [if_pos (nI_le (by omega) (by omega)), ox_s]
      exact ⟨_, rfl, rfl, z2⟩) (q := s) ⟨by rw [h4, Nat.add_zero], F3.rf, rfl⟩ (Fu_lt (by omega))
  obtain ⟨v, s2⟩ := u
  obtain ⟨e, k3⟩ := k2
  dsimp only at e
  subst e
  exact ⟨s2, k1, k3⟩

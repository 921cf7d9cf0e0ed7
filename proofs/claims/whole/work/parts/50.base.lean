/-! LEVEL B: the lifted functions, in numbers -/
theorem inb_nI {n N : Nat} (h : n < 2 ^ 31) : inb (nI n) N = decide (n < N) := by
  unfold inb
  rw [nI_clamp h]
  have h1 : ¬ nI n < 0 := nI_pos h
  by_cases h2 : n < N
  · have h3 : ¬ N ≤ n := by omega
    simp [h1, h2, h3]
  · have h3 : N ≤ n := by omega
    simp [h2, h3]
theorem inb_t {n N : Nat} (h : n < N) (h2 : N < 2 ^ 31) : inb (nI n) N = true := by rw [inb_nI (by omega)]; simp [h]
theorem nI_e0 {n : Nat} (h : n < 2 ^ 31) : nI n = 0 ↔ n = 0 := by rw [← nI_0, nI_eq h (by omega)]
theorem nI_le0 {n : Nat} (h : n < 2 ^ 31) : nI n ≤ 0 ↔ n = 0 := by rw [← nI_0, nI_leI h (by omega)]; omega
theorem nI_0lt {n : Nat} (h : n < 2 ^ 31) : 0 < nI n ↔ 0 < n := by rw [← nI_0, nI_ltI (by omega) h]
theorem nI_lt0 {n : Nat} (h : n < 2 ^ 31) : nI n < 0 ↔ False := ⟨fun q => nI_pos h q, False.elim⟩
theorem nI_0le {n : Nat} (h : n < 2 ^ 31) : 0 ≤ nI n ↔ True := ⟨fun _ => trivial, fun _ => nI_pos' h⟩
theorem nI_min {a b : Nat} (ha : a < 2 ^ 31) (hb : b < 2 ^ 31) : (if nI b < nI a then nI b else nI a) = nI (min a b) := by
  by_cases h : b < a
  · rw [if_pos ((nI_ltI hb ha).mpr h), Nat.min_eq_right (by omega)]
  · rw [if_neg (fun q => h ((nI_ltI hb ha).mp q)), Nat.min_eq_left (by omega)]
theorem nI_max {a b : Nat} (ha : a < 2 ^ 31) (hb : b < 2 ^ 31) : (if nI a < nI b then nI b else nI a) = nI (max a b) := by
  by_cases h : a < b
  · rw [if_pos ((nI_ltI ha hb).mpr h), Nat.max_eq_right (by omega)]
  · rw [if_neg (fun q => h ((nI_ltI ha hb).mp q)), Nat.max_eq_left (by omega)]
theorem cl_s {α β : Type} {v : α} {s : St} {f : α → St → Option β} : cl (some (v, s)) f = f v s := rfl
theorem bd_s {α β : Type} {a : α} {f : α → Option β} : bd a f = f a := rfl
theorem ox_s {α β : Type} {t : β} : (ox (some t) : Option (α ⊕ β)) = some (Sum.inr t) := rfl
theorem lp_run {S T : Type} {body : S → Option (S ⊕ T)} (st : Nat → S) (n : Nat) (t : T) (h : ∀ i, i < n → body (st i) = some (Sum.inl (st (i + 1)))) (hx : body (st n) = some (Sum.inr t)) {q : S} (hq : q = st 0) {F : Nat} (hF : n < F) : lp body F q = some t := by
  subst hq
  have key : ∀ k i, i + k = n → ∀ F, k < F → lp body F (st i) = some t := by
    intro k
    induction k with
    | zero =>
      intro i hi F hF
      obtain ⟨F, rfl⟩ : ∃ f, F = f + 1 := ⟨F - 1, by omega⟩
      have : i = n := by omega
      subst this
      unfold lp
      rw [hx]
    | succ k ih =>
      intro i hi F hF
      obtain ⟨F, rfl⟩ : ∃ f, F = f + 1 := ⟨F - 1, by omega⟩
      unfold lp
      rw [h i (by omega)]
      exact ih (i + 1) (by omega) F (by omega)
  exact key n 0 (by omega) F hF
/-- a loop with a state that is only known to exist -/
theorem lp_inv {S T : Type} {body : S → Option (S ⊕ T)} (I : Nat → S → Prop) (P : T → Prop) (n : Nat) (h : ∀ i q, i < n → I i q → ∃ q2, body q = some (Sum.inl q2) ∧ I (i + 1) q2) (hx : ∀ q, I n q → ∃ t, body q = some (Sum.inr t) ∧ P t) {q : S} (hq : I 0 q) {F : Nat} (hF : n < F) : ∃ t, lp body F q = some t ∧ P t := by
  have key : ∀ k i q, i + k = n → I i q → ∀ F, k < F → ∃ t, lp body F q = some t ∧ P t := by
    intro k
    induction k with
    | zero =>
      intro i q hi hq F hF
      obtain ⟨F, rfl⟩ : ∃ f, F = f + 1 := ⟨F - 1, by omega⟩
      have : i = n := by omega
      subst this
      obtain ⟨t, h1, h2⟩ := hx q hq
      unfold lp
      rw [h1]
      exact ⟨t, rfl, h2⟩
    | succ k ih =>
      intro i q hi hq F hF
      obtain ⟨F, rfl⟩ : ∃ f, F = f + 1 := ⟨F - 1, by omega⟩
      obtain ⟨q2, h1, h2⟩ := h i q (by omega) hq
      unfold lp
      rw [h1]
      exact ih (i + 1) q2 (by omega) h2 F (by omega)
  exact key n 0 q (by omega) hq F hF
/-- the same, with an early way out -/
theorem lp_brk {S T : Type} {body : S → Option (S ⊕ T)} (I : Nat → S → Prop) (P : T → Prop) (n : Nat) (h : ∀ i q, i < n → I i q → (∃ q2, body q = some (Sum.inl q2) ∧ I (i + 1) q2) ∨ ∃ t, body q = some (Sum.inr t) ∧ P t) (hx : ∀ q, I n q → ∃ t, body q = some (Sum.inr t) ∧ P t) {q : S} (hq : I 0 q) {F : Nat} (hF : n < F) : ∃ t, lp body F q = some t ∧ P t := by
  have key : ∀ k i q, i + k = n → I i q → ∀ F, k < F → ∃ t, lp body F q = some t ∧ P t := by
    intro k
    induction k with
    | zero =>
      intro i q hi hq F hF
      obtain ⟨F, rfl⟩ : ∃ f, F = f + 1 := ⟨F - 1, by omega⟩
      have : i = n := by omega
      subst this
      obtain ⟨t, h1, h2⟩ := hx q hq
      unfold lp
      rw [h1]
      exact ⟨t, rfl, h2⟩
    | succ k ih =>
      intro i q hi hq F hF
      obtain ⟨F, rfl⟩ : ∃ f, F = f + 1 := ⟨F - 1, by omega⟩
      rcases h i q (by omega) hq with ⟨q2, h1, h2⟩ | ⟨t, h1, h2⟩
      · unfold lp
        rw [h1]
        exact ih (i + 1) q2 (by omega) h2 F (by omega)
      · unfold lp
        rw [h1]
        exact ⟨t, rfl, h2⟩
  exact key n 0 q (by omega) hq F hF
theorem Fu_lt {n : Nat} (h : n < 1000) : n < Fu := h
def sm (f : Nat → Nat) : Nat → Nat
  | 0 => 0
  | n + 1 => sm f n + f n
theorem sm_cong {f g : Nat → Nat} : ∀ {n : Nat}, (∀ k, k < n → f k = g k) → sm f n = sm g n
  | 0, _ => rfl
  | n + 1, h => by
    unfold sm
    rw [sm_cong (fun k hk => h k (by omega)), h n (by omega)]
theorem sm_zero {f : Nat → Nat} : ∀ {n : Nat}, (∀ k, k < n → f k = 0) → sm f n = 0
  | 0, _ => rfl
  | n + 1, h => by
    unfold sm
    rw [sm_zero (fun k hk => h k (by omega)), h n (by omega)]
theorem sm_all0 {f : Nat → Nat} : ∀ {n : Nat}, sm f n = 0 → ∀ k, k < n → f k = 0
  | 0, _, k, hk => absurd hk (by omega)
  | n + 1, h, k, hk => by
    unfold sm at h
    by_cases hkn : k = n
    · subst hkn; omega
    · exact sm_all0 (n := n) (by omega) k (by omega)
theorem sm_one {f : Nat → Nat} : ∀ {n k : Nat}, k < n → f k ≤ sm f n
  | 0, k, hk => absurd hk (by omega)
  | n + 1, k, hk => by
    unfold sm
    by_cases hkn : k = n
    · subst hkn; omega
    · have := sm_one (f := f) (n := n) (k := k) (by omega)
      omega
theorem sm_mono {f : Nat → Nat} : ∀ {n k : Nat}, k ≤ n → sm f k ≤ sm f n
  | 0, k, hk => by rw [show k = 0 by omega]; exact Nat.le_refl _
  | n + 1, k, hk => by
    by_cases hkn : k = n + 1
    · subst hkn; exact Nat.le_refl _
    · have := sm_mono (f := f) (n := n) (k := k) (by omega)
      show sm f k ≤ sm f n + f n
      omega
def up (g : Nat → Nat) (k v : Nat) : Nat → Nat := fun j => if j = k then v else g j
theorem up_k {g : Nat → Nat} {k v : Nat} : up g k v k = v := if_pos rfl
theorem up_o {g : Nat → Nat} {k v j : Nat} (h : j ≠ k) : up g k v j = g j := if_neg h
theorem up_same {g : Nat → Nat} {k : Nat} : up g k (g k) = g := by
  funext j
  unfold up
  by_cases h : j = k
  · rw [if_pos h, h]
  · rw [if_neg h]
theorem sm_up_out {g : Nat → Nat} {b k v : Nat} : ∀ {n : Nat}, (k < b ∨ b + n ≤ k) → sm (fun c => up g k v (b + c)) n = sm (fun c => g (b + c)) n := by
  intro n h
  exact sm_cong (fun c hc => up_o (by omega))
theorem sm_up_in {g : Nat → Nat} {b k v : Nat} : ∀ {n : Nat}, b ≤ k → k < b + n → sm (fun c => up g k v (b + c)) n + g k = sm (fun c => g (b + c)) n + v
  | 0, h1, h2 => absurd h1 (by omega)
  | n + 1, h1, h2 => by
    show sm _ n + up g k v (b + n) + g k = sm _ n + g (b + n) + v
    by_cases h : k = b + n
    · subst h
      rw [up_k, sm_up_out (Or.inr (by omega))]
      omega
    · rw [up_o (by omega)]
      have := sm_up_in (g := g) (b := b) (k := k) (v := v) (n := n) h1 (by omega)
      omega
theorem upd_k {f : Nat → Int32} {k : Nat} {x : Int32} : upd f k x k = x := if_pos rfl
theorem upd_o {f : Nat → Int32} {k j : Nat} {x : Int32} (h : j ≠ k) : upd f k x j = f j := if_neg h
theorem wI_at {s : St} {k i : Nat} {x : Int32} : (wI s k i x).1 k i = x := by rw [wI_k, upd_k]
theorem wI_ne {s : St} {k i j : Nat} {x : Int32} (h : j ≠ i) : (wI s k i x).1 k j = s.1 k j := by rw [wI_k, upd_o h]
theorem wR_1o {s : St} {k a : Nat} {f : Nat → Int32} (h : a ≠ k) : (wR s k f).1 a = s.1 a := if_neg h
theorem wR_2a {s : St} {k : Nat} {f : Nat → Int32} : (wR s k f).2 = s.2 := rfl
/-- the states agree outside the cells a to a + m - 1 -/
def Sm (s s2 : St) (a m : Nat) : Prop := (∀ k, (k < a ∨ a + m ≤ k) → s2.1 k = s.1 k) ∧ s2.2 = s.2
theorem Sm.rf {s : St} {a m : Nat} : Sm s s a m := ⟨fun _ _ => rfl, rfl⟩
theorem Sm.tr {s s2 s3 : St} {a m : Nat} (h : Sm s s2 a m) (h2 : Sm s2 s3 a m) : Sm s s3 a m := ⟨fun k hk => (h2.1 k hk).trans (h.1 k hk), h2.2.trans h.2⟩
theorem Sm.wi {s : St} {a m k i : Nat} {x : Int32} (h : a ≤ k) (h2 : k < a + m) : Sm s (wI s k i x) a m := ⟨fun j hj => wI_1o (by omega), rfl⟩
theorem Sm.wr {s : St} {a m k : Nat} {f : Nat → Int32} (h : a ≤ k) (h2 : k < a + m) : Sm s (wR s k f) a m := ⟨fun j hj => wR_1o (by omega), rfl⟩
theorem Sm.wide {s s2 : St} {a m b n : Nat} (h : Sm s s2 a m) (h1 : b ≤ a) (h2 : a + m ≤ b + n) : Sm s s2 b n := ⟨fun k hk => h.1 k (by omega), h.2⟩

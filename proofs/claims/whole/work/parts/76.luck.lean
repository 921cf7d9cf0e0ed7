/-! luck and mean -/
theorem lg0 {a : Nat} (ha : a < 2 ^ 63) : (lg_cmp (lN a) (lN 0)) = 0 ↔ a = 0 := by
  rw [lg_cmp_eq, pk_lEQ ha (by decide)]
theorem five_odd : ∀ n, n ≤ 8 → 5 ^ n % 2 = 1 := by decide
theorem two_five : ∀ n, n ≤ 8 → 2 ^ n % 5 ≠ 0 := by decide
theorem b_red5 {s : St} {n c a x : Nat} (hn : n ≤ 8) (hx : x ≤ 8) (hc : 0 < c) (ha : c * a < 2 ^ 63) (hb : c * (2 ^ x * 5 ^ n) < 2 ^ 63) (h5 : s.2 36 5 = lN a) (h6 : s.2 36 6 = lN (2 ^ x * 5 ^ n)) (h2 : ¬ (a % 2 = 0 ∧ (2 ^ x * 5 ^ n) % 2 = 0)) : ∃ s2, lp (fun q : Int32 × St => f_X1_reduce_L66 q.1 q.2) Fu (nI 0, s) = some ((), s2) ∧ s2.1 = s.1 ∧ s2.2 36 5 = lN (c * a / Nat.gcd (c * a) (c * (2 ^ x * 5 ^ n))) ∧ s2.2 36 6 = lN (c * (2 ^ x * 5 ^ n) / Nat.gcd (c * a) (c * (2 ^ x * 5 ^ n))) := by
  have fin : ∀ (d a2 y : Nat), 0 < d → c * a = d * a2 → c * (2 ^ x * 5 ^ n) = d * (2 ^ x * 5 ^ y) → ¬ (a2 % 2 = 0 ∧ (2 ^ x * 5 ^ y) % 2 = 0) → ¬ (a2 % 5 = 0 ∧ (2 ^ x * 5 ^ y) % 5 = 0) → c * a / Nat.gcd (c * a) (c * (2 ^ x * 5 ^ n)) = a2 ∧ c * (2 ^ x * 5 ^ n) / Nat.gcd (c * a) (c * (2 ^ x * 5 ^ n)) = 2 ^ x * 5 ^ y := by
    intro d a2 y hd e1 e2 n2 n5
    have hg : Nat.gcd (c * a) (c * (2 ^ x * 5 ^ n)) = d := by
      rw [e1, e2, Nat.gcd_mul_left, cop rfl n2 n5, Nat.mul_one]
    rw [hg, e1, e2, Nat.mul_div_cancel_left _ hd, Nat.mul_div_cancel_left _ hd]
    exact ⟨rfl, rfl⟩
  obtain ⟨t, k1, k2⟩ := lp_brk (body := fun q : Int32 × St => f_X1_reduce_L66 q.1 q.2) (fun j q => q.1 = nI j ∧ ∃ d a2 y, 0 < d ∧ c * a = d * a2 ∧ c * (2 ^ x * 5 ^ n) = d * (2 ^ x * 5 ^ y) ∧ y + j = n ∧ ¬ (a2 % 2 = 0 ∧ (2 ^ x * 5 ^ y) % 2 = 0) ∧ q.2.1 = s.1 ∧ q.2.2 36 5 = lN a2 ∧ q.2.2 36 6 = lN (2 ^ x * 5 ^ y)) (fun t => t.2.1 = s.1 ∧ t.2.2 36 5 = lN (c * a / Nat.gcd (c * a) (c * (2 ^ x * 5 ^ n))) ∧ t.2.2 36 6 = lN (c * (2 ^ x * 5 ^ n) / Nat.gcd (c * a) (c * (2 ^ x * 5 ^ n)))) 8 (fun j q hj hq => by
    obtain ⟨z, s3⟩ := q
    obtain ⟨q1, d, a2, y, d0, e1, e2, e3, e4, e5, e6, e7⟩ := hq
    dsimp only at q1 e5 e6 e7 ⊢
    subst q1
    have ba : a2 < 2 ^ 63 := Nat.lt_of_le_of_lt (Nat.le_mul_of_pos_left a2 d0) (by rw [← e1]; exact ha)
    have bb : 2 ^ x * 5 ^ y < 2 ^ 63 := Nat.lt_of_le_of_lt (Nat.le_mul_of_pos_left _ d0) (by rw [← e2]; exact hb)
    unfold f_X1_reduce_L66
    rw [if_neg (nI_ge hj (by decide)), e6, e7, pk_lRem ba (by decide) (by decide), pk_lRem bb (by decide) (by decide)]
    by_cases c1 : a2 % 5 = 0
    · rw [if_neg (fun q => q ((lg0 (by omega)).mpr c1))]
      by_cases c2 : (2 ^ x * 5 ^ y) % 5 = 0
      · left
        rw [if_neg (fun q => q ((lg0 (by omega)).mpr c2)), bd_s, bd_s, wJ_ne (by decide), e7, pk_lDiv ba (by decide) (by decide), pk_lDiv bb (by decide) (by decide), nI_add]
        have hy : 0 < y := by
          by_cases y0 : y = 0
          · subst y0
            rw [Nat.pow_zero, Nat.mul_one] at c2
            exact absurd c2 (two_five x hx)
          · omega
        obtain ⟨y, rfl⟩ : ∃ z, y = z + 1 := ⟨y - 1, by omega⟩
        have eb : 2 ^ x * 5 ^ (y + 1) = 5 * (2 ^ x * 5 ^ y) := by rw [Nat.pow_succ, ← Nat.mul_assoc, Nat.mul_comm _ 5]
        have ea : a2 = 5 * (a2 / 5) := by omega
        refine ⟨_, rfl, rfl, d * 5, a2 / 5, y, by omega, ?_, ?_, by omega, ?_, e5, ?_, ?_⟩
        · rw [e1, Nat.mul_assoc, ← ea]
        · rw [e2, eb, Nat.mul_assoc]
        · intro q
          refine e4 ⟨by omega, ?_⟩
          rw [eb]
          omega
        · dsimp only
          rw [wJ_ne (by decide), wJ_at]
        · dsimp only
          rw [wJ_at, eb, Nat.mul_div_cancel_left _ (by decide)]
      · right
        rw [if_pos (fun q => c2 ((lg0 (by omega)).mp q))]
        obtain ⟨f1, f2⟩ := fin d a2 y d0 e1 e2 e4 (fun q => c2 q.2)
        exact ⟨_, rfl, e5, by rw [f1]; exact e6, by rw [f2]; exact e7⟩
    · right
      rw [if_pos (fun q => c1 ((lg0 (by omega)).mp q))]
      obtain ⟨f1, f2⟩ := fin d a2 y d0 e1 e2 e4 (fun q => c1 q.1)
      exact ⟨_, rfl, e5, by rw [f1]; exact e6, by rw [f2]; exact e7⟩) (fun q hq => by
    obtain ⟨z, s3⟩ := q
    obtain ⟨q1, d, a2, y, d0, e1, e2, e3, e4, e5, e6, e7⟩ := hq
    dsimp only at q1 e5 e6 e7 ⊢
    subst q1
    have y0 : y = 0 := by omega
    subst y0
    unfold f_X1_reduce_L66
    rw [if_pos (by decide)]
    obtain ⟨f1, f2⟩ := fin d a2 0 d0 e1 e2 e4 (fun q => by
      have q2 := q.2
      rw [Nat.pow_zero, Nat.mul_one] at q2
      exact two_five x hx q2)
    exact ⟨_, rfl, e5, by rw [f1]; exact e6, by rw [f2]; exact e7⟩) (q := (nI 0, s)) ⟨rfl, c, a, n, hc, rfl, rfl, rfl, h2, rfl, h5, h6⟩ (Fu_lt (by omega))
  exact ⟨t.2, k1, k2⟩
theorem b_reduce {s : St} {n a : Nat} (hn : n ≤ 8) (ha : a < 2 ^ 63) (h5 : s.2 36 5 = lN a) (h6 : s.2 36 6 = lN (10 ^ n)) : ∃ s2, f_X1_reduce s = some ((), s2) ∧ s2.1 = s.1 ∧ s2.2 36 5 = lN (a / Nat.gcd a (10 ^ n)) ∧ s2.2 36 6 = lN (10 ^ n / Nat.gcd a (10 ^ n)) := by
  have e10 : 10 ^ n = 2 ^ n * 5 ^ n := by rw [← Nat.mul_pow]
  have hb : 10 ^ n < 2 ^ 63 := Nat.lt_of_le_of_lt (Nat.pow_le_pow_right (by decide) hn) (by decide)
  unfold f_X1_reduce
  have go : ∀ (s3 : St) (c a2 x : Nat), x ≤ n → 0 < c → a = c * a2 → 10 ^ n = c * (2 ^ x * 5 ^ n) → s3.1 = s.1 → s3.2 36 5 = lN a2 → s3.2 36 6 = lN (2 ^ x * 5 ^ n) → ¬ (a2 % 2 = 0 ∧ (2 ^ x * 5 ^ n) % 2 = 0) → ∃ t, ox (α := Int32 × St) (lp (fun q : Int32 × St => f_X1_reduce_L66 q.1 q.2) Fu (nI 0, s3)) = some (Sum.inr t) ∧ t.2.1 = s.1 ∧ t.2.2 36 5 = lN (a / Nat.gcd a (10 ^ n)) ∧ t.2.2 36 6 = lN (10 ^ n / Nat.gcd a (10 ^ n)) := by
    intro s3 c a2 x hx hc e1 e2 e3 e4 e5 e6
    obtain ⟨s4, k1, k2, k3, k4⟩ := b_red5 hn (show x ≤ 8 by omega) hc (by rw [← e1]; exact ha) (by rw [← e2]; exact hb) e4 e5 e6
    rw [← e1, ← e2] at k3 k4
    rw [k1, ox_s]
    exact ⟨_, rfl, k2.trans e3, k3, k4⟩
  obtain ⟨t, k1, k2⟩ := lp_brk (body := fun q : Int32 × St => f_X1_reduce_L2 q.1 q.2) (fun j q => q.1 = nI j ∧ ∃ c a2 x, 0 < c ∧ a = c * a2 ∧ 10 ^ n = c * (2 ^ x * 5 ^ n) ∧ x + j = n ∧ q.2.1 = s.1 ∧ q.2.2 36 5 = lN a2 ∧ q.2.2 36 6 = lN (2 ^ x * 5 ^ n)) (fun t => t.2.1 = s.1 ∧ t.2.2 36 5 = lN (a / Nat.gcd a (10 ^ n)) ∧ t.2.2 36 6 = lN (10 ^ n / Nat.gcd a (10 ^ n))) 8 (fun j q hj hq => by
    obtain ⟨z, s3⟩ := q
    obtain ⟨q1, c, a2, x, d0, e1, e2, e3, e5, e6, e7⟩ := hq
    dsimp only at q1 e5 e6 e7 ⊢
    subst q1
    have ba : a2 < 2 ^ 63 := Nat.lt_of_le_of_lt (Nat.le_mul_of_pos_left a2 d0) (by rw [← e1]; exact ha)
    have bb : 2 ^ x * 5 ^ n < 2 ^ 63 := Nat.lt_of_le_of_lt (Nat.le_mul_of_pos_left _ d0) (by rw [← e2]; exact hb)
    unfold f_X1_reduce_L2
    rw [if_neg (nI_ge hj (by decide)), e6, e7, pk_lRem ba (by decide) (by decide), pk_lRem bb (by decide) (by decide)]
    by_cases c1 : a2 % 2 = 0
    · rw [if_neg (fun q => q ((lg0 (by omega)).mpr c1))]
      by_cases c2 : (2 ^ x * 5 ^ n) % 2 = 0
      · left
        rw [if_neg (fun q => q ((lg0 (by omega)).mpr c2)), bd_s, bd_s, wJ_ne (by decide), e7, pk_lDiv ba (by decide) (by decide), pk_lDiv bb (by decide) (by decide), nI_add]
        have hy : 0 < x := by
          by_cases y0 : x = 0
          · subst y0
            rw [Nat.pow_zero, Nat.one_mul, five_odd n hn] at c2
            omega
          · omega
        obtain ⟨x, rfl⟩ : ∃ z, x = z + 1 := ⟨x - 1, by omega⟩
        have eb : 2 ^ (x + 1) * 5 ^ n = 2 * (2 ^ x * 5 ^ n) := by rw [Nat.pow_succ, Nat.mul_comm (2 ^ x) 2, Nat.mul_assoc]
        have ea : a2 = 2 * (a2 / 2) := by omega
        refine ⟨_, rfl, rfl, c * 2, a2 / 2, x, by omega, ?_, ?_, by omega, e5, ?_, ?_⟩
        · rw [Nat.mul_assoc, ← ea]; exact e1
        · rw [Nat.mul_assoc, ← eb]; exact e2
        · dsimp only
          rw [wJ_ne (by decide), wJ_at]
        · dsimp only
          rw [wJ_at, eb, Nat.mul_div_cancel_left _ (by decide)]
      · right
        rw [if_pos (fun q => c2 ((lg0 (by omega)).mp q))]
        exact go s3 c a2 x (by omega) d0 e1 e2 e5 e6 e7 (fun q => c2 q.2)
    · right
      rw [if_pos (fun q => c1 ((lg0 (by omega)).mp q))]
      exact go s3 c a2 x (by omega) d0 e1 e2 e5 e6 e7 (fun q => c1 q.1)) (fun q hq => by
    obtain ⟨z, s3⟩ := q
    obtain ⟨q1, c, a2, x, d0, e1, e2, e3, e5, e6, e7⟩ := hq
    dsimp only at q1 e5 e6 e7 ⊢
    subst q1
    have y0 : x = 0 := by omega
    subst y0
    unfold f_X1_reduce_L2
    rw [if_pos (by decide)]
    exact go s3 c a2 0 (by omega) d0 e1 e2 e5 e6 e7 (fun q => by
      have q2 := q.2
      rw [Nat.pow_zero, Nat.one_mul, five_odd n hn] at q2
      omega)) (q := (nI 0, s)) ⟨rfl, 1, a, n, by decide, by rw [Nat.one_mul], by rw [Nat.one_mul]; exact e10, rfl, rfl, h5, by rw [← e10]; exact h6⟩ (Fu_lt (by omega))
  exact ⟨t.2, k1, k2⟩
theorem vl_63 {nl ns T v i : Nat} {m : Bool} {g : Nat → Nat} {n : Nat} (hv : v ≤ 10) (hi : i < ns) (hn : n ≤ 8) (hW : WF nl ns T g) (h42 : g 42 + n ≤ 2000) : vl nl ns v i m n g < 2 ^ 40 := by
  have h1 := vl_le (m := m) hv hi hW h42
  have h2 : (9 * n + 1) * 10 ^ n ≤ 73 * 10 ^ 8 := Nat.mul_le_mul (by omega) (Nat.pow_le_pow_right (by decide) hn)
  exact Nat.lt_of_le_of_lt (Nat.le_trans h1 h2) (by decide)
theorem c_weigh {n' nl ns : Nat} {s : St} {g : Nat → Nat} (hG : Gd n' s nl ns g) {v i n : Nat} (m : Bool) (hv : v ≤ 10) (hi : i < ns) (hn : n ≤ 8) : ∃ s2, f_X1_weigh 1 (nI v) (nI i) (nI n) (if m = true then nI 1 else nI 0) s = some ((), s2) ∧ Qf s s2 ∧ s2.2 36 5 = lN (vl nl ns v i m n g / Nat.gcd (vl nl ns v i m n g) (10 ^ n)) ∧ s2.2 36 6 = lN (10 ^ n / Nat.gcd (vl nl ns v i m n g) (10 ^ n)) := by
  have hnl := hG.2.1.1
  have hns := hG.2.1.2.1
  have h42 := hG.2.2.1
  have h63 := vl_63 (m := m) hv hi hn hG.2.1 (by omega)
  have hm01 : (if m = true then nI 1 else nI 0) = 0 ∨ (if m = true then nI 1 else nI 0) = (1 : Int32) := by
    cases m
    · exact Or.inl (by decide)
    · exact Or.inr (by decide)
  unfold f_X1_weigh
  rw [bd_s, bd_s, bd_s, if_pos hm01, bd_s, bd_s, bd_s]
  by_cases h0 : n = 0
  · subst h0
    obtain ⟨s2, k1, k2, k3, k4⟩ := b_reduce (s := wJ (wJ (wI (wI (wI (wI s 36 1 (nI v)) 36 2 (nI i)) 36 3 (nI 0 - nI 1)) 36 4 (if m = true then nI 1 else nI 0)) 36 5 (lN 0)) 36 6 (lN 1)) (n := 0) (a := 0) (by omega) (by decide) (by rw [wJ_ne (by decide), wJ_at]) (by rw [wJ_at, Nat.pow_zero])
    rw [if_pos (by decide), k1, cl_s]
    refine ⟨s2, rfl, fun k a b c d e f i => ?_, k3, k4⟩
    rw [k2, wJ_1, wJ_1, wI_1o (by omega), wI_1o (by omega), wI_1o (by omega), wI_1o (by omega)]
  · obtain ⟨r, rfl⟩ : ∃ r, n = r + 1 := ⟨n - 1, by omega⟩
    rw [if_neg (fun q => h0 ((nI_le0 (by omega)).mp q)), pk_sub (by omega)]
    generalize hs0 : wJ (wJ (wI (wI (wI (wI s 36 1 (nI v)) 36 2 (nI i)) 36 3 (nI (r + 1 - 1))) 36 4 (if m = true then nI 1 else nI 0)) 36 5 (lN 0)) 36 6 (lN 1) = s0
    have f0 : ∀ k, k ≠ 36 → s0.1 k = s.1 k := fun k hk => by rw [← hs0, wJ_1, wJ_1, wI_1o hk, wI_1o hk, wI_1o hk, wI_1o hk]
    have f1 : s0.1 36 1 = nI v := by rw [← hs0, wJ_1, wJ_1, wI_ne (by decide), wI_ne (by decide), wI_ne (by decide), wI_at]
    have f2 : s0.1 36 2 = nI i := by rw [← hs0, wJ_1, wJ_1, wI_ne (by decide), wI_ne (by decide), wI_at]
    have f3 : s0.1 36 3 = nI (r + 1 - 1) := by rw [← hs0, wJ_1, wJ_1, wI_ne (by decide), wI_at]
    have f4 : s0.1 36 4 = (if m = true then nI 1 else nI 0) := by rw [← hs0, wJ_1, wJ_1, wI_at]
    have hR0 : RR s0 1 nl ns g := by
      have h1 := hG.1
      unfold RR at h1 ⊢
      simp (disch := omega) only [f0]
      exact h1
    obtain ⟨s1, a1, a2, a3⟩ := b_copyOf (s := s0) (isRo 0 (by decide)) isR1 (by omega) hnl hns hR0
    have e36 : s1.1 36 = s0.1 36 := a3.1 36 (by omega)
    obtain ⟨s2, b1, b2⟩ := c_W (m := m) (nn := r + 1) hv hi hn r 0 9 s1 g (by omega) (by omega) a2 hG.2.1 (by omega) (by rw [e36]; exact f1) (by rw [e36]; exact f2) (by rw [e36]; exact f3) (by rw [e36]; exact f4)
    obtain ⟨s3, c1, c2, c3, c4⟩ := b_reduce (s := wJ (wJ s2 36 5 (lN (vl nl ns v i m (r + 1) g))) 36 6 (lN (10 ^ (r + 1)))) (n := r + 1) (a := vl nl ns v i m (r + 1) g) hn (by omega) (by rw [wJ_ne (by decide), wJ_at]) (by rw [wJ_at])
    refine ⟨s3, ?_, fun k a b c d e f i => ?_, c3, c4⟩
    · rw [if_pos (by decide), bd_s, nI_clamp (by decide), if_pos (by decide), a1, cl_s, b1, cl_s, bd_s, b_tenTo (by omega), cl_s, bd_s, c1, cl_s]
    · rw [c2, wJ_1, wJ_1, b2.1 k (by omega), a3.1 k (by omega), f0 k (by omega)]
theorem b7_common {s : St} : ∀ (k x y F : Nat), y < 2 ^ k → x < 2 ^ 63 → y < 2 ^ 63 → 2 * k < F → lp (fun q : Int64 × Int64 × St => f_X7_common_L6 q.1 q.2.1 q.2.2) F (lN x, lN y, s) = some (lN (Nat.gcd x y), s) := by
  have done : ∀ (x F : Nat), 0 < F → lp (fun q : Int64 × Int64 × St => f_X7_common_L6 q.1 q.2.1 q.2.2) F (lN x, lN 0, s) = some (lN (Nat.gcd x 0), s) := by
    intro x F hF
    obtain ⟨F, rfl⟩ : ∃ f, F = f + 1 := ⟨F - 1, by omega⟩
    rw [lp]
    dsimp only
    unfold f_X7_common_L6
    rw [if_pos ((lg0 (by decide)).mpr rfl), Nat.gcd_zero_right]
  have one : ∀ (x y F : Nat), 0 < y → x < 2 ^ 63 → y < 2 ^ 63 → lp (fun q : Int64 × Int64 × St => f_X7_common_L6 q.1 q.2.1 q.2.2) (F + 1) (lN x, lN y, s) = lp (fun q : Int64 × Int64 × St => f_X7_common_L6 q.1 q.2.1 q.2.2) F (lN y, lN (x % y), s) := by
    intro x y F hy hx h63
    rw [lp]
    dsimp only
    unfold f_X7_common_L6
    rw [if_neg (fun q => by rw [lg0 h63] at q; omega), if_pos (fun q => by
      have q2 : lN y = lN 0 := q
      rw [pk_lEQ h63 (by decide)] at q2
      omega), bd_s, pk_lRem hx hy h63]
  intro k
  induction k with
  | zero =>
    intro x y F hy hx h63 hF
    have : y = 0 := by omega
    subst this
    exact done x F (by omega)
  | succ k ih =>
    intro x y F hy hx h63 hF
    by_cases y0 : y = 0
    · subst y0
      exact done x F (by omega)
    · obtain ⟨F, rfl⟩ : ∃ f, F = f + 1 + 1 := ⟨F - 2, by omega⟩
      have hr := Nat.mod_lt x (show 0 < y by omega)
      rw [one x y (F + 1) (by omega) hx h63]
      have g1 : Nat.gcd x y = Nat.gcd y (x % y) := by rw [Nat.gcd_comm, Nat.gcd_rec, Nat.gcd_comm]
      rw [g1]
      by_cases r0 : x % y = 0
      · rw [r0]
        exact done y (F + 1) (by omega)
      · rw [one y (x % y) F (by omega) h63 (by omega)]
        have g2 : Nat.gcd y (x % y) = Nat.gcd (x % y) (y % (x % y)) := by rw [Nat.gcd_comm, Nat.gcd_rec, Nat.gcd_comm]
        rw [g2]
        have h3 := Nat.mod_lt y (show 0 < x % y by omega)
        have h4 : y % (x % y) + (x % y) ≤ y := by
          have := Nat.mod_add_div y (x % y)
          have h5 : 0 < y / (x % y) := Nat.div_pos (by omega) (by omega)
          have h6 : x % y ≤ (x % y) * (y / (x % y)) := Nat.le_mul_of_pos_right _ h5
          omega
        refine ih (x % y) (y % (x % y)) F ?_ (by omega) (by omega) (by omega)
        rw [Nat.pow_succ] at hy
        omega
theorem b7_toldL {s : St} {a n w : Nat} (ha : a < 2 ^ 40) (hn : n ≤ 8) (hw : w < 2) : f_X7_told (lN a) (lN (10 ^ n)) (nI w) s = some (if w = 0 then lN (a / Nat.gcd a (10 ^ n)) else lN (10 ^ n / Nat.gcd a (10 ^ n)), s) := by
  have hb : 10 ^ n ≤ 10 ^ 8 := Nat.pow_le_pow_right (by decide) hn
  have hb63 : 10 ^ n < 2 ^ 63 := Nat.lt_of_le_of_lt hb (by decide)
  have hp : 0 < 10 ^ n := Nat.pow_pos (by decide)
  have hg : 0 < Nat.gcd a (10 ^ n) := Nat.gcd_pos_of_pos_right _ hp
  have hg2 : Nat.gcd a (10 ^ n) ≤ 10 ^ n := Nat.le_of_dvd hp (Nat.gcd_dvd_right _ _)
  have hnz : ¬ lN (Nat.gcd a (10 ^ n)) = 0 := fun q => by
    have q2 : lN (Nat.gcd a (10 ^ n)) = lN 0 := q
    rw [pk_lEQ (by omega) (by decide)] at q2
    omega
  unfold f_X7_told f_X7_common
  rw [b7_common 40 (10 ^ n) a Fu ha hb63 (by omega) (Fu_lt (by decide)), cl_s, Nat.gcd_comm, if_pos hnz, if_pos hnz, pk_lDiv hb63 hg (by omega), pk_lDiv (show a < 2 ^ 63 by omega) hg (by omega)]
  by_cases w0 : w = 0
  · subst w0
    rw [if0, if_pos rfl]
  · rw [if_pos (fun q => w0 ((nI_e0 (by omega)).mp q)), if_neg w0]
theorem bitm : ∀ k, k < 8 → ∀ s, s < 256 → ((nI s >>> (nI k &&& 31)) &&& nI 1) = nI (s / 2 ^ k % 2) := by decide +kernel
theorem shl1 : ∀ n, n ≤ 8 → (nI 1 <<< (nI n &&& 31)) = nI (2 ^ n) := by decide

/-! AIRS that fall still: the numbers -/
/-- what is due of the STEPS that are left, times ten for each: luck (m false) or mean (m true) of SITTER i -/
def vl (nl ns v i : Nat) (m : Bool) : Nat → (Nat → Nat) → Nat
  | 0, _ => 0
  | r + 1, g => if m = false ∧ 0 < tki nl g i then 10 ^ (r + 1) else (if m = true then tki nl g i * 10 ^ (r + 1) else 0) + (v * vl nl ns v i m r (stp nl ns 0 g) + (10 - v) * vl nl ns v i m r (stp nl ns (wy g) g))
theorem pow10 (r : Nat) : 10 ^ (r + 1) = 10 * 10 ^ r := by rw [Nat.pow_succ, Nat.mul_comm]
theorem vl_le {nl ns T v i : Nat} {m : Bool} (hv : v ≤ 10) (hi : i < ns) : ∀ {r : Nat} {g : Nat → Nat}, WF nl ns T g → g 42 + r ≤ 2000 → vl nl ns v i m r g ≤ (9 * r + 1) * 10 ^ r
  | 0, g, _, _ => Nat.zero_le _
  | r + 1, g, hW, h42 => by
    have ht := tki_le hW hi
    have h1 := vl_le (m := m) hv hi (r := r) (hW.stp (w := 0) (by decide) (by omega)) (by rw [stp_42]; omega)
    have h2 := vl_le (m := m) hv hi (r := r) (hW.stp (w := wy g) (wy_lt hW) (by omega)) (by rw [stp_42]; omega)
    have a1 : v * vl nl ns v i m r (stp nl ns 0 g) ≤ v * ((9 * r + 1) * 10 ^ r) := Nat.mul_le_mul_left v h1
    have a2 : (10 - v) * vl nl ns v i m r (stp nl ns (wy g) g) ≤ (10 - v) * ((9 * r + 1) * 10 ^ r) := Nat.mul_le_mul_left (10 - v) h2
    have a3 : v * ((9 * r + 1) * 10 ^ r) + (10 - v) * ((9 * r + 1) * 10 ^ r) = 10 * ((9 * r + 1) * 10 ^ r) := by rw [← Nat.add_mul, show v + (10 - v) = 10 by omega]
    have a4 : tki nl g i * 10 ^ (r + 1) ≤ 9 * 10 ^ (r + 1) := Nat.mul_le_mul_right _ ht
    have a5 : (9 * (r + 1) + 1) * 10 ^ (r + 1) = 9 * 10 ^ (r + 1) + 10 * ((9 * r + 1) * 10 ^ r) := by
      rw [pow10, show 9 * (r + 1) + 1 = 9 + (9 * r + 1) by omega, Nat.add_mul, Nat.mul_left_comm (9 * r + 1) 10]
    have a6 : 10 ^ (r + 1) ≤ (9 * (r + 1) + 1) * 10 ^ (r + 1) := Nat.le_mul_of_pos_left _ (by omega)
    show (if m = false ∧ 0 < tki nl g i then 10 ^ (r + 1) else (if m = true then tki nl g i * 10 ^ (r + 1) else 0) + (v * vl nl ns v i m r (stp nl ns 0 g) + (10 - v) * vl nl ns v i m r (stp nl ns (wy g) g))) ≤ _
    by_cases c : m = false ∧ 0 < tki nl g i
    · rw [if_pos c]; exact a6
    · rw [if_neg c]
      by_cases c2 : m = true
      · rw [if_pos c2]; omega
      · rw [if_neg c2]; omega
/-- a run by a set of STEPS that fall still -/
def bt (s k : Nat) : Bool := decide (s / 2 ^ k % 2 = 1)
theorem bt0 (s : Nat) : bt (2 * s) 0 = false ∧ bt (2 * s + 1) 0 = true := by
  unfold bt
  rw [Nat.pow_zero, Nat.div_one, Nat.div_one]
  constructor
  · simp
  · simp
theorem bt1 (s k : Nat) : bt (2 * s) (k + 1) = bt s k ∧ bt (2 * s + 1) (k + 1) = bt s k := by
  unfold bt
  have e1 : 2 * s / 2 ^ (k + 1) = s / 2 ^ k := by rw [Nat.pow_succ, Nat.mul_comm (2 ^ k) 2, ← Nat.div_div_eq_div_mul, Nat.mul_div_cancel_left _ (by decide)]
  have e2 : (2 * s + 1) / 2 ^ (k + 1) = s / 2 ^ k := by rw [Nat.pow_succ, Nat.mul_comm (2 ^ k) 2, ← Nat.div_div_eq_div_mul, show (2 * s + 1) / 2 = s by omega]
  rw [e1, e2]
  exact ⟨rfl, rfl⟩
def pth (nl ns : Nat) (b : Nat → Bool) (g : Nat → Nat) : Nat → Nat → Nat
  | 0 => g
  | k + 1 => stp nl ns (if b k = true then 0 else wy (pth nl ns b g k)) (pth nl ns b g k)
def wts (v : Nat) (b : Nat → Bool) : Nat → Nat
  | 0 => 1
  | k + 1 => wts v b k * (if b k = true then v else 10 - v)
theorem pth_sh {nl ns : Nat} {b : Nat → Bool} {g : Nat → Nat} : ∀ {k : Nat}, pth nl ns b g (k + 1) = pth nl ns (fun j => b (j + 1)) (stp nl ns (if b 0 = true then 0 else wy g) g) k
  | 0 => rfl
  | k + 1 => by
    show stp nl ns (if b (k + 1) = true then 0 else wy (pth nl ns b g (k + 1))) (pth nl ns b g (k + 1)) = stp nl ns (if b (k + 1) = true then 0 else wy (pth nl ns (fun j => b (j + 1)) _ k)) (pth nl ns (fun j => b (j + 1)) _ k)
    rw [pth_sh (k := k)]
theorem wts_sh {v : Nat} {b : Nat → Bool} : ∀ {k : Nat}, wts v b (k + 1) = (if b 0 = true then v else 10 - v) * wts v (fun j => b (j + 1)) k
  | 0 => by simp [wts]
  | k + 1 => by
    show wts v b (k + 1) * (if b (k + 1) = true then v else 10 - v) = _ * (wts v (fun j => b (j + 1)) k * (if b (k + 1) = true then v else 10 - v))
    rw [wts_sh (k := k), Nat.mul_assoc]
theorem pth_cong {nl ns : Nat} {b c : Nat → Bool} {g : Nat → Nat} (h : ∀ k, b k = c k) : ∀ {k : Nat}, pth nl ns b g k = pth nl ns c g k
  | 0 => rfl
  | k + 1 => by
    show stp nl ns (if b k = true then 0 else wy (pth nl ns b g k)) (pth nl ns b g k) = stp nl ns (if c k = true then 0 else wy (pth nl ns c g k)) (pth nl ns c g k)
    rw [pth_cong h (k := k), h k]
theorem wts_cong {v : Nat} {b c : Nat → Bool} (h : ∀ k, b k = c k) : ∀ {k : Nat}, wts v b k = wts v c k
  | 0 => rfl
  | k + 1 => by
    show wts v b k * (if b k = true then v else 10 - v) = wts v c k * (if c k = true then v else 10 - v)
    rw [wts_cong h (k := k), h k]
theorem sm_pair (F : Nat → Nat) : ∀ m, sm F (2 * m) = sm (fun s => F (2 * s) + F (2 * s + 1)) m
  | 0 => rfl
  | m + 1 => by
    rw [show 2 * (m + 1) = 2 * m + 1 + 1 by omega]
    show sm F (2 * m) + F (2 * m) + F (2 * m + 1) = sm _ m + (F (2 * m) + F (2 * m + 1))
    rw [sm_pair F m]
    omega
theorem sm_mulf (c : Nat) (f : Nat → Nat) : ∀ n, sm (fun k => c * f k) n = c * sm f n
  | 0 => rfl
  | n + 1 => by
    show sm (fun k => c * f k) n + c * f n = c * (sm f n + f n)
    rw [sm_mulf c f n, Nat.mul_add]
theorem wts_e {v s k : Nat} : wts v (bt (2 * s)) (k + 1) = (10 - v) * wts v (bt s) k ∧ wts v (bt (2 * s + 1)) (k + 1) = v * wts v (bt s) k := by
  constructor
  · rw [wts_sh, (bt0 s).1, if_neg (by decide), wts_cong (c := bt s) (fun j => (bt1 s j).1)]
  · rw [wts_sh, (bt0 s).2, if_pos rfl, wts_cong (c := bt s) (fun j => (bt1 s j).2)]
theorem pth_e {nl ns s k : Nat} {g : Nat → Nat} : pth nl ns (bt (2 * s)) g (k + 1) = pth nl ns (bt s) (stp nl ns (wy g) g) k ∧ pth nl ns (bt (2 * s + 1)) g (k + 1) = pth nl ns (bt s) (stp nl ns 0 g) k := by
  constructor
  · rw [pth_sh, (bt0 s).1, if_neg (by decide), pth_cong (c := bt s) (fun j => (bt1 s j).1)]
  · rw [pth_sh, (bt0 s).2, if_pos rfl, pth_cong (c := bt s) (fun j => (bt1 s j).2)]
theorem wts_sum {v : Nat} (hv : v ≤ 10) : ∀ r, sm (fun s => wts v (bt s) r) (2 ^ r) = 10 ^ r
  | 0 => rfl
  | r + 1 => by
    rw [Nat.pow_succ, Nat.mul_comm (2 ^ r) 2, sm_pair, pow10]
    have e : ∀ s, wts v (bt (2 * s)) (r + 1) + wts v (bt (2 * s + 1)) (r + 1) = 10 * wts v (bt s) r := by
      intro s
      rw [wts_e.1, wts_e.2, ← Nat.add_mul, show 10 - v + v = 10 by omega]
    rw [sm_cong (fun s _ => e s), sm_mulf, wts_sum hv r]
theorem pth_WF {nl ns T : Nat} {b : Nat → Bool} {g : Nat → Nat} (h : WF nl ns T g) : ∀ {k : Nat}, g 42 + k ≤ 2000 → WF nl ns T (pth nl ns b g k) ∧ pth nl ns b g k 42 = g 42 + k
  | 0, _ => ⟨h, rfl⟩
  | k + 1, hk => by
    obtain ⟨h1, h2⟩ := pth_WF (b := b) h (k := k) (by omega)
    have hw : (if b k = true then 0 else wy (pth nl ns b g k)) < 5 := by
      by_cases c : b k = true
      · rw [if_pos c]; decide
      · rw [if_neg c]; exact wy_lt h1
    exact ⟨h1.stp hw (by omega), by show stp _ _ _ _ 42 = _; rw [stp_42, h2]; omega⟩
theorem pth_hb {nl ns T i : Nat} {b : Nat → Bool} {g : Nat → Nat} (h : WF nl ns T g) (hi : i < ns) : ∀ {k : Nat}, g 42 + k ≤ 2000 → hb g i ≤ hb (pth nl ns b g k) i
  | 0, _ => Nat.le_refl _
  | k + 1, hk => by
    obtain ⟨h1, h2⟩ := pth_WF (b := b) h (k := k) (by omega)
    have h3 := pth_hb (b := b) h hi (k := k) (by omega)
    show hb g i ≤ hb (stp nl ns _ (pth nl ns b g k)) i
    rw [stp_hb h1 hi]
    omega
/-- the reference's sums -/
def rsum (nl ns v i : Nat) (m : Bool) (r : Nat) (g : Nat → Nat) : Nat := sm (fun s => if m = true then wts v (bt s) r * (hb (pth nl ns (bt s) g r) i - hb g i) else if 0 < hb (pth nl ns (bt s) g r) i - hb g i then wts v (bt s) r else 0) (2 ^ r)
theorem rsum_vl {nl ns T v i : Nat} (m : Bool) (hv : v ≤ 10) (hi : i < ns) : ∀ {r : Nat} {g : Nat → Nat}, WF nl ns T g → g 42 + r ≤ 2000 → rsum nl ns v i m r g = vl nl ns v i m r g
  | 0, g, _, _ => by
    show 0 + _ = 0
    show 0 + (if m = true then 1 * (hb g i - hb g i) else if 0 < hb g i - hb g i then 1 else 0) = 0
    rw [Nat.sub_self]
    simp
  | r + 1, g, hW, h42 => by
    have w0 := hW.stp (w := 0) (by decide) (show g 42 < 2000 by omega)
    have w1 := hW.stp (w := wy g) (wy_lt hW) (show g 42 < 2000 by omega)
    have i0 := rsum_vl m hv hi (r := r) w0 (by rw [stp_42]; omega)
    have i1 := rsum_vl m hv hi (r := r) w1 (by rw [stp_42]; omega)
    have b0 := stp_hb (w := 0) hW hi
    have b1 := stp_hb (w := wy g) hW hi
    have hS := wts_sum hv r
    unfold rsum
    rw [Nat.pow_succ, Nat.mul_comm (2 ^ r) 2, sm_pair]
    unfold rsum at i0 i1
    show _ = (if m = false ∧ 0 < tki nl g i then 10 ^ (r + 1) else (if m = true then tki nl g i * 10 ^ (r + 1) else 0) + (v * vl nl ns v i m r (stp nl ns 0 g) + (10 - v) * vl nl ns v i m r (stp nl ns (wy g) g)))
    have d0 : ∀ s, hb (pth nl ns (bt (2 * s)) g (r + 1)) i - hb g i = hb (pth nl ns (bt s) (stp nl ns (wy g) g) r) i - hb (stp nl ns (wy g) g) i + tki nl g i := by
      intro s
      rw [pth_e.1]
      have := pth_hb (b := bt s) (i := i) w1 hi (k := r) (by rw [stp_42]; omega)
      omega
    have d1 : ∀ s, hb (pth nl ns (bt (2 * s + 1)) g (r + 1)) i - hb g i = hb (pth nl ns (bt s) (stp nl ns 0 g) r) i - hb (stp nl ns 0 g) i + tki nl g i := by
      intro s
      rw [pth_e.2]
      have := pth_hb (b := bt s) (i := i) w0 hi (k := r) (by rw [stp_42]; omega)
      omega
    cases m with
    | true =>
      rw [if_neg (by simp), if_pos rfl, ← i0, ← i1]
      simp only [if_true]
      have e : ∀ s, wts v (bt (2 * s)) (r + 1) * (hb (pth nl ns (bt (2 * s)) g (r + 1)) i - hb g i) + wts v (bt (2 * s + 1)) (r + 1) * (hb (pth nl ns (bt (2 * s + 1)) g (r + 1)) i - hb g i) = tki nl g i * 10 * wts v (bt s) r + (v * (wts v (bt s) r * (hb (pth nl ns (bt s) (stp nl ns 0 g) r) i - hb (stp nl ns 0 g) i)) + (10 - v) * (wts v (bt s) r * (hb (pth nl ns (bt s) (stp nl ns (wy g) g) r) i - hb (stp nl ns (wy g) g) i))) := by
        intro s
        rw [d0, d1, wts_e.1, wts_e.2, Nat.mul_add, Nat.mul_add, Nat.mul_assoc (10 - v), Nat.mul_assoc v]
        have e3 : (10 - v) * wts v (bt s) r * tki nl g i + v * wts v (bt s) r * tki nl g i = tki nl g i * 10 * wts v (bt s) r := by
          rw [← Nat.add_mul, ← Nat.add_mul, show 10 - v + v = 10 by omega, Nat.mul_comm (10 * wts v (bt s) r), Nat.mul_assoc]
        omega
      rw [sm_cong (fun s _ => e s), sm_addf, sm_addf, sm_mulf, sm_mulf, sm_mulf, hS, pow10, Nat.mul_assoc]
    | false =>
      simp only [Bool.false_eq_true, if_false] at i0 i1
      by_cases ht : 0 < tki nl g i
      · rw [if_pos ⟨rfl, ht⟩]
        simp only [Bool.false_eq_true, if_false]
        have e : ∀ s, (if 0 < hb (pth nl ns (bt (2 * s)) g (r + 1)) i - hb g i then wts v (bt (2 * s)) (r + 1) else 0) + (if 0 < hb (pth nl ns (bt (2 * s + 1)) g (r + 1)) i - hb g i then wts v (bt (2 * s + 1)) (r + 1) else 0) = 10 * wts v (bt s) r := by
          intro s
          rw [d0, d1, if_pos (by omega), if_pos (by omega), wts_e.1, wts_e.2, ← Nat.add_mul, show 10 - v + v = 10 by omega]
        rw [sm_cong (fun s _ => e s), sm_mulf, hS, pow10]
      · rw [if_neg (fun q => ht q.2), if_neg (by decide), ← i0, ← i1, Nat.zero_add]
        simp only [Bool.false_eq_true, if_false]
        have t0 : tki nl g i = 0 := by omega
        have e : ∀ s, (if 0 < hb (pth nl ns (bt (2 * s)) g (r + 1)) i - hb g i then wts v (bt (2 * s)) (r + 1) else 0) + (if 0 < hb (pth nl ns (bt (2 * s + 1)) g (r + 1)) i - hb g i then wts v (bt (2 * s + 1)) (r + 1) else 0) = v * (if 0 < hb (pth nl ns (bt s) (stp nl ns 0 g) r) i - hb (stp nl ns 0 g) i then wts v (bt s) r else 0) + (10 - v) * (if 0 < hb (pth nl ns (bt s) (stp nl ns (wy g) g) r) i - hb (stp nl ns (wy g) g) i then wts v (bt s) r else 0) := by
          intro s
          rw [d0, d1, t0]
          simp only [Nat.add_zero]
          rw [wts_e.1, wts_e.2]
          by_cases c0 : 0 < hb (pth nl ns (bt s) (stp nl ns 0 g) r) i - hb (stp nl ns 0 g) i
          · simp only [if_pos c0]
            by_cases c1 : 0 < hb (pth nl ns (bt s) (stp nl ns (wy g) g) r) i - hb (stp nl ns (wy g) g) i
            · simp only [if_pos c1]; omega
            · simp only [if_neg c1]; omega
          · simp only [if_neg c0]
            by_cases c1 : 0 < hb (pth nl ns (bt s) (stp nl ns (wy g) g) r) i - hb (stp nl ns (wy g) g) i
            · simp only [if_pos c1]; omega
            · simp only [if_neg c1]; omega
        rw [sm_cong (fun s _ => e s), sm_addf, sm_mulf, sm_mulf]
/-- a fraction by its greatest common divisor -/
theorem cop {a b x y : Nat} (hb : b = 2 ^ x * 5 ^ y) (h2 : ¬ (a % 2 = 0 ∧ b % 2 = 0)) (h5 : ¬ (a % 5 = 0 ∧ b % 5 = 0)) : Nat.gcd a b = 1 := by
  have key : ∀ p, p = 2 ∨ p = 5 → ¬ (a % p = 0 ∧ b % p = 0) → Nat.Coprime (Nat.gcd a b) p := by
    intro p hp hn
    have hd1 : Nat.gcd (Nat.gcd a b) p ∣ p := Nat.gcd_dvd_right _ _
    have hd2 : Nat.gcd (Nat.gcd a b) p ∣ Nat.gcd a b := Nat.gcd_dvd_left _ _
    have hle := Nat.le_of_dvd (by omega) hd1
    have hne : Nat.gcd (Nat.gcd a b) p ≠ p := by
      intro e
      rw [e] at hd2
      exact hn ⟨Nat.mod_eq_zero_of_dvd (Nat.dvd_trans hd2 (Nat.gcd_dvd_left a b)), Nat.mod_eq_zero_of_dvd (Nat.dvd_trans hd2 (Nat.gcd_dvd_right a b))⟩
    show Nat.gcd (Nat.gcd a b) p = 1
    generalize Nat.gcd (Nat.gcd a b) p = d at hd1 hle hne
    rcases hp with rfl | rfl
    · have : ∀ d, d ≤ 2 → d ∣ 2 → d ≠ 2 → d = 1 := by decide
      exact this d hle hd1 hne
    · have : ∀ d, d ≤ 5 → d ∣ 5 → d ≠ 5 → d = 1 := by decide
      exact this d hle hd1 hne
  have c2 := key 2 (Or.inl rfl) h2
  have c5 := key 5 (Or.inr rfl) h5
  have hd : Nat.gcd a b ∣ 2 ^ x * 5 ^ y := by rw [← hb]; exact Nat.gcd_dvd_right a b
  have h1 : Nat.gcd a b ∣ 5 ^ y := Nat.Coprime.dvd_of_dvd_mul_left (Nat.Coprime.pow_right x c2) hd
  exact Nat.Coprime.eq_one_of_dvd (Nat.Coprime.pow_right y c5) h1

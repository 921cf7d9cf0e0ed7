/-! what SITTERS have grows by what they take -/
theorem hd_has {g g2 : Nat → Nat} (h : ∀ j, 20 ≤ j → j < 32 → g2 j = g j) : ∀ l, l < 3 → hd g2 l = hd g l := fun l hl => hd_cong (fun i hi => h _ (by omega) (by omega))
theorem hdA_has {g g2 : Nat → Nat} (h : ∀ j, 20 ≤ j → j < 32 → g2 j = g j) : sm (hd g2) 3 = sm (hd g) 3 := sm_cong (fun l hl => hd_has h l hl)
theorem told_has {nl ns T : Nat} {g : Nat → Nat} (h : WF nl ns T g) : ∀ {l : Nat}, l ≤ nl → ∀ j, 20 ≤ j → j < 32 → told g l j = g j
  | 0, _, _, _, _ => rfl
  | l + 1, hl, j, h1, h2 => by
    have h3 := h.1
    have ha := ((h.told (l := l) (by omega)).2.2.2.1 l (by omega)).2.1
    show told1 (told g l) l j = _
    unfold told1
    rw [up_o (by omega), up_o (by omega)]
    exact told_has h (l := l) (by omega) j h1 h2
theorem drift_has {w : Nat} {g : Nat → Nat} : ∀ {l : Nat}, l ≤ 3 → ∀ j, 20 ≤ j → j < 32 → driftA w g l j = g j
  | 0, _, _, _, _ => rfl
  | l + 1, hl, j, h1, h2 => by
    show drift1 w (driftA w g l) l j = _
    rw [drift1_o (by omega) (by omega)]
    exact drift_has (l := l) (by omega) j h1 h2
theorem blown_has {nl w : Nat} {g : Nat → Nat} (hn : nl ≤ 3) : ∀ j, 20 ≤ j → j < 32 → blown nl w g j = g j := by
  intro j h1 h2
  unfold blown
  by_cases h0 : w = 0
  · rw [if_pos h0]
  · rw [if_neg h0]; exact drift_has hn j h1 h2
theorem take1_hd {q : Nat × (Nat → Nat)} {i l : Nat} (hi : i < 4) (hl : l < 3) (ha : q.2 (12 + 2 * i) < 20) : sm (hd (take1 q i l).2) 3 + (take1 q i l).1 = sm (hd q.2) 3 + q.1 := by
  obtain ⟨sl, g⟩ := q
  dsimp only at ha ⊢
  have e1 : ∀ k, k < 3 → k ≠ l → hd (take1 (sl, g) i l).2 k = hd g k := by
    intro k hk hkl
    unfold take1
    dsimp only
    rw [hd_out (fun j hj => by omega), hd_out (fun j hj => by omega)]
  have e2 : hd (take1 (sl, g) i l).2 l = hd g l + min sl (g (43 + 20 * l + g (12 + 2 * i))) := by
    unfold take1
    dsimp only
    have h2 := hd_in (g := up g (43 + 20 * l + g (12 + 2 * i)) (g (43 + 20 * l + g (12 + 2 * i)) - min sl (g (43 + 20 * l + g (12 + 2 * i))))) (l := l) (v := g (20 + 3 * i + l) + min sl (g (43 + 20 * l + g (12 + 2 * i)))) hi
    rw [hd_out (k := 43 + 20 * l + g (12 + 2 * i)) (fun j hj => by omega), up_o (j := 20 + 3 * i + l) (by omega)] at h2
    omega
  have e3 : (take1 (sl, g) i l).1 = sl - min sl (g (43 + 20 * l + g (12 + 2 * i))) := rfl
  have hm := Nat.min_le_left sl (g (43 + 20 * l + g (12 + 2 * i)))
  simp only [sm]
  rw [e3]
  rcases (show l = 0 ∨ l = 1 ∨ l = 2 by omega) with rfl | rfl | rfl
  · rw [e2, e1 1 (by decide) (by decide), e1 2 (by decide) (by decide)]; omega
  · rw [e2, e1 0 (by decide) (by decide), e1 2 (by decide) (by decide)]; omega
  · rw [e2, e1 0 (by decide) (by decide), e1 1 (by decide) (by decide)]; omega
theorem takeL_hd {nl ns T : Nat} {q : Nat × (Nat → Nat)} (h : WF nl ns T q.2) {i : Nat} (hi : i < ns) : ∀ {l : Nat}, l ≤ nl → sm (hd (takeL i q l).2) 3 + (takeL i q l).1 = sm (hd q.2) 3 + q.1
  | 0, _ => rfl
  | l + 1, hl => by
    have h1 := takeL_hd h hi (l := l) (by omega)
    have h2 := take1_hd (q := takeL i q l) (i := i) (l := l) (by have := h.2.1; omega) (by have := h.1; omega) ((h.takeL hi (l := l) (by omega)).2.2.2.2.1 i hi).1
    show sm (hd (take1 (takeL i q l) i l).2) 3 + (take1 (takeL i q l) i l).1 = _
    omega
theorem takeS_hd {nl ns T : Nat} {g : Nat → Nat} (h : WF nl ns T g) : ∀ {i : Nat}, i ≤ ns → sm (hd (takeS nl g i)) 3 = sm (hd g) 3 + sm (tkn nl g) i
  | 0, _ => rfl
  | i + 1, hi => by
    have h1 := takeS_hd h (i := i) (by omega)
    have h2 := takeL_hd (q := (takeS nl g i (13 + 2 * i), takeS nl g i)) (h.takeS (i := i) (by omega)) (i := i) (by omega) (l := nl) (Nat.le_refl _)
    have h3 := takeL_le (q := (takeS nl g i (13 + 2 * i), takeS nl g i)) (i := i) (l := nl)
    dsimp only at h2 h3
    show sm (hd (takeL i (takeS nl g i (13 + 2 * i), takeS nl g i) nl).2) 3 = sm (hd g) 3 + (sm (tkn nl g) i + (takeS nl g i (13 + 2 * i) - (takeL i (takeS nl g i (13 + 2 * i), takeS nl g i) nl).1))
    omega
theorem stp_has {nl ns w : Nat} {g : Nat → Nat} (hn : nl ≤ 3) : ∀ j, 20 ≤ j → j < 32 → stp nl ns w g j = tt nl ns g j := by
  intro j h1 h2
  unfold stp
  rw [up_o (by omega)]
  exact blown_has hn j h1 h2
theorem stp_hd {nl ns T w : Nat} {g : Nat → Nat} (h : WF nl ns T g) : sm (hd (stp nl ns w g)) 3 = sm (hd g) 3 + tk nl ns g := by
  rw [hdA_has (stp_has h.1)]
  unfold tt
  rw [takeS_hd (h.told (Nat.le_refl _)) (Nat.le_refl _), hdA_has (told_has h (Nat.le_refl _))]
  rfl
theorem stn_hd {nl ns T : Nat} {g : Nat → Nat} (h : WF nl ns T g) : ∀ {k : Nat}, g 42 + k ≤ 2000 → sm (hd (stn nl ns g k)) 3 = sm (hd g) 3 + tks nl ns g k
  | 0, _ => rfl
  | k + 1, hk => by
    have h1 := stn_hd h (k := k) (by omega)
    have h2 := stp_hd (w := wy (stn nl ns g k)) (stn_WF h (k := k) (by omega)).1
    show sm (hd (stp nl ns (wy (stn nl ns g k)) (stn nl ns g k))) 3 = sm (hd g) 3 + (tks nl ns g k + tk nl ns (stn nl ns g k))
    omega
/-- no SITTER gives back -/
theorem take1_mo {q : Nat × (Nat → Nat)} {i l : Nat} (hl : l < 3) : ∀ j, 20 ≤ j → j < 32 → q.2 j ≤ (take1 q i l).2 j := by
  intro j h1 h2
  unfold take1
  dsimp only
  by_cases e : j = 20 + 3 * i + l
  · subst e; rw [up_k]; omega
  · rw [up_o e, up_o (by omega)]; exact Nat.le_refl _
theorem takeL_mo {q : Nat × (Nat → Nat)} {i : Nat} : ∀ {l : Nat}, l ≤ 3 → ∀ j, 20 ≤ j → j < 32 → q.2 j ≤ (takeL i q l).2 j
  | 0, _, _, _, _ => Nat.le_refl _
  | l + 1, hl, j, h1, h2 => Nat.le_trans (takeL_mo (l := l) (by omega) j h1 h2) (take1_mo (by omega) j h1 h2)
theorem takeS_mo {nl : Nat} {g : Nat → Nat} (hn : nl ≤ 3) : ∀ {i : Nat}, ∀ j, 20 ≤ j → j < 32 → g j ≤ takeS nl g i j
  | 0, _, _, _ => Nat.le_refl _
  | i + 1, j, h1, h2 => Nat.le_trans (takeS_mo hn (i := i) j h1 h2) (takeL_mo (q := (takeS nl g i (13 + 2 * i), takeS nl g i)) hn j h1 h2)
theorem tt_mo {nl ns T : Nat} {g : Nat → Nat} (h : WF nl ns T g) : ∀ j, 20 ≤ j → j < 32 → g j ≤ tt nl ns g j := by
  intro j h1 h2
  unfold tt
  have := takeS_mo (g := told g nl) (i := ns) h.1 j h1 h2
  rw [told_has h (Nat.le_refl _) j h1 h2] at this
  exact this
theorem stn_mo {nl ns T : Nat} {g : Nat → Nat} (h : WF nl ns T g) : ∀ {k : Nat}, g 42 + k ≤ 2000 → ∀ j, 20 ≤ j → j < 32 → g j ≤ stn nl ns g k j
  | 0, _, _, _, _ => Nat.le_refl _
  | k + 1, hk, j, h1, h2 => by
    have a1 := stn_mo h (k := k) (by omega) j h1 h2
    have w := (stn_WF h (k := k) (by omega)).1
    show g j ≤ stp nl ns (wy (stn nl ns g k)) (stn nl ns g k) j
    rw [stp_has h.1 j h1 h2]
    exact Nat.le_trans a1 (tt_mo w j h1 h2)

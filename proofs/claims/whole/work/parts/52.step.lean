/-! one STEP, in numbers -/
theorem sm_upF {g : Nat → Nat} {k v : Nat} {F : Nat → Nat} {i0 : Nat} : ∀ {n : Nat}, i0 < n → F i0 = k → (∀ i, i < n → i ≠ i0 → F i ≠ k) → sm (fun i => up g k v (F i)) n + g k = sm (fun i => g (F i)) n + v
  | 0, h, _, _ => absurd h (by omega)
  | n + 1, h, e, ho => by
    show sm _ n + up g k v (F n) + g k = sm _ n + g (F n) + v
    by_cases hn : i0 = n
    · subst hn
      rw [e, up_k, sm_cong (fun i hi => up_o (ho i (by omega) (by omega)))]
      omega
    · rw [up_o (ho n (by omega) (fun q => hn q.symm))]
      have := sm_upF (g := g) (k := k) (v := v) (F := F) (i0 := i0) (n := n) (by omega) e (fun i hi => ho i (by omega))
      omega
theorem al_in {g : Nat → Nat} {l c v : Nat} (hc : c < 20) : al (up g (43 + 20 * l + c) v) l + g (43 + 20 * l + c) = al g l + v := sm_up_in (by omega) (by omega)
theorem al_out {g : Nat → Nat} {l k v : Nat} (h : k < 43 + 20 * l ∨ 43 + 20 * l + 20 ≤ k) : al (up g k v) l = al g l := sm_up_out h
theorem hd_in {g : Nat → Nat} {i l v : Nat} (hi : i < 4) : hd (up g (20 + 3 * i + l) v) l + g (20 + 3 * i + l) = hd g l + v := sm_upF (F := fun i => 20 + 3 * i + l) hi rfl (fun j _ hj => by omega)
theorem hd_out {g : Nat → Nat} {l k v : Nat} (h : ∀ i, i < 4 → 20 + 3 * i + l ≠ k) : hd (up g k v) l = hd g l := sm_cong (fun i hi => up_o (h i hi))
theorem al_cong {g g2 : Nat → Nat} {l : Nat} (h : ∀ c, c < 20 → g2 (43 + 20 * l + c) = g (43 + 20 * l + c)) : al g2 l = al g l := sm_cong h
theorem hd_cong {g g2 : Nat → Nat} {l : Nat} (h : ∀ i, i < 4 → g2 (20 + 3 * i + l) = g (20 + 3 * i + l)) : hd g2 l = hd g l := sm_cong h
/-- what a STEP leaves alone but the STEP itself -/
def Kp (g g2 : Nat → Nat) : Prop := ∀ j, (j < 12 ∧ j % 4 ≠ 3) ∨ (12 ≤ j ∧ j < 20) ∨ (32 ≤ j ∧ j ≤ 42) ∨ 106 ≤ j → g2 j = g j
theorem Kp.rf {g : Nat → Nat} : Kp g g := fun _ _ => rfl
theorem Kp.tr {g g2 g3 : Nat → Nat} (h : Kp g g2) (h2 : Kp g2 g3) : Kp g g3 := fun j hj => (h2 j hj).trans (h j hj)
theorem WF.chg {nl ns T : Nat} {g g2 : Nat → Nat} (h : WF nl ns T g) (hk : Kp g g2) (hl : ∀ l, l < nl → g2 (4 * l + 3) ≤ 99) (ht : ∀ l, l < 3 → tot g2 l = tot g l) (hh : ∀ i l, i < 4 → l < 3 → ns ≤ i → g2 (20 + 3 * i + l) = g (20 + 3 * i + l)) : WF nl ns T g2 := by
  obtain ⟨h1, h2, h3, h4, h5, h6, h7, h8, h9, h10, h11⟩ := h
  refine ⟨h1, h2, h3, fun l hl2 => ?_, fun i hi => ?_, fun k hk2 => ?_, fun y hy => ?_, ?_, fun l hl2 => ?_, fun l hl2 hn => ?_, fun i l hi hl2 hn => ?_⟩
  · have := h4 l hl2
    rw [hk (4 * l) (by omega), hk (4 * l + 1) (by omega), hk (4 * l + 2) (by omega)]
    exact ⟨this.1, this.2.1, this.2.2.1, this.2.2.2.1, hl l hl2⟩
  · have := h5 i hi
    rw [hk (12 + 2 * i) (by omega), hk (13 + 2 * i) (by omega)]
    exact this
  · rw [hk (32 + k) (by omega)]; exact h6 k hk2
  · rw [hk (38 + y) (by omega)]; exact h7 y hy
  · rw [hk 42 (by omega)]; exact h8
  · rw [ht l hl2]; exact h9 l hl2
  · rw [ht l hl2]; exact h10 l hl2 hn
  · rw [hh i l hi hl2 hn]; exact h11 i l hi hl2 hn
/-- a LIFE is told -/
def told1 (g : Nat → Nat) (l : Nat) : Nat → Nat := up (up g (4 * l + 3) (g (4 * l + 3) - min (g (4 * l + 2)) (g (4 * l + 3)))) (43 + 20 * l + g (4 * l + 1)) (g (43 + 20 * l + g (4 * l + 1)) + min (g (4 * l + 2)) (g (4 * l + 3)))
def told (g : Nat → Nat) : Nat → Nat → Nat
  | 0 => g
  | l + 1 => told1 (told g l) l
theorem told1_kp {g : Nat → Nat} {l : Nat} (hl : l < 3) (ha : g (4 * l + 1) < 20) : Kp g (told1 g l) := by
  intro j hj
  unfold told1
  rw [up_o (by omega), up_o (by omega)]
theorem told1_tot {g : Nat → Nat} {l k : Nat} (hl : l < 3) (hk : k < 3) (ha : g (4 * l + 1) < 20) : tot (told1 g l) k = tot g k := by
  unfold tot told1
  rw [hd_out (fun i hi => by omega), hd_out (fun i hi => by omega), up_o (j := 103 + k) (by omega), up_o (j := 103 + k) (by omega), up_o (j := 4 * k + 3) (by omega)]
  by_cases h : k = l
  · subst h
    have h1 := al_in (g := up g (4 * k + 3) (g (4 * k + 3) - min (g (4 * k + 2)) (g (4 * k + 3)))) (l := k) (v := g (43 + 20 * k + g (4 * k + 1)) + min (g (4 * k + 2)) (g (4 * k + 3))) ha
    rw [al_out (k := 4 * k + 3) (by omega), up_o (j := 43 + 20 * k + g (4 * k + 1)) (by omega)] at h1
    rw [up_k]
    have := Nat.min_le_right (g (4 * k + 2)) (g (4 * k + 3))
    omega
  · rw [al_out (by omega), al_out (by omega), up_o (by omega)]
theorem WF.told1 {nl ns T : Nat} {g : Nat → Nat} (h : WF nl ns T g) {l : Nat} (hl : l < nl) : WF nl ns T (told1 g l) := by
  have h3 := h.1
  have ha := (h.2.2.2.1 l hl).2.1
  refine h.chg (told1_kp (by omega) ha) (fun k hk => ?_) (fun k hk => told1_tot (by omega) hk ha) (fun i k hi hk hn => ?_)
  · have := (h.2.2.2.1 k hk).2.2.2.2
    show up _ _ _ _ ≤ 99
    rw [up_o (by omega)]
    by_cases hkl : k = l
    · subst hkl; rw [up_k]; omega
    · rw [up_o (by omega)]; exact this
  · show up _ _ _ _ = _
    rw [up_o (by omega), up_o (by omega)]
theorem WF.told {nl ns T : Nat} {g : Nat → Nat} (h : WF nl ns T g) : ∀ {l : Nat}, l ≤ nl → WF nl ns T (told g l)
  | 0, _ => h
  | l + 1, hl => (WF.told h (l := l) (by omega)).told1 (by omega)
theorem told_kp {nl ns T : Nat} {g : Nat → Nat} (h : WF nl ns T g) : ∀ {l : Nat}, l ≤ nl → Kp g (told g l)
  | 0, _ => Kp.rf
  | l + 1, hl => (told_kp h (l := l) (by omega)).tr (told1_kp (by have := h.1; omega) ((h.told (l := l) (by omega)).2.2.2.1 l (by omega)).2.1)
/-- SITTER i takes of LIFE l, so much of his SLEEVE being left -/
def take1 (q : Nat × (Nat → Nat)) (i l : Nat) : Nat × (Nat → Nat) := (q.1 - min q.1 (q.2 (43 + 20 * l + q.2 (12 + 2 * i))), up (up q.2 (43 + 20 * l + q.2 (12 + 2 * i)) (q.2 (43 + 20 * l + q.2 (12 + 2 * i)) - min q.1 (q.2 (43 + 20 * l + q.2 (12 + 2 * i))))) (20 + 3 * i + l) (q.2 (20 + 3 * i + l) + min q.1 (q.2 (43 + 20 * l + q.2 (12 + 2 * i)))))
def takeL (i : Nat) (q : Nat × (Nat → Nat)) : Nat → Nat × (Nat → Nat)
  | 0 => q
  | l + 1 => take1 (takeL i q l) i l
def takeS (nl : Nat) (g : Nat → Nat) : Nat → Nat → Nat
  | 0 => g
  | i + 1 => (takeL i (takeS nl g i (13 + 2 * i), takeS nl g i) nl).2
theorem take1_kp {q : Nat × (Nat → Nat)} {i l : Nat} (hi : i < 4) (hl : l < 3) (ha : q.2 (12 + 2 * i) < 20) : Kp q.2 (take1 q i l).2 := by
  intro j hj
  show up _ _ _ j = _
  rw [up_o (by omega), up_o (by omega)]
theorem take1_tot {q : Nat × (Nat → Nat)} {i l k : Nat} (hi : i < 4) (hl : l < 3) (hk : k < 3) (ha : q.2 (12 + 2 * i) < 20) : tot (take1 q i l).2 k = tot q.2 k := by
  obtain ⟨sl, g⟩ := q
  dsimp only at ha
  unfold tot take1
  dsimp only
  rw [up_o (j := 103 + k) (by omega), up_o (j := 103 + k) (by omega), up_o (j := 4 * k + 3) (by omega), up_o (j := 4 * k + 3) (by omega), al_out (k := 20 + 3 * i + l) (by omega)]
  by_cases h : k = l
  · subst h
    have h1 := al_in (g := g) (l := k) (v := g (43 + 20 * k + g (12 + 2 * i)) - min sl (g (43 + 20 * k + g (12 + 2 * i)))) ha
    have h2 := hd_in (g := up g (43 + 20 * k + g (12 + 2 * i)) (g (43 + 20 * k + g (12 + 2 * i)) - min sl (g (43 + 20 * k + g (12 + 2 * i))))) (l := k) (v := g (20 + 3 * i + k) + min sl (g (43 + 20 * k + g (12 + 2 * i)))) hi
    rw [hd_out (k := 43 + 20 * k + g (12 + 2 * i)) (fun j hj => by omega), up_o (j := 20 + 3 * i + k) (by omega)] at h2
    have := Nat.min_le_right sl (g (43 + 20 * k + g (12 + 2 * i)))
    omega
  · rw [al_out (by omega), hd_out (fun j hj => by omega), hd_out (fun j hj => by omega)]
theorem WF.take1 {nl ns T : Nat} {q : Nat × (Nat → Nat)} (h : WF nl ns T q.2) {i l : Nat} (hi : i < ns) (hl : l < nl) : WF nl ns T (take1 q i l).2 := by
  have h3 := h.1
  have h4 := h.2.1
  have ha := (h.2.2.2.2.1 i hi).1
  refine h.chg (take1_kp (by omega) (by omega) ha) (fun k hk => ?_) (fun k hk => take1_tot (by omega) (by omega) hk ha) (fun j k hj hk hn => ?_)
  · have := (h.2.2.2.1 k hk).2.2.2.2
    show up _ _ _ _ ≤ 99
    rw [up_o (by omega), up_o (by omega)]; exact this
  · show up _ _ _ _ = _
    rw [up_o (by omega), up_o (by omega)]
theorem WF.takeL {nl ns T : Nat} {q : Nat × (Nat → Nat)} (h : WF nl ns T q.2) {i : Nat} (hi : i < ns) : ∀ {l : Nat}, l ≤ nl → WF nl ns T (takeL i q l).2
  | 0, _ => h
  | l + 1, hl => (WF.takeL h hi (l := l) (by omega)).take1 hi (by omega)
theorem takeL_kp {nl ns T : Nat} {q : Nat × (Nat → Nat)} (h : WF nl ns T q.2) {i : Nat} (hi : i < ns) : ∀ {l : Nat}, l ≤ nl → Kp q.2 (takeL i q l).2
  | 0, _ => Kp.rf
  | l + 1, hl => (takeL_kp h hi (l := l) (by omega)).tr (take1_kp (by have := h.2.1; omega) (by have := h.1; omega) ((h.takeL hi (l := l) (by omega)).2.2.2.2.1 i hi).1)
theorem WF.takeS {nl ns T : Nat} {g : Nat → Nat} (h : WF nl ns T g) : ∀ {i : Nat}, i ≤ ns → WF nl ns T (takeS nl g i)
  | 0, _ => h
  | i + 1, hi => WF.takeL (q := (_, _)) (WF.takeS h (i := i) (by omega)) (by omega) (Nat.le_refl _)
theorem takeS_kp {nl ns T : Nat} {g : Nat → Nat} (h : WF nl ns T g) : ∀ {i : Nat}, i ≤ ns → Kp g (takeS nl g i)
  | 0, _ => Kp.rf
  | i + 1, hi => (takeS_kp h (i := i) (by omega)).tr (takeL_kp (q := (_, _)) (h.takeS (i := i) (by omega)) (by omega) (Nat.le_refl _))
/-- what MOVES of so much; the next CELL (20: none) and the one before, by a WAY -/
def mv (k m : Nat) : Nat := if k = 1 then (m + 1) / 2 / 2 else if k = 2 then m else if k = 3 then min m ((m + 1) / 2 / 2 + 1) else (m + 1) / 2
theorem mv_le (k m : Nat) : mv k m ≤ m := by
  unfold mv
  split
  · omega
  · split
    · omega
    · split
      · omega
      · omega
def nxt (c w : Nat) : Nat := if w = 1 then (if c / 4 < 4 then c + 4 else 20) else if w = 2 then (if 0 < c / 4 then c - 4 else 20) else if w = 3 then (if c % 4 < 3 then c + 1 else 20) else if w = 4 then (if 0 < c % 4 then c - 1 else 20) else c
def prv (c w : Nat) : Nat := if w = 1 then (if 4 ≤ c then c - 4 else 20) else if w = 2 then (if c < 16 then c + 4 else 20) else if w = 3 then (if 0 < c % 4 then c - 1 else 20) else if w = 4 then (if c % 4 < 3 then c + 1 else 20) else 20
theorem nxt_prv : ∀ w, w < 5 → 0 < w → ∀ c, c < 20 → ∀ d, d < 20 → (nxt c w = d ↔ prv d w = c) := by decide +kernel
theorem nxt_le : ∀ w, w < 5 → ∀ c, c < 20 → nxt c w ≤ 20 ∧ (0 < w → nxt c w ≠ c) := by decide +kernel
theorem prv_le : ∀ w, w < 5 → ∀ c, c < 20 → prv c w ≤ 20 ∧ prv c w ≠ c := by decide +kernel
theorem sum_nxt (M : Nat → Nat) : ∀ w, w < 5 → 0 < w → sm (fun c => if prv c w < 20 then M (prv c w) else 0) 20 + sm (fun c => if nxt c w = 20 then M c else 0) 20 = sm M 20 := by
  intro w h1 h2
  rcases (show w = 1 ∨ w = 2 ∨ w = 3 ∨ w = 4 by omega) with rfl | rfl | rfl | rfl <;> (simp [sm, prv, nxt]; try omega)
/-- LIFE l drifts -/
def drift1 (w : Nat) (g : Nat → Nat) (l : Nat) : Nat → Nat := fun j =>
  if 43 + 20 * l ≤ j ∧ j < 43 + 20 * l + 20 then g j - mv (g (4 * l)) (g j) + (if prv (j - (43 + 20 * l)) w < 20 then mv (g (4 * l)) (g (43 + 20 * l + prv (j - (43 + 20 * l)) w)) else 0)
  else if j = 103 + l then g j + sm (fun c => if nxt c w = 20 then mv (g (4 * l)) (g (43 + 20 * l + c)) else 0) 20
  else g j
def driftA (w : Nat) (g : Nat → Nat) : Nat → Nat → Nat
  | 0 => g
  | l + 1 => drift1 w (driftA w g l) l
theorem drift1_c {w : Nat} {g : Nat → Nat} {l c : Nat} (hc : c < 20) : drift1 w g l (43 + 20 * l + c) = g (43 + 20 * l + c) - mv (g (4 * l)) (g (43 + 20 * l + c)) + (if prv c w < 20 then mv (g (4 * l)) (g (43 + 20 * l + prv c w)) else 0) := by
  unfold drift1
  rw [if_pos (by omega), show 43 + 20 * l + c - (43 + 20 * l) = c by omega]
theorem drift1_l {w : Nat} {g : Nat → Nat} {l : Nat} (hl : l < 3) : drift1 w g l (103 + l) = g (103 + l) + sm (fun c => if nxt c w = 20 then mv (g (4 * l)) (g (43 + 20 * l + c)) else 0) 20 := by
  unfold drift1
  rw [if_neg (by omega), if_pos rfl]
theorem drift1_o {w : Nat} {g : Nat → Nat} {l j : Nat} (h : j < 43 + 20 * l ∨ 43 + 20 * l + 20 ≤ j) (h2 : j ≠ 103 + l) : drift1 w g l j = g j := by
  unfold drift1
  rw [if_neg (by omega), if_neg h2]
theorem drift1_kp {w : Nat} {g : Nat → Nat} {l : Nat} (hl : l < 3) : Kp g (drift1 w g l) := fun j hj => drift1_o (by omega) (by omega)
theorem sm_addf (f g : Nat → Nat) : ∀ n, sm (fun k => f k + g k) n = sm f n + sm g n
  | 0 => rfl
  | n + 1 => by
    have := sm_addf f g n
    show sm _ n + (f n + g n) = sm f n + f n + (sm g n + g n)
    omega
theorem drift1_al {w : Nat} {g : Nat → Nat} {l : Nat} (hw : w < 5) (hw0 : 0 < w) : al (drift1 w g l) l + sm (fun c => if nxt c w = 20 then mv (g (4 * l)) (g (43 + 20 * l + c)) else 0) 20 = al g l := by
  have e1 : al (drift1 w g l) l = sm (fun c => (g (43 + 20 * l + c) - mv (g (4 * l)) (g (43 + 20 * l + c))) + (if prv c w < 20 then mv (g (4 * l)) (g (43 + 20 * l + prv c w)) else 0)) 20 := sm_cong (fun c hc => drift1_c hc)
  have e2 := sum_nxt (fun c => mv (g (4 * l)) (g (43 + 20 * l + c))) w hw hw0
  have e3 : al g l = sm (fun c => (g (43 + 20 * l + c) - mv (g (4 * l)) (g (43 + 20 * l + c))) + mv (g (4 * l)) (g (43 + 20 * l + c))) 20 := sm_cong (fun c hc => by have := mv_le (g (4 * l)) (g (43 + 20 * l + c)); omega)
  rw [sm_addf] at e1 e3
  rw [e1, e3, ← e2]
  omega
theorem drift1_tot {w : Nat} {g : Nat → Nat} {l k : Nat} (hw : w < 5) (hw0 : 0 < w) (hl : l < 3) (hk : k < 3) : tot (drift1 w g l) k = tot g k := by
  unfold tot
  rw [drift1_o (j := 4 * k + 3) (by omega) (by omega), hd_cong (g2 := drift1 w g l) (g := g) (fun i hi => drift1_o (by omega) (by omega))]
  by_cases h : k = l
  · subst h
    rw [drift1_l hl]
    have := drift1_al (g := g) (l := k) hw hw0
    omega
  · rw [drift1_o (j := 103 + k) (by omega) (by omega), al_cong (g2 := drift1 w g l) (g := g) (fun c hc => drift1_o (by omega) (by omega))]
theorem WF.drift1 {nl ns T : Nat} {g : Nat → Nat} (h : WF nl ns T g) {w l : Nat} (hw : w < 5) (hw0 : 0 < w) (hl : l < nl) : WF nl ns T (drift1 w g l) := by
  have h3 := h.1
  have h4 := h.2.1
  refine h.chg (drift1_kp (by omega)) (fun k hk => ?_) (fun k hk => drift1_tot hw hw0 (by omega) hk) (fun i k hi hk hn => ?_)
  · rw [drift1_o (by omega) (by omega)]; exact (h.2.2.2.1 k hk).2.2.2.2
  · rw [drift1_o (by omega) (by omega)]
theorem WF.driftA {nl ns T : Nat} {g : Nat → Nat} (h : WF nl ns T g) {w : Nat} (hw : w < 5) (hw0 : 0 < w) : ∀ {l : Nat}, l ≤ nl → WF nl ns T (driftA w g l)
  | 0, _ => h
  | l + 1, hl => (WF.driftA h hw hw0 (l := l) (by omega)).drift1 hw hw0 (by omega)
theorem driftA_kp {nl ns T : Nat} {g : Nat → Nat} (h : WF nl ns T g) {w : Nat} (hw : w < 5) (hw0 : 0 < w) : ∀ {l : Nat}, l ≤ nl → Kp g (driftA w g l)
  | 0, _ => Kp.rf
  | l + 1, hl => (driftA_kp h hw hw0 (l := l) (by omega)).tr (drift1_kp (by have := h.1; omega))
/-- the air of a STEP moves it -/
def blown (nl w : Nat) (g : Nat → Nat) : Nat → Nat := if w = 0 then g else driftA w g nl
theorem blown_WF {nl ns T : Nat} {g : Nat → Nat} (h : WF nl ns T g) {w : Nat} (hw : w < 5) : WF nl ns T (blown nl w g) := by
  unfold blown
  by_cases h0 : w = 0
  · rw [if_pos h0]; exact h
  · rw [if_neg h0]; exact h.driftA hw (by omega) (Nat.le_refl _)
theorem blown_kp {nl ns T : Nat} {g : Nat → Nat} (h : WF nl ns T g) {w : Nat} (hw : w < 5) : Kp g (blown nl w g) := by
  unfold blown
  by_cases h0 : w = 0
  · rw [if_pos h0]; exact Kp.rf
  · rw [if_neg h0]; exact driftA_kp h hw (by omega) (Nat.le_refl _)
/-- told and taken, ahead of the air -/
def tt (nl ns : Nat) (g : Nat → Nat) : Nat → Nat := takeS nl (told g nl) ns
theorem WF.tt {nl ns T : Nat} {g : Nat → Nat} (h : WF nl ns T g) : WF nl ns T (tt nl ns g) := (h.told (Nat.le_refl _)).takeS (Nat.le_refl _)
theorem tt_kp {nl ns T : Nat} {g : Nat → Nat} (h : WF nl ns T g) : Kp g (tt nl ns g) := (told_kp h (Nat.le_refl _)).tr (takeS_kp (h.told (Nat.le_refl _)) (Nat.le_refl _))
/-- a STEP by a WAY -/
def stp (nl ns w : Nat) (g : Nat → Nat) : Nat → Nat := up (blown nl w (tt nl ns g)) 42 (g 42 + 1)
def wy (g : Nat → Nat) : Nat := g (32 + g 42 % 6)
theorem wy_lt {nl ns T : Nat} {g : Nat → Nat} (h : WF nl ns T g) : wy g < 5 := by
  have := h.2.2.2.2.2.1 (g 42 % 6) (Nat.mod_lt _ (by decide))
  unfold wy
  omega
theorem tot_cong {g g2 : Nat → Nat} {l : Nat} (hl : l < 3) (h : ∀ j, j ≠ 42 → g2 j = g j) : tot g2 l = tot g l := by
  unfold tot
  rw [h (4 * l + 3) (by omega), h (103 + l) (by omega), al_cong (fun c hc => h _ (by omega)), hd_cong (fun i hi => h _ (by omega))]
theorem WF.step {nl ns T : Nat} {g : Nat → Nat} (h : WF nl ns T g) {v : Nat} (hv : v ≤ 2000) : WF nl ns T (up g 42 v) := by
  obtain ⟨h1, h2, h3, h4, h5, h6, h7, h8, h9, h10, h11⟩ := h
  refine ⟨h1, h2, h3, fun l hl => ?_, fun i hi => ?_, fun k hk => ?_, fun y hy => ?_, ?_, fun l hl => ?_, fun l hl hn => ?_, fun i l hi hl hn => ?_⟩
  · rw [up_o (by omega), up_o (by omega), up_o (by omega), up_o (by omega)]; exact h4 l hl
  · rw [up_o (by omega), up_o (by omega)]; exact h5 i hi
  · rw [up_o (by omega)]; exact h6 k hk
  · rw [up_o (by omega)]; exact h7 y hy
  · rw [up_k]; exact hv
  · rw [tot_cong hl (fun j hj => up_o hj)]; exact h9 l hl
  · rw [tot_cong hl (fun j hj => up_o hj)]; exact h10 l hl hn
  · rw [up_o (by omega)]; exact h11 i l hi hl hn
theorem WF.stp {nl ns T : Nat} {g : Nat → Nat} (h : WF nl ns T g) {w : Nat} (hw : w < 5) (h42 : g 42 < 2000) : WF nl ns T (stp nl ns w g) := (blown_WF h.tt hw).step (by omega)
/-- as Kp, the STEP too -/
theorem stp_kp {nl ns T : Nat} {g : Nat → Nat} (h : WF nl ns T g) {w : Nat} (hw : w < 5) {j : Nat} (hj : (j < 12 ∧ j % 4 ≠ 3) ∨ (12 ≤ j ∧ j < 20) ∨ (32 ≤ j ∧ j < 42) ∨ 106 ≤ j) : stp nl ns w g j = g j := by
  unfold stp
  rw [up_o (by omega), (tt_kp h).tr (blown_kp h.tt hw) j (by omega)]
theorem stp_42 {nl ns w : Nat} {g : Nat → Nat} : stp nl ns w g 42 = g 42 + 1 := up_k

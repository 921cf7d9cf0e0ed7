/-! the math of the room, flat as the reference has it: 4l+0..3 KIND AT PACE LEFT; 12+2i IN, 13+2i SLEEVE; 20+3i+l HAS; 32+k AIRS; 38+y PRICES; 42 STEP; 43+20l+c IN CELLS; 103+l LOST; 106 SEEN; 107.. what was SEEN -/
def al (g : Nat → Nat) (l : Nat) : Nat := sm (fun c => g (43 + 20 * l + c)) 20
def hd (g : Nat → Nat) (l : Nat) : Nat := sm (fun i => g (20 + 3 * i + l)) 4
def tot (g : Nat → Nat) (l : Nat) : Nat := g (4 * l + 3) + al g l + g (103 + l) + hd g l
/-- the state is as it must be; T bounds each LIFE's whole -/
def WF (nl ns T : Nat) (g : Nat → Nat) : Prop :=
  nl ≤ 3 ∧ ns ≤ 4 ∧ T ≤ 20000 ∧
  (∀ l, l < nl → g (4 * l) ≤ 3 ∧ g (4 * l + 1) < 20 ∧ 1 ≤ g (4 * l + 2) ∧ g (4 * l + 2) ≤ 9 ∧ g (4 * l + 3) ≤ 99) ∧
  (∀ i, i < ns → g (12 + 2 * i) < 20 ∧ g (13 + 2 * i) ≤ 9) ∧
  (∀ k, k < 6 → g (32 + k) ≤ 4) ∧ (∀ y, y < 4 → g (38 + y) ≤ 9) ∧ g 42 ≤ 2000 ∧
  (∀ l, l < 3 → tot g l ≤ T) ∧
  (∀ l, l < 3 → nl ≤ l → tot g l = 0) ∧
  (∀ i l, i < 4 → l < 3 → ns ≤ i → g (20 + 3 * i + l) = 0)
theorem WF.cell {nl ns T : Nat} {g : Nat → Nat} (h : WF nl ns T g) {l c : Nat} (hl : l < 3) (hc : c < 20) : g (43 + 20 * l + c) ≤ T := by
  have h1 := h.2.2.2.2.2.2.2.2.1 l hl
  have h2 : g (43 + 20 * l + c) ≤ al g l := sm_one (f := fun c => g (43 + 20 * l + c)) hc
  unfold tot at h1
  omega
theorem WF.cellj {nl ns T : Nat} {g : Nat → Nat} (h : WF nl ns T g) {j : Nat} (hj : j < 60) : g (43 + j) ≤ T := by
  have h1 := h.cell (l := j / 20) (c := j % 20) (by omega) (by omega)
  rwa [show 43 + 20 * (j / 20) + j % 20 = 43 + j by omega] at h1
theorem WF.al {nl ns T : Nat} {g : Nat → Nat} (h : WF nl ns T g) {l : Nat} (hl : l < 3) : al g l ≤ T := by
  have h1 := h.2.2.2.2.2.2.2.2.1 l hl
  unfold tot at h1
  omega
theorem WF.lost {nl ns T : Nat} {g : Nat → Nat} (h : WF nl ns T g) {l : Nat} (hl : l < 3) : g (103 + l) ≤ T := by
  have h1 := h.2.2.2.2.2.2.2.2.1 l hl
  unfold tot at h1
  omega
theorem WF.has {nl ns T : Nat} {g : Nat → Nat} (h : WF nl ns T g) {i l : Nat} (hi : i < 4) (hl : l < 3) : g (20 + 3 * i + l) ≤ T := by
  have h1 := h.2.2.2.2.2.2.2.2.1 l hl
  have h2 : g (20 + 3 * i + l) ≤ hd g l := sm_one (f := fun i => g (20 + 3 * i + l)) hi
  unfold tot at h1
  omega
theorem WF.hasj {nl ns T : Nat} {g : Nat → Nat} (h : WF nl ns T g) {j : Nat} (hj : j < 12) : g (20 + j) ≤ T := by
  have h1 := h.has (i := j / 3) (l := j % 3) (by omega) (by omega)
  rwa [show 20 + 3 * (j / 3) + j % 3 = 20 + j by omega] at h1
theorem WF.T {nl ns T : Nat} {g : Nat → Nat} (h : WF nl ns T g) : T ≤ 20000 := h.2.2.1
/-- a cell's number that is a Room's -/
def isR (r : Nat) : Prop := kd r = 2 ∧ lnI (r + 1) = 3 ∧ lnI (r + 2) = 3 ∧ lnI (r + 3) = 3 ∧ lnI (r + 4) = 3 ∧ lnI (r + 5) = 3 ∧ lnI (r + 6) = 3 ∧ lnI (r + 7) = 60 ∧ lnI (r + 8) = 4 ∧ lnI (r + 9) = 4 ∧ lnI (r + 10) = 12 ∧ lnI (r + 11) = 6 ∧ lnI (r + 12) = 4
/-- a Room of the class holds the state g -/
def RR (s : St) (r nl ns : Nat) (g : Nat → Nat) : Prop :=
  s.1 r 0 = nI nl ∧ s.1 r 1 = nI ns ∧ s.1 r 2 = nI (g 42) ∧
  (∀ l, l < nl → s.1 (r + 1) l = nI (g (4 * l)) ∧ s.1 (r + 2) l = nI (g (4 * l + 1)) ∧ s.1 (r + 3) l = nI (g (4 * l + 2)) ∧ s.1 (r + 4) l = nI (g (4 * l + 3))) ∧
  (∀ l, l < 3 → s.1 (r + 5) l = nI (g (103 + l)) ∧ s.1 (r + 6) l = nI (al g l)) ∧
  (∀ j, j < 60 → s.1 (r + 7) j = nI (g (43 + j))) ∧
  (∀ i, i < ns → s.1 (r + 8) i = nI (g (12 + 2 * i)) ∧ s.1 (r + 9) i = nI (g (13 + 2 * i))) ∧
  (∀ j, j < 12 → s.1 (r + 10) j = nI (g (20 + j))) ∧
  (∀ k, k < 6 → s.1 (r + 11) k = nI (g (32 + k))) ∧
  (∀ y, y < 4 → s.1 (r + 12) y = nI (g (38 + y)))
theorem b_isLife {s : St} {r nl ns : Nat} {g : Nat → Nat} (hr : isR r) (hR : RR s r nl ns g) (hn : nl ≤ 3) (a : Int32) : f_X2_isLife r a s = some (if 0 ≤ a.toInt ∧ a.toInt < nl then nI 1 else nI 0, s) := by
  unfold f_X2_isLife
  rw [if_pos hr.1, hR.1]
  by_cases h1 : a < 0
  · rw [if_pos h1, if_neg]
    have := Int32.lt_iff_toInt_lt.mp h1
    simp at this
    omega
  · rw [if_neg h1]
    obtain ⟨j, hj, rfl⟩ := nI_of h1
    rw [nI_toInt hj]
    by_cases h2 : nl ≤ j
    · rw [if_pos (nI_le h2 hj), if_neg (by omega)]
    · rw [if_neg (nI_ge (by omega) (by omega)), if_pos (by omega)]
theorem b_isSitter {s : St} {r nl ns : Nat} {g : Nat → Nat} (hr : isR r) (hR : RR s r nl ns g) (hn : ns ≤ 4) (a : Int32) : f_X2_isSitter r a s = some (if 0 ≤ a.toInt ∧ a.toInt < ns then nI 1 else nI 0, s) := by
  unfold f_X2_isSitter
  rw [if_pos hr.1, hR.2.1]
  by_cases h1 : a < 0
  · rw [if_pos h1, if_neg]
    have := Int32.lt_iff_toInt_lt.mp h1
    simp at this
    omega
  · rw [if_neg h1]
    obtain ⟨j, hj, rfl⟩ := nI_of h1
    rw [nI_toInt hj]
    by_cases h2 : ns ≤ j
    · rw [if_pos (nI_le h2 hj), if_neg (by omega)]
    · rw [if_neg (nI_ge (by omega) (by omega)), if_pos (by omega)]
theorem b_held {s : St} {r nl ns : Nat} {g : Nat → Nat} (hr : isR r) (hR : RR s r nl ns g) {i l : Nat} (hi : i < 4) (hl : l < 3) : f_X2_held r (nI i) (nI l) s = some (nI (g (20 + 3 * i + l)), s) := by
  unfold f_X2_held
  have e : nI i * nI 3 + nI l = nI (3 * i + l) := by rw [pk_mul, nI_add, Nat.mul_comm]
  rw [if_pos hr.1, e, hr.2.2.2.2.2.2.2.2.2.2.1, if_pos (inb_t (by omega) (by decide)), nI_clamp (by omega), hR.2.2.2.2.2.2.2.1 _ (by omega), show 20 + (3 * i + l) = 20 + 3 * i + l by omega]
theorem b_heldBy {s : St} {r nl ns : Nat} {g : Nat → Nat} (hr : isR r) (hR : RR s r nl ns g) (hn : nl ≤ 3) {i : Nat} (hi : i < 4) : f_X2_heldBy r (nI i) s = some (nI (sm (fun l => g (20 + 3 * i + l)) nl), s) := by
  unfold f_X2_heldBy
  refine lp_run (fun k => (nI (sm (fun l => g (20 + 3 * i + l)) k), nI k, s)) nl _ (fun k hk => ?_) ?_ rfl (Fu_lt (by omega))
  · dsimp only
    unfold f_X2_heldBy_L4
    rw [if_pos hr.1, hR.1, if_neg (nI_ge hk (by omega)), b_held hr hR hi (by omega), cl_s, bd_s, nI_add, nI_add]
    rfl
  · dsimp only
    unfold f_X2_heldBy_L4
    rw [if_pos hr.1, hR.1, if_pos (nI_le (Nat.le_refl _) (by omega))]
theorem b_heldOf {s : St} {r nl ns : Nat} {g : Nat → Nat} (hr : isR r) (hR : RR s r nl ns g) (hn : ns ≤ 4) {l : Nat} (hl : l < 3) : f_X2_heldOf r (nI l) s = some (nI (sm (fun i => g (20 + 3 * i + l)) ns), s) := by
  unfold f_X2_heldOf
  refine lp_run (fun k => (nI (sm (fun i => g (20 + 3 * i + l)) k), nI k, s)) ns _ (fun k hk => ?_) ?_ rfl (Fu_lt (by omega))
  · dsimp only
    unfold f_X2_heldOf_L4
    rw [if_pos hr.1, hR.2.1, if_neg (nI_ge hk (by omega)), b_held hr hR (by omega) hl, cl_s, bd_s, nI_add, nI_add]
    rfl
  · dsimp only
    unfold f_X2_heldOf_L4
    rw [if_pos hr.1, hR.2.1, if_pos (nI_le (Nat.le_refl _) (by omega))]
theorem b_heldByAll {s : St} {r nl ns : Nat} {g : Nat → Nat} (hr : isR r) (hR : RR s r nl ns g) (hn : nl ≤ 3) (hm : ns ≤ 4) : f_X2_heldByAll r s = some (nI (sm (fun i => sm (fun l => g (20 + 3 * i + l)) nl) ns), s) := by
  unfold f_X2_heldByAll
  refine lp_run (fun k => (nI (sm (fun i => sm (fun l => g (20 + 3 * i + l)) nl) k), nI k, s)) ns _ (fun k hk => ?_) ?_ rfl (Fu_lt (by omega))
  · dsimp only
    unfold f_X2_heldByAll_L4
    rw [if_pos hr.1, hR.2.1, if_neg (nI_ge hk (by omega)), b_heldBy hr hR hn (by omega), cl_s, bd_s, nI_add, nI_add]
    rfl
  · dsimp only
    unfold f_X2_heldByAll_L4
    rw [if_pos hr.1, hR.2.1, if_pos (nI_le (Nat.le_refl _) (by omega))]
theorem b_sumOfLives {s : St} {r nl ns : Nat} {g : Nat → Nat} (hr : isR r) (hR : RR s r nl ns g) (hn : nl ≤ 3) {a : Nat} (ha : lnI a = 3) {f : Nat → Nat} (hf : ∀ l, l < nl → s.1 a l = nI (f l)) : f_X2_sumOfLives r a s = some (nI (sm f nl), s) := by
  unfold f_X2_sumOfLives
  refine lp_run (fun k => (nI (sm f k), nI k, s)) nl _ (fun k hk => ?_) ?_ rfl (Fu_lt (by omega))
  · dsimp only
    unfold f_X2_sumOfLives_L4
    rw [if_pos hr.1, hR.1, if_neg (nI_ge hk (by omega)), ha, if_pos (inb_t (by omega) (by decide)), bd_s, nI_clamp (by omega), hf k hk, nI_add, nI_add]
    rfl
  · dsimp only
    unfold f_X2_sumOfLives_L4
    rw [if_pos hr.1, hR.1, if_pos (nI_le (Nat.le_refl _) (by omega))]
theorem b_isOver {s : St} {r nl ns T : Nat} {g : Nat → Nat} (hr : isR r) (hR : RR s r nl ns g) (hW : WF nl ns T g) : f_X2_isOver r s = some (if sm (al g) nl = 0 ∧ sm (fun l => g (4 * l + 3)) nl = 0 then nI 1 else nI 0, s) := by
  have hn := hW.1
  have hT := hW.T
  have hb1 : ∀ k, k ≤ 3 → sm (al g) k ≤ k * T := by
    intro k
    induction k with
    | zero => intro _; exact Nat.zero_le _
    | succ k ih =>
      intro hk
      have h1 := ih (by omega)
      have h2 := hW.al (l := k) (by omega)
      show sm (al g) k + al g k ≤ (k + 1) * T
      rw [Nat.succ_mul k T]
      omega
  have hb2 : ∀ k, k ≤ nl → sm (fun l => g (4 * l + 3)) k ≤ k * 99 := by
    intro k
    induction k with
    | zero => intro _; exact Nat.zero_le _
    | succ k ih =>
      intro hk
      have h1 := ih (by omega)
      have h2 := (hW.2.2.2.1 k (by omega)).2.2.2.2
      show sm (fun l => g (4 * l + 3)) k + g (4 * k + 3) ≤ (k + 1) * 99
      omega
  have c1 : sm (al g) nl ≤ 60000 := Nat.le_trans (hb1 nl hn) (Nat.le_trans (Nat.mul_le_mul hn hT) (by decide))
  have c2 : sm (fun l => g (4 * l + 3)) nl ≤ 297 := Nat.le_trans (hb2 nl (Nat.le_refl _)) (by omega)
  unfold f_X2_isOver
  rw [if_pos hr.1, b_sumOfLives hr hR hn hr.2.2.2.2.2.2.1 (f := al g) (fun l hl => (hR.2.2.2.2.1 l (by omega)).2), cl_s]
  by_cases h1 : sm (al g) nl = 0
  · rw [h1, if_neg (by simp [nI_0]), b_sumOfLives hr hR hn hr.2.2.2.2.1 (f := fun l => g (4 * l + 3)) (fun l hl => (hR.2.2.2.1 l hl).2.2.2), cl_s]
    by_cases h2 : sm (fun l => g (4 * l + 3)) nl = 0
    · rw [h2, if_neg (by simp [nI_0]), if_pos ⟨rfl, rfl⟩]
    · rw [if_pos (fun q => h2 ((nI_e0 (by omega)).mp q)), if_neg (fun q => h2 q.2)]
  · rw [if_pos (fun q => h1 ((nI_e0 (by omega)).mp q)), if_neg (fun q => h1 q.1)]
theorem b_wayNow {s : St} {r nl ns T : Nat} {g : Nat → Nat} (hr : isR r) (hR : RR s r nl ns g) (hW : WF nl ns T g) : f_X2_wayNow r s = some (nI (g (32 + g 42 % 6)), s) := by
  have h42 := hW.2.2.2.2.2.2.2.1
  unfold f_X2_wayNow
  rw [if_pos hr.1, hR.2.2.1, pk_rem (by omega) (by decide) (by decide), hr.2.2.2.2.2.2.2.2.2.2.2.1, if_pos (inb_t (Nat.mod_lt _ (by decide)) (by decide)), nI_clamp (by omega), hR.2.2.2.2.2.2.2.2.1 _ (Nat.mod_lt _ (by decide))]

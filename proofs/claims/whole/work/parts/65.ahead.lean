/-! one SITTER's takings -/
def hb (g : Nat → Nat) (i : Nat) : Nat := sm (fun l => g (20 + 3 * i + l)) 3
theorem hb_has {g g2 : Nat → Nat} (h : ∀ j, 20 ≤ j → j < 32 → g2 j = g j) {i : Nat} (hi : i < 4) : hb g2 i = hb g i := sm_cong (fun l hl => h _ (by omega) (by omega))
theorem take1_hb {q : Nat × (Nat → Nat)} {i l k : Nat} (hi : i < 4) (hl : l < 3) (hk : k < 4) (ha : q.2 (12 + 2 * i) < 20) : hb (take1 q i l).2 k + (if k = i then (take1 q i l).1 else 0) = hb q.2 k + (if k = i then q.1 else 0) := by
  obtain ⟨sl, g⟩ := q
  dsimp only at ha ⊢
  have e3 : (take1 (sl, g) i l).1 = sl - min sl (g (43 + 20 * l + g (12 + 2 * i))) := rfl
  have hm := Nat.min_le_left sl (g (43 + 20 * l + g (12 + 2 * i)))
  have h0 : ∀ v, hb (up g (43 + 20 * l + g (12 + 2 * i)) v) k = hb g k := fun v => sm_cong (fun x hx => up_o (by omega))
  by_cases e : k = i
  · subst e
    rw [if_pos rfl, if_pos rfl, e3]
    have h1 := sm_upF (g := up g (43 + 20 * l + g (12 + 2 * k)) (g (43 + 20 * l + g (12 + 2 * k)) - min sl (g (43 + 20 * l + g (12 + 2 * k))))) (k := 20 + 3 * k + l) (v := g (20 + 3 * k + l) + min sl (g (43 + 20 * l + g (12 + 2 * k)))) (F := fun x => 20 + 3 * k + x) (i0 := l) (n := 3) hl rfl (fun x _ hx => by omega)
    have h2 := h0 (g (43 + 20 * l + g (12 + 2 * k)) - min sl (g (43 + 20 * l + g (12 + 2 * k))))
    rw [up_o (j := 20 + 3 * k + l) (by omega)] at h1
    unfold hb at h2 ⊢
    unfold take1
    dsimp only
    omega
  · rw [if_neg e, if_neg e]
    have h2 := h0 (g (43 + 20 * l + g (12 + 2 * i)) - min sl (g (43 + 20 * l + g (12 + 2 * i))))
    unfold take1
    dsimp only
    have h1 : hb (up (up g (43 + 20 * l + g (12 + 2 * i)) (g (43 + 20 * l + g (12 + 2 * i)) - min sl (g (43 + 20 * l + g (12 + 2 * i))))) (20 + 3 * i + l) (g (20 + 3 * i + l) + min sl (g (43 + 20 * l + g (12 + 2 * i))))) k = hb (up g (43 + 20 * l + g (12 + 2 * i)) (g (43 + 20 * l + g (12 + 2 * i)) - min sl (g (43 + 20 * l + g (12 + 2 * i))))) k := sm_cong (fun x hx => up_o (by omega))
    omega
theorem takeL_hb {nl ns T : Nat} {q : Nat × (Nat → Nat)} (h : WF nl ns T q.2) {i k : Nat} (hi : i < ns) (hk : k < 4) : ∀ {l : Nat}, l ≤ nl → hb (takeL i q l).2 k + (if k = i then (takeL i q l).1 else 0) = hb q.2 k + (if k = i then q.1 else 0)
  | 0, _ => rfl
  | l + 1, hl => by
    have h1 := takeL_hb h hi hk (l := l) (by omega)
    have h2 := take1_hb (q := takeL i q l) (i := i) (l := l) (k := k) (by have := h.2.1; omega) (by have := h.1; omega) hk ((h.takeL hi (l := l) (by omega)).2.2.2.2.1 i hi).1
    show hb (take1 (takeL i q l) i l).2 k + (if k = i then (take1 (takeL i q l) i l).1 else 0) = _
    omega
theorem takeS_hb {nl ns T : Nat} {g : Nat → Nat} (h : WF nl ns T g) {k : Nat} (hk : k < 4) : ∀ {i : Nat}, i ≤ ns → hb (takeS nl g i) k = hb g k + (if k < i then tkn nl g k else 0)
  | 0, _ => rfl
  | i + 1, hi => by
    have h1 := takeS_hb h hk (i := i) (by omega)
    have h2 := takeL_hb (q := (takeS nl g i (13 + 2 * i), takeS nl g i)) (h.takeS (i := i) (by omega)) (i := i) (by omega) hk (l := nl) (Nat.le_refl _)
    have h3 := takeL_le (q := (takeS nl g i (13 + 2 * i), takeS nl g i)) (i := i) (l := nl)
    dsimp only at h2 h3
    show hb (takeL i (takeS nl g i (13 + 2 * i), takeS nl g i) nl).2 k = _
    by_cases e : k = i
    · subst e
      rw [if_pos rfl, if_pos rfl] at h2
      rw [if_neg (by omega)] at h1
      rw [if_pos (by omega)]
      unfold tkn
      omega
    · rw [if_neg e, if_neg e] at h2
      by_cases e2 : k < i
      · rw [if_pos e2] at h1; rw [if_pos (by omega)]; omega
      · rw [if_neg e2] at h1; rw [if_neg (by omega)]; omega
/-- what SITTER i takes in a STEP -/
def tki (nl : Nat) (g : Nat → Nat) (i : Nat) : Nat := tkn nl (told g nl) i
theorem tki_le {nl ns T : Nat} {g : Nat → Nat} (h : WF nl ns T g) {i : Nat} (hi : i < ns) : tki nl g i ≤ 9 := by
  have h1 := ((h.told (l := nl) (Nat.le_refl _)).takeS (i := i) (by omega)).2.2.2.2.1 i hi
  unfold tki tkn
  omega
theorem tt_hb {nl ns T : Nat} {g : Nat → Nat} (h : WF nl ns T g) {i : Nat} (hi : i < ns) : hb (tt nl ns g) i = hb g i + tki nl g i := by
  have hm := h.2.1
  unfold tt tki
  rw [takeS_hb (h.told (Nat.le_refl _)) (by omega) (Nat.le_refl _), if_pos hi, hb_has (told_has h (Nat.le_refl _)) (by omega)]
theorem stp_hb {nl ns T w : Nat} {g : Nat → Nat} (h : WF nl ns T g) {i : Nat} (hi : i < ns) : hb (stp nl ns w g) i = hb g i + tki nl g i := by
  have hm := h.2.1
  rw [hb_has (stp_has h.1) (by omega), tt_hb h hi]
theorem stn_hb {nl ns T : Nat} {g : Nat → Nat} (h : WF nl ns T g) {i : Nat} (hi : i < ns) : ∀ {k : Nat}, g 42 + k ≤ 2000 → hb (stn nl ns g k) i = hb g i + sm (fun j => tki nl (stn nl ns g j) i) k
  | 0, _ => rfl
  | k + 1, hk => by
    have h1 := stn_hb h hi (k := k) (by omega)
    have h2 := stp_hb (w := wy (stn nl ns g k)) (stn_WF h (k := k) (by omega)).1 hi
    show hb (stp nl ns (wy (stn nl ns g k)) (stn nl ns g k)) i = hb g i + (sm (fun j => tki nl (stn nl ns g j) i) k + tki nl (stn nl ns g k) i)
    omega
theorem stn_hb9 {nl ns T : Nat} {g : Nat → Nat} (h : WF nl ns T g) {i : Nat} (hi : i < ns) {k : Nat} (hk : g 42 + k ≤ 2000) : hb g i ≤ hb (stn nl ns g k) i ∧ hb (stn nl ns g k) i ≤ hb g i + 9 * k := by
  rw [stn_hb h hi hk]
  have : ∀ j, j ≤ k → sm (fun j => tki nl (stn nl ns g j) i) j ≤ 9 * j := by
    intro j
    induction j with
    | zero => intro _; exact Nat.zero_le _
    | succ j ih =>
      intro hj
      have h1 := ih (by omega)
      have h2 := tki_le (stn_WF h (k := j) (by omega)).1 hi
      show sm (fun j => tki nl (stn nl ns g j) i) j + tki nl (stn nl ns g j) i ≤ 9 * (j + 1)
      omega
  have := this k (Nat.le_refl _)
  omega
theorem hb_le {nl ns T : Nat} {g : Nat → Nat} (h : WF nl ns T g) {i : Nat} (hi : i < 4) : hb g i ≤ 60000 := by
  have hT := h.T
  have h0 := h.has (i := i) (l := 0) hi (by decide)
  have h1 := h.has (i := i) (l := 1) hi (by decide)
  have h2 := h.has (i := i) (l := 2) hi (by decide)
  simp only [hb, sm]
  omega
theorem b_hb {s : St} {r nl ns T : Nat} {g : Nat → Nat} (hr : isR r) (hR : RR s r nl ns g) (hW : WF nl ns T g) {i : Nat} (hi : i < 4) : f_X2_heldBy r (nI i) s = some (nI (hb g i), s) := by
  rw [b_heldBy hr hR hW.1 hi, wf_shb hW hi]
  rfl
theorem b7_hb {s : St} {nl ns : Nat} {g : Nat → Nat} (hR : NR s nl ns g) {i : Nat} (hi : i < 4) : f_X7_hadBy (nI i) s = some (nI (hb g i), s) := b7_hadBy hR hi
theorem b_hA {s : St} {r nl ns T : Nat} {g : Nat → Nat} (hr : isR r) (hR : RR s r nl ns g) (hW : WF nl ns T g) : f_X2_heldByAll r s = some (nI (sm (hd g) 3), s) := by
  rw [b_heldByAll hr hR hW.1 hW.2.1, wf_sha hW]
/-- a try: the trial room is as now is, but for one number; then STEPS -/
theorem c_copy {n nl ns : Nat} {s : St} {g : Nat → Nat} (hG : Gd n s nl ns g) {s1 : St} (hS : Sm s s1 14 13) : ∃ s2, f_X2_copyOf 14 1 s1 = some ((), s2) ∧ RR s2 14 nl ns g ∧ Sm s s2 14 13 := by
  obtain ⟨s2, a1, a2, a3⟩ := b_copyOf (s := s1) isR14 isR1 (by omega) hG.2.1.1 hG.2.1.2.1 (hG.1.sm hS (by omega))
  exact ⟨s2, a1, a2, hS.tr a3⟩
theorem r_start {n nl ns : Nat} {s : St} {g : Nat → Nat} (hG : Gd n s nl ns g) {s1 : St} (hS : Sn s s1) : ∃ s2, f_X7_starts s1 = some ((), s2) ∧ NR s2 nl ns g ∧ Sn s s2 := by
  obtain ⟨s2, a1, a2, a3⟩ := b7_starts (s := s1) (nl := nl) (ns := ns) (g := g) (by rw [hS.1 189 (by decide) (by decide)]; exact hG.2.2.2.2.2.1) (by rw [hS.1 189 (by decide) (by decide)]; exact hG.2.2.2.2.2.2.1) (by rw [hS.1 190 (by decide) (by decide)]; exact hG.2.2.2.2.2.2.2.1)
  exact ⟨s2, a1, a2, hS.tr a3⟩
theorem c_sit {n nl ns : Nat} {s : St} {g : Nat → Nat} (hG : Gd n s nl ns g) {s1 : St} (hS : Sm s s1 14 13) {i c k : Nat} (hi : i < ns) (hc : c < 20) (hk : k ≤ 60) : ∃ s2, f_X6_sitThere (nI i) (nI c) (nI k) s1 = some ((), s2) ∧ RR s2 14 nl ns (stn nl ns (up g (12 + 2 * i) c) k) ∧ Sm s s2 14 13 := by
  have hns := hG.2.1.2.1
  obtain ⟨s2, a1, a2, a3⟩ := c_copy hG hS
  have hR : RR (wI s2 22 i (nI c)) 14 nl ns (up g (12 + 2 * i) c) := rr_place a2 hG.2.1.1 hns hi
  have h42 : up g (12 + 2 * i) c 42 ≤ 999 := by rw [up_o (by omega)]; exact hG.2.2.1
  obtain ⟨s3, b1, b2, b3⟩ := b_goOn (n := k) isR14 hR (wf_place hG.2.1 hi hc) (by omega) (by omega)
  refine ⟨s3, ?_, b2, (a3.tr (Sm.wi (by omega) (by omega))).tr b3⟩
  unfold f_X6_sitThere
  rw [a1, cl_s, if_pos (ib4 (by decide) (by omega)), bd_s, nI_clamp (by omega), b1, cl_s]
theorem r_sit {n nl ns : Nat} {s : St} {g : Nat → Nat} (hG : Gd n s nl ns g) {s1 : St} (hS : Sn s s1) {i l c k : Nat} (hi : i < ns) (hl : l < 3) (hc : c < 20) (hk : k ≤ 60) : ∃ s2, f_X7_hasIn (nI i) (nI l) (nI c) (nI k) s1 = some (nI (stn nl ns (up g (12 + 2 * i) c) k (20 + 3 * i + l)), s2) ∧ NR s2 nl ns (stn nl ns (up g (12 + 2 * i) c) k) ∧ Sn s s2 := by
  have hns := hG.2.1.2.1
  obtain ⟨s2, a1, a2, a3⟩ := r_start hG hS
  have h42 : up g (12 + 2 * i) c 42 ≤ 999 := by rw [up_o (by omega)]; exact hG.2.2.1
  obtain ⟨s3, b1, b2, b3⟩ := b7_stepsGo (n := k) (a2.wi (k := 12 + 2 * i) (v := c)) (wf_place hG.2.1 hi hc) (by omega) (by omega)
  refine ⟨s3, ?_, b2, (a3.tr Sn.wi).tr b3⟩
  unfold f_X7_hasIn
  simp only [pk_mul, nI_add]
  rw [a1, cl_s, if_pos (ib191 (by omega)), bd_s, nI_clamp (by omega), b1, cl_s, if_pos (ib191 (by omega)), nI_clamp (by omega), b2.2.2 _ (by omega)]
theorem op_ahead : Op3 f_X6_ahead f_X7_ahead Good := by
  intro n s a b c hn hG
  obtain ⟨-, nl, ns, g, hG⟩ := hG
  have hnl := hG.2.1.1
  have hns := hG.2.1.2.1
  have h42 := hG.2.2.1
  rcases rng a ns with ⟨i, hi, hi2, rfl⟩ | ha
  · rcases rng b nl with ⟨l, hl, hl2, rfl⟩ | hb
    · rcases rng c (60 + 1) with ⟨k, hk, hk2, rfl⟩ | hc
      · refine qy (nI (stn nl ns g k (20 + 3 * i + l))) hn hG ?_ (fun s' h' => ?_)
        · obtain ⟨s1, a1, a2, a3⟩ := c_copy hG Sm.rf
          obtain ⟨s2, b1, b2, b3⟩ := b_goOn (n := k) isR14 a2 hG.2.1 (by omega) (by omega)
          refine ⟨s2, ?_, (a3.tr b3).qf⟩
          unfold f_X6_ahead
          rw [g_sit isR1 hG.1 hns hi, cl_s, if1', g_life isR1 hG.1 hnl hl, cl_s, if1', g_win (by omega) (by decide), cl_s, if1, a1, cl_s, b1, cl_s, b_held isR14 b2 (by omega) (by omega), cl_s]
        · obtain ⟨s1, a1, a2, a3⟩ := r_start h' Sn.rf
          obtain ⟨s2, b1, b2, b3⟩ := b7_stepsGo (n := k) a2 h'.2.1 (by omega) (by omega)
          refine ⟨s2, ?_, (a3.tr b3).qf⟩
          unfold f_X7_ahead
          simp only [pk_mul, nI_add]
          rw [g7_sit h'.2.2.2.2.2.2.1 hns hi, cl_s, if1', g7_life h'.2.2.2.2.2.1 hnl hl, cl_s, if1', g7_far (by omega), cl_s, if1, a1, cl_s, b1, cl_s, if_pos (ib191 (by omega)), nI_clamp (by omega), b2.2.2 _ (by omega)]
      · refine qs (-1) hn hG ?_ ?_
        · unfold f_X6_ahead
          rw [g_sit isR1 hG.1 hns hi, cl_s, if1', g_life isR1 hG.1 hnl hl, cl_s, if1', g_win_n hc (by decide), cl_s, if0]
        · unfold f_X7_ahead
          rw [g7_sit hG.2.2.2.2.2.2.1 hns hi, cl_s, if1', g7_life hG.2.2.2.2.2.1 hnl hl, cl_s, if1', g7_far_n hc, cl_s, if0]
    · refine qs (-1) hn hG ?_ ?_
      · unfold f_X6_ahead
        rw [g_sit isR1 hG.1 hns hi, cl_s, if1', g_life_n isR1 hG.1 hnl hb, cl_s, if0']
      · unfold f_X7_ahead
        rw [g7_sit hG.2.2.2.2.2.2.1 hns hi, cl_s, if1', g7_life_n hG.2.2.2.2.2.1 hnl hb, cl_s, if0']
  · refine qs (-1) hn hG ?_ ?_
    · unfold f_X6_ahead
      rw [g_sit_n isR1 hG.1 hns ha, cl_s, if0']
    · unfold f_X7_ahead
      rw [g7_sit_n hG.2.2.2.2.2.2.1 hns ha, cl_s, if0']
/-- the first of 1 to n at which p holds; 0: none -/
def fst1 (p : Nat → Bool) : Nat → Nat
  | 0 => 0
  | k + 1 => if fst1 p k = 0 then (if p (k + 1) = true then k + 1 else 0) else fst1 p k
def fv (p : Nat → Bool) (n : Nat) : Int32 := if fst1 p n = 0 then -4 else nI (fst1 p n)
theorem fst1_le {p : Nat → Bool} : ∀ {n : Nat}, fst1 p n ≤ n
  | 0 => Nat.le_refl _
  | k + 1 => by
    have := fst1_le (p := p) (n := k)
    unfold fst1
    by_cases h : fst1 p k = 0
    · rw [if_pos h]
      by_cases h2 : p (k + 1) = true
      · rw [if_pos h2]; exact Nat.le_refl _
      · rw [if_neg h2]; omega
    · rw [if_neg h]; omega
theorem fst1_stay {p : Nat → Bool} {k : Nat} (h : fst1 p k ≠ 0) : ∀ {n : Nat}, k ≤ n → fst1 p n = fst1 p k
  | 0, hn => by rw [show k = 0 by omega]
  | n + 1, hn => by
    by_cases e : k = n + 1
    · rw [e]
    · have := fst1_stay h (n := n) (by omega)
      show (if fst1 p n = 0 then _ else fst1 p n) = _
      rw [this, if_neg h]
theorem fst1_hit {p : Nat → Bool} {k n : Nat} (h0 : fst1 p k = 0) (h : p (k + 1) = true) (hn : k + 1 ≤ n) : fst1 p n = k + 1 := by
  have e : fst1 p (k + 1) = k + 1 := by
    show (if fst1 p k = 0 then _ else _) = _
    rw [if_pos h0, if_pos h]
  rw [fst1_stay (by omega) hn, e]
theorem fst1_miss {p : Nat → Bool} {k : Nat} (h0 : fst1 p k = 0) (h : ¬ p (k + 1) = true) : fst1 p (k + 1) = 0 := by
  show (if fst1 p k = 0 then _ else _) = _
  rw [if_pos h0, if_neg h]
/-- the first STEP in which SITTERS take -/
def tkp (nl ns : Nat) (g : Nat → Nat) (k : Nat) : Bool := decide (0 < tks nl ns g k)
theorem tks_le {nl ns T : Nat} {g : Nat → Nat} (h : WF nl ns T g) {k : Nat} (hk : g 42 + k ≤ 2000) : tks nl ns g k ≤ 60000 := by
  have h1 := stn_hd h hk
  have h2 := (wf_big (stn_WF h hk).1).1
  omega
theorem tks1 {nl ns : Nat} {g : Nat → Nat} {k : Nat} : tks nl ns (stn nl ns g k) 1 = tk nl ns (stn nl ns g k) := by
  unfold tks
  simp only [sm, stn, Nat.zero_add]
theorem b_go1 {s : St} {r nl ns T k : Nat} {g : Nat → Nat} (hr : isR r) (hW : WF nl ns T g) (hR : RR s r nl ns (stn nl ns g k)) (hk : g 42 + k + 1 ≤ 2000) : ∃ s2, f_X2_goOn r (nI 1) s = some (nI (tk nl ns (stn nl ns g k)), s2) ∧ RR s2 r nl ns (stn nl ns g (k + 1)) ∧ Sm s s2 r 13 := by
  obtain ⟨w1, w2⟩ := stn_WF hW (k := k) (by omega)
  obtain ⟨s2, a1, a2, a3⟩ := b_goOn (n := 1) hr hR w1 (by omega) (by decide)
  rw [tks1] at a1
  rw [← stn_add] at a2
  exact ⟨s2, a1, a2, a3⟩
theorem c_first {n nl ns k : Nat} {s s1 : St} {g : Nat → Nat} (hG : Gd n s nl ns g) (hk : k ≤ 60) (hR : RR s1 14 nl ns g) (hS : Sm s s1 14 13) : ∃ s2, f_X6_firstTaking (nI k) s1 = some (fv (tkp nl ns g) k, s2) ∧ Sm s s2 14 13 := by
  have h42 := hG.2.2.1
  unfold f_X6_firstTaking
  obtain ⟨t, h1, h2⟩ := lp_brk (body := fun q : Int32 × St => f_X6_firstTaking_L2 (nI k) q.1 q.2) (fun j q => q.1 = nI (j + 1) ∧ RR q.2 14 nl ns (stn nl ns g j) ∧ Sm s q.2 14 13 ∧ fst1 (tkp nl ns g) j = 0 ∧ tks nl ns g j = 0) (fun t => t.1 = fv (tkp nl ns g) k ∧ Sm s t.2 14 13) k (fun j q hj hq => by
    obtain ⟨x, s3⟩ := q
    obtain ⟨q1, q2, q3, q4, q5⟩ := hq
    dsimp only at q1 q2 q3 q4 q5 ⊢
    subst q1
    obtain ⟨s4, a1, a2, a3⟩ := b_go1 isR14 hG.2.1 q2 (by omega)
    have e1 : tks nl ns g (j + 1) = tk nl ns (stn nl ns g j) := by
      show tks nl ns g j + tk nl ns (stn nl ns g j) = _
      omega
    have hb := tks_le hG.2.1 (k := j + 1) (by omega)
    unfold f_X6_firstTaking_L2
    rw [if_neg (nI_nlt (by omega) (by omega)), a1, cl_s]
    by_cases h0 : tk nl ns (stn nl ns g j) = 0
    · left
      rw [if_pos ((nI_le0 (by omega)).mpr h0), nI_add]
      exact ⟨_, rfl, rfl, a2, q3.tr a3, fst1_miss q4 (by unfold tkp; rw [e1, h0]; decide), by rw [e1]; exact h0⟩
    · right
      rw [if_neg (fun q => h0 ((nI_le0 (by omega)).mp q))]
      refine ⟨_, rfl, ?_, q3.tr a3⟩
      unfold fv
      rw [fst1_hit q4 (by unfold tkp; rw [e1]; simp; omega) (by omega), if_neg (by omega)]) (fun q hq => by
    obtain ⟨x, s3⟩ := q
    obtain ⟨q1, q2, q3, q4, q5⟩ := hq
    dsimp only at q1 q2 q3 q4 q5 ⊢
    subst q1
    unfold f_X6_firstTaking_L2
    rw [if_pos (nI_lt (by omega) (by omega))]
    refine ⟨_, rfl, ?_, q3⟩
    unfold fv
    rw [if_pos q4]) (q := (nI 1, s1)) ⟨rfl, hR, hS, rfl, rfl⟩ (Fu_lt (by omega))
  obtain ⟨x, s2⟩ := t
  obtain ⟨rfl, h3⟩ := h2
  exact ⟨s2, h1, h3⟩
theorem r_runs {n nl ns k : Nat} {s : St} {g : Nat → Nat} {w v : Int32} (hG : Gd n s nl ns g) (hk : k ≤ 60) (hv : ∀ s2, NR s2 nl ns (stn nl ns g k) → f_X7_runs_L37 (nI k) w (nI (sm (hd g) 3)) (fv (tkp nl ns g) k) (nI (k + 1)) s2 = some (Sum.inr (v, s2))) (hw : ∃ m : Nat, m ≤ 3 ∧ w = nI m) : ∃ s2, f_X7_runs (nI k) w s = some (v, s2) ∧ Sn s s2 := by
  have h42 := hG.2.2.1
  obtain ⟨m, hm, rfl⟩ := hw
  obtain ⟨s1, a1, a2, a3⟩ := r_start hG Sn.rf
  have hbig := (wf_big hG.2.1).1
  obtain ⟨t, h1, h2⟩ := lp_inv (body := fun q : Int32 × Int32 × St => f_X7_runs_L37 (nI k) (nI m) (nI (sm (hd g) 3)) q.1 q.2.1 q.2.2) (fun j q => q.1 = fv (tkp nl ns g) j ∧ q.2.1 = nI (j + 1) ∧ NR q.2.2 nl ns (stn nl ns g j) ∧ Sn s q.2.2) (fun t => t.1 = v ∧ Sn s t.2) k (fun j q hj hq => by
    obtain ⟨x, y, s3⟩ := q
    obtain ⟨q1, q2, q3, q4⟩ := hq
    dsimp only at q1 q2 q3 q4 ⊢
    subst q1; subst q2
    obtain ⟨w1, w2⟩ := stn_WF hG.2.1 (k := j) (by omega)
    obtain ⟨s4, b1, b2, b3⟩ := b7_step q3 w1
    have hle := fst1_le (p := tkp nl ns g) (n := j)
    unfold f_X7_runs_L37
    rw [if_neg (nI_nlt (by omega) (by omega)), b1, cl_s]
    by_cases h0 : fst1 (tkp nl ns g) j = 0
    · have ef : fv (tkp nl ns g) j = -4 := by unfold fv; rw [if_pos h0]
      have hh := stn_hd hG.2.1 (k := j + 1) (by omega)
      have hb := tks_le hG.2.1 (k := j + 1) (by omega)
      rw [ef, if_neg (fun q => q rfl), b7_allHad b2, cl_s]
      change ∃ q2, (if nI (sm (hd (stn nl ns g (j + 1))) 3) ≤ _ then _ else _) = _ ∧ _
      rw [hh, nI_add]
      by_cases ht : 0 < tks nl ns g (j + 1)
      · rw [if_neg (nI_ge (by omega) (by omega))]
        refine ⟨_, rfl, ?_, rfl, b2, q4.tr b3⟩
        unfold fv
        rw [fst1_hit h0 (by unfold tkp; simp; omega) (Nat.le_refl _), if_neg (by omega)]
      · rw [if_pos (nI_le (by omega) (by omega))]
        refine ⟨_, rfl, ?_, rfl, b2, q4.tr b3⟩
        unfold fv
        rw [fst1_miss h0 (by unfold tkp; simp; omega), if_pos rfl]
    · have e4 : ¬ fv (tkp nl ns g) j = -4 := by
        unfold fv
        rw [if_neg h0]
        intro q
        have h5 := congrArg Int32.toInt q
        rw [nI_toInt (by omega), show (-4 : Int32).toInt = -4 by decide] at h5
        omega
      rw [if_pos e4, nI_add]
      refine ⟨_, rfl, ?_, rfl, b2, q4.tr b3⟩
      unfold fv
      rw [fst1_stay h0 (n := j + 1) (by omega)]) (fun q hq => by
    obtain ⟨x, y, s3⟩ := q
    obtain ⟨q1, q2, q3, q4⟩ := hq
    dsimp only at q1 q2 q3 q4 ⊢
    subst q1; subst q2
    exact ⟨_, hv s3 q3, rfl, q4⟩) (q := (-4, nI 1, s1)) ⟨rfl, rfl, a2, a3⟩ (Fu_lt (by omega))
  obtain ⟨x, s2⟩ := t
  obtain ⟨rfl, h3⟩ := h2
  refine ⟨s2, ?_, h3⟩
  unfold f_X7_runs
  rw [g7_far hk, cl_s, if1', g7_win hm (by decide), cl_s, if1, a1, cl_s, b7_allHad a2, cl_s, h1]
theorem op_runs : Op2 f_X6_runs f_X7_runs Good := by
  intro n s a b hn hG
  obtain ⟨-, nl, ns, g, hG⟩ := hG
  have hnl := hG.2.1.1
  have hns := hG.2.1.2.1
  have h42 := hG.2.2.1
  rcases rng a (60 + 1) with ⟨k, hk, hk2, rfl⟩ | ha
  · rcases rng b (3 + 1) with ⟨m, hm, hm2, rfl⟩ | hb
    · obtain ⟨s1, a1, a2, a3⟩ := c_copy hG Sm.rf
      obtain ⟨s2, b1, b2, b3⟩ := b_goOn (n := k) isR14 a2 hG.2.1 (by omega) (by omega)
      obtain ⟨s3, c1, c2⟩ := c_first hG (show k ≤ 60 by omega) a2 a3
      obtain ⟨w1, w2⟩ := stn_WF hG.2.1 (k := k) (by omega)
      have hlt : nI k < nI (k + 1) := nI_lt (by omega) (by omega)
      rcases (show m = 0 ∨ m = 1 ∨ m = 2 ∨ m = 3 by omega) with rfl | rfl | rfl | rfl
      · refine qy (nI (sm (hd (stn nl ns g k)) 3)) hn hG ⟨s2, ?_, (a3.tr b3).qf⟩ (fun s' h' => ?_)
        · unfold f_X6_runs
          rw [g_win (by omega) (by decide), cl_s, if1', g_win (by omega) (by decide), cl_s, if1, a1, cl_s, if_pos (by decide), b1, cl_s, if0, b_hA isR14 b2 w1, cl_s]
        · obtain ⟨s4, d1, d2⟩ := r_runs h' (show k ≤ 60 by omega) (w := nI 0) (v := nI (sm (hd (stn nl ns g k)) 3)) (fun s2 q => by unfold f_X7_runs_L37; rw [if_pos hlt, if0, b7_allHad q, cl_s]) ⟨0, by omega, rfl⟩
          exact ⟨s4, d1, d2.qf⟩
      · refine qy (nI (sm (fun l => stn nl ns g k (103 + l)) 3)) hn hG ⟨s2, ?_, (a3.tr b3).qf⟩ (fun s' h' => ?_)
        · unfold f_X6_runs
          rw [g_win (by omega) (by decide), cl_s, if1', g_win (by omega) (by decide), cl_s, if1, a1, cl_s, if_pos (by decide), b1, cl_s, if1, if_neg (fun q => q rfl), b_sumOfLives isR14 b2 hnl (by decide) (f := fun l => stn nl ns g k (103 + l)) (fun l hl => (b2.2.2.2.2.1 l (by omega)).1), cl_s, wf_slo w1]
        · obtain ⟨s4, d1, d2⟩ := r_runs h' (show k ≤ 60 by omega) (w := nI 1) (v := nI (sm (fun l => stn nl ns g k (103 + l)) 3)) (fun s2 q => by unfold f_X7_runs_L37; rw [if_pos hlt, if1, if_neg (fun q => q rfl), b7_allLost q, cl_s]) ⟨1, by omega, rfl⟩
          exact ⟨s4, d1, d2.qf⟩
      · refine qy (nI (sm (al (stn nl ns g k)) 3)) hn hG ⟨s2, ?_, (a3.tr b3).qf⟩ (fun s' h' => ?_)
        · unfold f_X6_runs
          rw [g_win (by omega) (by decide), cl_s, if1', g_win (by omega) (by decide), cl_s, if1, a1, cl_s, if_pos (by decide), b1, cl_s, if_pos (by decide), if_pos (by decide), b_sumOfLives isR14 b2 hnl (by decide) (f := al (stn nl ns g k)) (fun l hl => (b2.2.2.2.2.1 l (by omega)).2), cl_s, wf_sal w1]
        · obtain ⟨s4, d1, d2⟩ := r_runs h' (show k ≤ 60 by omega) (w := nI 2) (v := nI (sm (al (stn nl ns g k)) 3)) (fun s2 q => by unfold f_X7_runs_L37; rw [if_pos hlt, if_pos (by decide), if_pos (by decide), if_neg (fun q => q rfl), b7_allIn q, cl_s]) ⟨2, by omega, rfl⟩
          exact ⟨s4, d1, d2.qf⟩
      · refine qy (fv (tkp nl ns g) k) hn hG ⟨s3, ?_, c2.qf⟩ (fun s' h' => ?_)
        · unfold f_X6_runs
          rw [g_win (by omega) (by decide), cl_s, if1', g_win (by omega) (by decide), cl_s, if1, a1, cl_s, if_neg (fun q => q rfl), c1, cl_s]
        · obtain ⟨s4, d1, d2⟩ := r_runs h' (show k ≤ 60 by omega) (w := nI 3) (v := fv (tkp nl ns g) k) (fun s2 q => by unfold f_X7_runs_L37; rw [if_pos hlt, if_pos (by decide), if_pos (by decide), if_pos (by decide)]) ⟨3, by omega, rfl⟩
          exact ⟨s4, d1, d2.qf⟩
    · refine qs (-1) hn hG ?_ ?_
      · unfold f_X6_runs
        rw [g_win (by omega) (by decide), cl_s, if1', g_win_n hb (by decide), cl_s, if0]
      · unfold f_X7_runs
        rw [g7_far (by omega), cl_s, if1', g7_win_n hb (by decide), cl_s, if0]
  · refine qs (-1) hn hG ?_ ?_
    · unfold f_X6_runs
      rw [g_win_n ha (by decide), cl_s, if0']
    · unfold f_X7_runs
      rw [g7_far_n ha, cl_s, if0']

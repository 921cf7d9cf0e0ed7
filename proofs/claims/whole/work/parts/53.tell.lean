theorem RR.chg {s s2 : St} {r nl ns : Nat} {g g2 : Nat → Nat} (h : RR s r nl ns g) (hn : nl ≤ 3) (hm : ns ≤ 4) (hk : Kp g g2) (h0 : s2.1 r = s.1 r) (h1 : s2.1 (r + 1) = s.1 (r + 1)) (h2 : s2.1 (r + 2) = s.1 (r + 2)) (h3 : s2.1 (r + 3) = s.1 (r + 3)) (h8 : s2.1 (r + 8) = s.1 (r + 8)) (h9 : s2.1 (r + 9) = s.1 (r + 9)) (h11 : s2.1 (r + 11) = s.1 (r + 11)) (h12 : s2.1 (r + 12) = s.1 (r + 12))
    (hl : ∀ l, l < nl → s2.1 (r + 4) l = nI (g2 (4 * l + 3))) (ho : ∀ l, l < 3 → s2.1 (r + 5) l = nI (g2 (103 + l)) ∧ s2.1 (r + 6) l = nI (al g2 l)) (hc : ∀ j, j < 60 → s2.1 (r + 7) j = nI (g2 (43 + j))) (hh : ∀ j, j < 12 → s2.1 (r + 10) j = nI (g2 (20 + j))) : RR s2 r nl ns g2 := by
  obtain ⟨q0, q1, q2, q3, q4, q5, q6, q7, q8, q9⟩ := h
  refine ⟨by rw [h0]; exact q0, by rw [h0]; exact q1, by rw [h0, hk 42 (by omega)]; exact q2, fun l hl2 => ?_, ho, hc, fun i hi => ?_, hh, fun k hk2 => ?_, fun y hy => ?_⟩
  · have := q3 l hl2
    rw [h1, h2, h3, hk (4 * l) (by omega), hk (4 * l + 1) (by omega), hk (4 * l + 2) (by omega)]
    exact ⟨this.1, this.2.1, this.2.2.1, hl l hl2⟩
  · rw [h8, h9, hk (12 + 2 * i) (by omega), hk (13 + 2 * i) (by omega)]; exact q6 i hi
  · rw [h11, hk (32 + k) (by omega)]; exact q8 k hk2
  · rw [h12, hk (38 + y) (by omega)]; exact q9 y hy
theorem b_tell1 {s : St} {r nl ns T : Nat} {g : Nat → Nat} (hr : isR r) (hR : RR s r nl ns g) (hW : WF nl ns T g) {l : Nat} (hl : l < nl) : ∃ s2, f_X2_tellAll_L2 r (nI l) s = some (Sum.inl (nI (l + 1), s2)) ∧ RR s2 r nl ns (told1 g l) ∧ Sm s s2 r 13 := by
  have hn := hW.1
  have hm := hW.2.1
  have hT := hW.T
  obtain ⟨-, ha, -, hp9, h99⟩ := hW.2.2.2.1 l hl
  obtain ⟨-, e1, e2, e3⟩ := hR.2.2.2.1 l hl
  have e4 := (hR.2.2.2.2.1 l (by omega)).2
  have hal := hW.al (l := l) (by omega)
  have hcl := hW.cell (l := l) (c := g (4 * l + 1)) (by omega) ha
  have e5 := hR.2.2.2.2.2.1 (20 * l + g (4 * l + 1)) (by omega)
  rw [show 43 + (20 * l + g (4 * l + 1)) = 43 + 20 * l + g (4 * l + 1) by omega] at e5
  have hmin := Nat.min_le_right (g (4 * l + 2)) (g (4 * l + 3))
  refine ⟨wI (wI (wI s (r + 4) l (nI (g (4 * l + 3) - min (g (4 * l + 2)) (g (4 * l + 3))))) (r + 6) l (nI (al g l + min (g (4 * l + 2)) (g (4 * l + 3))))) (r + 7) (20 * l + g (4 * l + 1)) (nI (g (43 + 20 * l + g (4 * l + 1)) + min (g (4 * l + 2)) (g (4 * l + 3)))), ?_, ?_, ?_⟩
  · unfold f_X2_tellAll_L2
    rw [if_pos hr.1, hR.1, if_neg (nI_ge hl (by omega)), hr.2.2.2.1, if_pos (inb_t (by omega) (by decide)), hr.2.2.2.2.1, if_pos (inb_t (by omega) (by decide)), bd_s, bd_s, hr.2.2.2.2.2.2.1, if_pos (inb_t (by omega) (by decide)), bd_s, hr.2.2.1, if_pos (inb_t (by omega) (by decide))]
    simp only [nI_clamp (show l < 2 ^ 31 by omega)]
    rw [e2, e3, nI_min (by omega) (by omega), pk_sub hmin]
    simp (disch := omega) only [wI_1o]
    rw [e1, e4, pk_mul, nI_add, nI_add, Nat.mul_comm l 20, hr.2.2.2.2.2.2.2.1, if_pos (inb_t (by omega) (by decide)), bd_s, nI_clamp (by omega), e5, nI_add, nI_add]
  · refine hR.chg hn hm (told1_kp (by omega) ha) ?_ ?_ ?_ ?_ ?_ ?_ ?_ ?_ (fun k hk => ?_) (fun k hk => ?_) (fun j hj => ?_) (fun j hj => ?_)
    iterate 8 (simp (disch := omega) only [wI_1o])
    · simp (disch := omega) only [wI_1o]
      unfold told1
      rw [up_o (by omega)]
      by_cases h : k = l
      · subst h; rw [wI_at, up_k]
      · rw [wI_ne h, up_o (by omega)]; exact (hR.2.2.2.1 k hk).2.2.2
    · simp (disch := omega) only [wI_1o]
      have q := hR.2.2.2.2.1 k hk
      constructor
      · unfold told1; rw [up_o (by omega), up_o (by omega)]; exact q.1
      · by_cases h : k = l
        · subst h
          rw [wI_at]
          refine congrArg nI ?_
          have h1 := al_in (g := up g (4 * k + 3) (g (4 * k + 3) - min (g (4 * k + 2)) (g (4 * k + 3)))) (l := k) (v := g (43 + 20 * k + g (4 * k + 1)) + min (g (4 * k + 2)) (g (4 * k + 3))) ha
          rw [al_out (k := 4 * k + 3) (by omega), up_o (j := 43 + 20 * k + g (4 * k + 1)) (by omega)] at h1
          unfold told1
          omega
        · rw [wI_ne h, wI_1o (by omega), q.2]
          unfold told1
          rw [al_out (by omega), al_out (by omega)]
    · unfold told1
      by_cases h : j = 20 * l + g (4 * l + 1)
      · subst h
        rw [wI_at, show 43 + (20 * l + g (4 * l + 1)) = 43 + 20 * l + g (4 * l + 1) by omega, up_k]
      · rw [wI_ne h, up_o (by omega), up_o (by omega)]
        simp (disch := omega) only [wI_1o]
        exact hR.2.2.2.2.2.1 j hj
    · simp (disch := omega) only [wI_1o]
      unfold told1
      rw [up_o (by omega), up_o (by omega)]
      exact hR.2.2.2.2.2.2.2.1 j hj
  · exact ((Sm.wi (by omega) (by omega)).tr (Sm.wi (by omega) (by omega))).tr (Sm.wi (by omega) (by omega))
theorem b_tellAll {s : St} {r nl ns T : Nat} {g : Nat → Nat} (hr : isR r) (hR : RR s r nl ns g) (hW : WF nl ns T g) : ∃ s2, f_X2_tellAll r s = some ((), s2) ∧ RR s2 r nl ns (told g nl) ∧ Sm s s2 r 13 := by
  have hn := hW.1
  unfold f_X2_tellAll
  obtain ⟨t, h1, h2⟩ := lp_inv (body := fun q : Int32 × St => f_X2_tellAll_L2 r q.1 q.2) (fun l q => q.1 = nI l ∧ RR q.2 r nl ns (told g l) ∧ Sm s q.2 r 13) (fun t => RR t.2 r nl ns (told g nl) ∧ Sm s t.2 r 13) nl (fun l q hl hq => by
    obtain ⟨q1, q2, q3⟩ := hq
    obtain ⟨s2, k1, k2, k3⟩ := b_tell1 hr q2 (hW.told (by omega)) hl
    exact ⟨(nI (l + 1), s2), by rw [q1]; exact k1, rfl, k2, q3.tr k3⟩) (fun q hq => by
    obtain ⟨q1, q2, q3⟩ := hq
    refine ⟨((), q.2), ?_, q2, q3⟩
    unfold f_X2_tellAll_L2
    rw [if_pos hr.1, q1, q2.1, if_pos (nI_le (Nat.le_refl _) (by omega))]) (q := ((nI 0), s)) ⟨rfl, hR, Sm.rf⟩ (Fu_lt (by omega))
  exact ⟨t.2, h1, h2⟩
theorem b_take1 {s : St} {r nl ns T sl : Nat} {g : Nat → Nat} (v1 : Int32) (hr : isR r) (hR : RR s r nl ns g) (hW : WF nl ns T g) {i l : Nat} (hi : i < ns) (hl : l < nl) (hs : sl ≤ 9) (hs0 : 0 < sl) : ∃ s2, f_X2_takeAll_L22 r v1 (nI i) (nI sl) (nI l) s = some (Sum.inl (nI (take1 (sl, g) i l).1, nI (l + 1), s2)) ∧ RR s2 r nl ns (take1 (sl, g) i l).2 ∧ Sm s s2 r 13 := by
  have hn := hW.1
  have hm := hW.2.1
  have hT := hW.T
  have ha := (hW.2.2.2.2.1 i hi).1
  have e1 := (hR.2.2.2.2.2.2.1 i hi).1
  have e4 := (hR.2.2.2.2.1 l (by omega)).2
  have hal := hW.al (l := l) (by omega)
  have hcl := hW.cell (l := l) (c := g (12 + 2 * i)) (by omega) ha
  have hha := hW.has (i := i) (l := l) (by omega) (by omega)
  have e5 := hR.2.2.2.2.2.1 (20 * l + g (12 + 2 * i)) (by omega)
  rw [show 43 + (20 * l + g (12 + 2 * i)) = 43 + 20 * l + g (12 + 2 * i) by omega] at e5
  have e6 := hR.2.2.2.2.2.2.2.1 (3 * i + l) (by omega)
  rw [show 20 + (3 * i + l) = 20 + 3 * i + l by omega] at e6
  have hmin := Nat.min_le_right sl (g (43 + 20 * l + g (12 + 2 * i)))
  have hmin2 := Nat.min_le_left sl (g (43 + 20 * l + g (12 + 2 * i)))
  have hcal : g (43 + 20 * l + g (12 + 2 * i)) ≤ al g l := sm_one (f := fun c => g (43 + 20 * l + c)) ha
  refine ⟨wI (wI (wI s (r + 7) (20 * l + g (12 + 2 * i)) (nI (g (43 + 20 * l + g (12 + 2 * i)) - min sl (g (43 + 20 * l + g (12 + 2 * i)))))) (r + 6) l (nI (al g l - min sl (g (43 + 20 * l + g (12 + 2 * i)))))) (r + 10) (3 * i + l) (nI (g (20 + 3 * i + l) + min sl (g (43 + 20 * l + g (12 + 2 * i))))), ?_, ?_, ?_⟩
  · unfold f_X2_takeAll_L22
    rw [if_pos hr.1, hR.1, if_neg (nI_ge hl (by omega)), if_neg (fun q => by rw [nI_le0 (by omega)] at q; omega), hr.2.2.2.2.2.2.2.2.1, if_pos (inb_t (by omega) (by decide))]
    simp only [nI_clamp (show i < 2 ^ 31 by omega), nI_clamp (show l < 2 ^ 31 by omega)]
    rw [e1, pk_mul, nI_add, Nat.mul_comm l 20, hr.2.2.2.2.2.2.2.1, if_pos (inb_t (by omega) (by decide)), nI_clamp (by omega), e5, nI_min (by omega) (by omega), bd_s, bd_s, hr.2.2.2.2.2.2.1, if_pos (inb_t (by omega) (by decide)), bd_s, pk_mul, nI_add, Nat.mul_comm i 3, hr.2.2.2.2.2.2.2.2.2.2.1, if_pos (inb_t (by omega) (by decide)), nI_clamp (by omega), bd_s, bd_s]
    simp (disch := omega) only [wI_1o]
    rw [e4, e6, pk_sub hmin, pk_sub (Nat.le_trans hmin hcal), pk_sub hmin2, nI_add, nI_add]
    rfl
  · have hE : (take1 (sl, g) i l).2 = up (up g (43 + 20 * l + g (12 + 2 * i)) (g (43 + 20 * l + g (12 + 2 * i)) - min sl (g (43 + 20 * l + g (12 + 2 * i))))) (20 + 3 * i + l) (g (20 + 3 * i + l) + min sl (g (43 + 20 * l + g (12 + 2 * i)))) := rfl
    have hkp := take1_kp (q := (sl, g)) (i := i) (l := l) (by omega) (by omega) ha
    rw [hE] at hkp ⊢
    refine hR.chg hn hm hkp ?_ ?_ ?_ ?_ ?_ ?_ ?_ ?_ (fun k hk => ?_) (fun k hk => ?_) (fun j hj => ?_) (fun j hj => ?_)
    iterate 8 (simp (disch := omega) only [wI_1o])
    · simp (disch := omega) only [wI_1o]
      rw [up_o (by omega), up_o (by omega)]
      exact (hR.2.2.2.1 k hk).2.2.2
    · simp (disch := omega) only [wI_1o]
      have q := hR.2.2.2.2.1 k hk
      constructor
      · rw [up_o (by omega), up_o (by omega)]; exact q.1
      · rw [al_out (by omega)]
        by_cases h : k = l
        · subst h
          rw [wI_at]
          refine congrArg nI ?_
          have h1 := al_in (g := g) (l := k) (v := g (43 + 20 * k + g (12 + 2 * i)) - min sl (g (43 + 20 * k + g (12 + 2 * i)))) ha
          omega
        · rw [wI_ne h, wI_1o (by omega), q.2, al_out (by omega)]
    · rw [up_o (by omega)]
      simp (disch := omega) only [wI_1o]
      by_cases h : j = 20 * l + g (12 + 2 * i)
      · subst h
        rw [wI_at, show 43 + (20 * l + g (12 + 2 * i)) = 43 + 20 * l + g (12 + 2 * i) by omega, up_k]
      · rw [wI_ne h, up_o (by omega)]
        exact hR.2.2.2.2.2.1 j hj
    · by_cases h : j = 3 * i + l
      · subst h
        rw [wI_at, show 20 + (3 * i + l) = 20 + 3 * i + l by omega, up_k]
      · rw [wI_ne h, up_o (by omega), up_o (by omega)]
        simp (disch := omega) only [wI_1o]
        exact hR.2.2.2.2.2.2.2.1 j hj
  · exact ((Sm.wi (by omega) (by omega)).tr (Sm.wi (by omega) (by omega))).tr (Sm.wi (by omega) (by omega))
theorem take1_z {g : Nat → Nat} {i l : Nat} : take1 (0, g) i l = (0, g) := by
  unfold take1
  simp only [Nat.zero_min, Nat.sub_zero, Nat.add_zero]
  rw [up_same, up_same]
theorem takeL_z {g : Nat → Nat} {i : Nat} : ∀ {q : Nat × (Nat → Nat)} {l n : Nat}, takeL i q l = (0, g) → l ≤ n → takeL i q n = (0, g) := by
  intro q l n h hn
  induction n with
  | zero => rw [show l = 0 by omega] at h; exact h
  | succ n ih =>
    by_cases h2 : l = n + 1
    · rw [← h2]; exact h
    · show take1 (takeL i q n) i n = _
      rw [ih (by omega), take1_z]
theorem takeL_le {q : Nat × (Nat → Nat)} {i : Nat} : ∀ {l : Nat}, (takeL i q l).1 ≤ q.1
  | 0 => Nat.le_refl _
  | l + 1 => by
    have := takeL_le (q := q) (i := i) (l := l)
    show (takeL i q l).1 - _ ≤ _
    omega
/-- what SITTERS take in a STEP -/
def tkn (nl : Nat) (g : Nat → Nat) (i : Nat) : Nat := takeS nl g i (13 + 2 * i) - (takeL i (takeS nl g i (13 + 2 * i), takeS nl g i) nl).1
theorem b_takeS1 {s : St} {r nl ns T : Nat} {g : Nat → Nat} (v1 : Int32) (hr : isR r) (hR : RR s r nl ns g) (hW : WF nl ns T g) {i : Nat} (hi : i < ns) : ∃ s2, f_X2_takeAll_L4 r v1 (nI i) s = some (Sum.inl (v1 + nI (g (13 + 2 * i) - (takeL i (g (13 + 2 * i), g) nl).1), nI (i + 1), s2)) ∧ RR s2 r nl ns (takeL i (g (13 + 2 * i), g) nl).2 ∧ Sm s s2 r 13 := by
  have hn := hW.1
  have hm := hW.2.1
  have h9 := (hW.2.2.2.2.1 i hi).2
  have e9 := (hR.2.2.2.2.2.2.1 i hi).2
  have fin : ∀ {s3 : St} {sl : Nat} {g3 : Nat → Nat}, sl ≤ g (13 + 2 * i) → RR s3 r nl ns g3 → g3 (13 + 2 * i) = g (13 + 2 * i) → f_X2_takeAll_J119 r v1 (nI i) (nI sl) s3 = some (Sum.inl (v1 + nI (g (13 + 2 * i) - sl), nI (i + 1), s3)) := by
    intro s3 sl g3 hsl h3 hg
    unfold f_X2_takeAll_J119
    rw [if_pos hr.1, hr.2.2.2.2.2.2.2.2.2.1, if_pos (inb_t (by omega) (by decide)), bd_s, nI_clamp (by omega), (h3.2.2.2.2.2.2.1 i hi).2, hg, pk_sub hsl, nI_add]
  obtain ⟨t, k1, k2⟩ := lp_brk (body := fun q : Int32 × Int32 × St => f_X2_takeAll_L22 r v1 (nI i) q.1 q.2.1 q.2.2) (fun l q => q.1 = nI (takeL i (g (13 + 2 * i), g) l).1 ∧ q.2.1 = nI l ∧ RR q.2.2 r nl ns (takeL i (g (13 + 2 * i), g) l).2 ∧ Sm s q.2.2 r 13) (fun t => ∃ s2, t = Sum.inl (v1 + nI (g (13 + 2 * i) - (takeL i (g (13 + 2 * i), g) nl).1), nI (i + 1), s2) ∧ RR s2 r nl ns (takeL i (g (13 + 2 * i), g) nl).2 ∧ Sm s s2 r 13) nl (fun l q hl hq => by
    obtain ⟨x, y, s3⟩ := q
    obtain ⟨q1, q2, q3, q4⟩ := hq
    dsimp only at q1 q2 q3 q4 ⊢
    subst q1; subst q2
    have hW3 := hW.takeL (q := (g (13 + 2 * i), g)) hi (l := l) (by omega)
    have hkp := takeL_kp (q := (g (13 + 2 * i), g)) hW hi (l := l) (by omega) (13 + 2 * i) (by omega)
    have hle := takeL_le (q := (g (13 + 2 * i), g)) (i := i) (l := l)
    dsimp only at hkp hle
    by_cases h0 : (takeL i (g (13 + 2 * i), g) l).1 = 0
    · right
      have ez := takeL_z (n := nl) (show takeL i (g (13 + 2 * i), g) l = (0, (takeL i (g (13 + 2 * i), g) l).2) from Prod.ext h0 rfl) (by omega)
      refine ⟨Sum.inl (v1 + nI (g (13 + 2 * i) - (takeL i (g (13 + 2 * i), g) nl).1), nI (i + 1), s3), ?_, s3, rfl, by rw [ez]; exact q3, q4⟩
      unfold f_X2_takeAll_L22
      rw [if_pos hr.1, q3.1, if_neg (nI_ge hl (by omega)), if_pos (by rw [h0]; decide), fin hle q3 hkp, ox_s, ez, h0]
    · left
      obtain ⟨s4, k1, k2, k3⟩ := b_take1 v1 hr q3 hW3 hi hl (sl := (takeL i (g (13 + 2 * i), g) l).1) (by omega) (by omega)
      exact ⟨_, k1, rfl, rfl, k2, q4.tr k3⟩) (fun q hq => by
    obtain ⟨x, y, s3⟩ := q
    obtain ⟨q1, q2, q3, q4⟩ := hq
    dsimp only at q1 q2 q3 q4 ⊢
    subst q1; subst q2
    have hkp := takeL_kp (q := (g (13 + 2 * i), g)) hW hi (l := nl) (by omega) (13 + 2 * i) (by omega)
    have hle := takeL_le (q := (g (13 + 2 * i), g)) (i := i) (l := nl)
    dsimp only at hkp hle
    refine ⟨_, ?_, s3, rfl, q3, q4⟩
    unfold f_X2_takeAll_L22
    rw [if_pos hr.1, q3.1, if_pos (nI_le (Nat.le_refl _) (by omega)), fin hle q3 hkp, ox_s]) (q := (nI (g (13 + 2 * i)), nI 0, s)) ⟨rfl, rfl, hR, Sm.rf⟩ (Fu_lt (by omega))
  obtain ⟨s2, rfl, k3, k4⟩ := k2
  refine ⟨s2, ?_, k3, k4⟩
  unfold f_X2_takeAll_L4
  rw [if_pos hr.1, hR.2.1, if_neg (nI_ge hi (by omega)), hr.2.2.2.2.2.2.2.2.2.1, if_pos (inb_t (by omega) (by decide)), bd_s, nI_clamp (by omega), e9]
  exact k1
theorem b_takeAll {s : St} {r nl ns T : Nat} {g : Nat → Nat} (hr : isR r) (hR : RR s r nl ns g) (hW : WF nl ns T g) : ∃ s2, f_X2_takeAll r s = some (nI (sm (tkn nl g) ns), s2) ∧ RR s2 r nl ns (takeS nl g ns) ∧ Sm s s2 r 13 := by
  have hm := hW.2.1
  unfold f_X2_takeAll
  obtain ⟨t, h1, h2⟩ := lp_inv (body := fun q : Int32 × Int32 × St => f_X2_takeAll_L4 r q.1 q.2.1 q.2.2) (fun i q => q.1 = nI (sm (tkn nl g) i) ∧ q.2.1 = nI i ∧ RR q.2.2 r nl ns (takeS nl g i) ∧ Sm s q.2.2 r 13) (fun t => t.1 = nI (sm (tkn nl g) ns) ∧ RR t.2 r nl ns (takeS nl g ns) ∧ Sm s t.2 r 13) ns (fun i q hi hq => by
    obtain ⟨x, y, s3⟩ := q
    obtain ⟨q1, q2, q3, q4⟩ := hq
    dsimp only at q1 q2 q3 q4 ⊢
    subst q1; subst q2
    obtain ⟨s2, k1, k2, k3⟩ := b_takeS1 (nI (sm (tkn nl g) i)) hr q3 (hW.takeS (i := i) (by omega)) hi
    exact ⟨_, k1, by rw [nI_add]; rfl, rfl, k2, q4.tr k3⟩) (fun q hq => by
    obtain ⟨x, y, s3⟩ := q
    obtain ⟨q1, q2, q3, q4⟩ := hq
    dsimp only at q1 q2 q3 q4 ⊢
    subst q1; subst q2
    refine ⟨(nI (sm (tkn nl g) ns), s3), ?_, rfl, q3, q4⟩
    unfold f_X2_takeAll_L4
    rw [if_pos hr.1, q3.2.1, if_pos (nI_le (Nat.le_refl _) (by omega))]) (q := (nI 0, nI 0, s)) ⟨rfl, rfl, hR, Sm.rf⟩ (Fu_lt (by omega))
  obtain ⟨x, s2⟩ := t
  obtain ⟨rfl, h3, h4⟩ := h2
  exact ⟨s2, h1, h3, h4⟩

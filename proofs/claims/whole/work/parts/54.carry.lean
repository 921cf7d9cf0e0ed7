theorem b_moved {s : St} {k m : Nat} (hk : k ≤ 3) (hm : m ≤ 20000) : f_X2_moved (nI k) (nI m) s = some (nI (mv k m), s) := by
  unfold f_X2_moved mv
  have e : (nI m + nI 1) / nI 2 = nI ((m + 1) / 2) := by rw [nI_add, pk_div (by omega) (by decide) (by decide)]
  have e2 : nI ((m + 1) / 2) / nI 2 = nI ((m + 1) / 2 / 2) := pk_div (by omega) (by decide) (by decide)
  rw [e, bd_s, e2, nI_add, nI_min (by omega) (by omega), nI_toInt (by omega)]
  rcases (show k = 0 ∨ k = 1 ∨ k = 2 ∨ k = 3 by omega) with rfl | rfl | rfl | rfl
  · rfl
  · rfl
  · rfl
  · rw [if_neg (by decide), if_neg (by decide), if_neg (by decide), if_pos (by omega)]; rfl
def nx (c w : Nat) : Int32 := if nxt c w = 20 then -1 else nI (nxt c w)
theorem b_beside {s : St} {c w : Nat} (hc : c < 20) (hw : w < 5) (hw0 : 0 < w) : f_X2_beside (nI c) (nI w) s = some (nx c w, s) := by
  have e1 : nI c / nI 4 = nI (c / 4) := pk_div (by omega) (by decide) (by decide)
  have e2 : nI c - nI c / nI 4 * nI 4 = nI (c % 4) := pk_rem (by omega) (by decide) (by decide)
  unfold f_X2_beside
  rw [bd_s, e2, bd_s, e1]
  rcases (show w = 1 ∨ w = 2 ∨ w = 3 ∨ w = 4 by omega) with rfl | rfl | rfl | rfl
  · rw [if_pos rfl]
    by_cases h : 4 ≤ c / 4
    · rw [if_pos (nI_le h (by omega))]; unfold nx nxt; simp; omega
    · rw [if_neg (nI_ge (by omega) (by decide)), nI_add]; unfold nx nxt; simp [show c / 4 < 4 by omega, show ¬ c + 4 = 20 by omega]
  · rw [if_neg (by decide), if_pos rfl]
    by_cases h : c / 4 = 0
    · rw [if_pos (by rw [h]; decide)]; unfold nx nxt; simp; omega
    · rw [if_neg (fun q => h ((nI_le0 (by omega)).mp q)), pk_sub (by omega)]; unfold nx nxt; simp [show 0 < c / 4 by omega, show ¬ c - 4 = 20 by omega]
  · rw [if_neg (by decide), if_neg (by decide), if_pos rfl]
    by_cases h : 3 ≤ c % 4
    · rw [if_pos (nI_le h (by omega))]; unfold nx nxt; simp; omega
    · rw [if_neg (nI_ge (by omega) (by decide)), nI_add]; unfold nx nxt; simp [show c % 4 < 3 by omega]
      omega
  · rw [if_neg (by decide), if_neg (by decide), if_neg (by decide), if_pos rfl]
    by_cases h : c % 4 = 0
    · rw [if_pos (by rw [h]; decide)]; unfold nx nxt; simp; omega
    · rw [if_neg (fun q => h ((nI_le0 (by omega)).mp q)), pk_sub (by omega)]; unfold nx nxt; simp [show 0 < c % 4 by omega]
      omega
/-- one CELL's smoke moves, as the class does it -/
def mv1 (w l c : Nat) (h : Nat → Nat) : Nat → Nat :=
  if nxt c w = 20 then up (up h (43 + 20 * l + c) (h (43 + 20 * l + c) - mv (h (4 * l)) (h (43 + 20 * l + c)))) (103 + l) (h (103 + l) + mv (h (4 * l)) (h (43 + 20 * l + c)))
  else up (up h (43 + 20 * l + c) (h (43 + 20 * l + c) - mv (h (4 * l)) (h (43 + 20 * l + c)))) (43 + 20 * l + nxt c w) (h (43 + 20 * l + nxt c w) + mv (h (4 * l)) (h (43 + 20 * l + c)))
def ord (w k : Nat) : Nat := if w = 1 ∨ w = 3 then 19 - k else k
def dks (w l : Nat) (g : Nat → Nat) : Nat → Nat → Nat
  | 0 => g
  | k + 1 => mv1 w l (ord w k) (dks w l g k)
theorem mv1_kp {w l c : Nat} {h : Nat → Nat} (hl : l < 3) (hc : c < 20) (hw : w < 5) : Kp h (mv1 w l c h) := by
  intro j hj
  have := (nxt_le w hw c hc).1
  unfold mv1
  by_cases e : nxt c w = 20
  · rw [if_pos e, up_o (by omega), up_o (by omega)]
  · rw [if_neg e, up_o (by omega), up_o (by omega)]
theorem mv1_al {w l c : Nat} {h : Nat → Nat} (hl : l < 3) (hc : c < 20) (hw : w < 5) (hw0 : 0 < w) : al (mv1 w l c h) l + (if nxt c w = 20 then mv (h (4 * l)) (h (43 + 20 * l + c)) else 0) = al h l := by
  have h1 := nxt_le w hw c hc
  have h3 := mv_le (h (4 * l)) (h (43 + 20 * l + c))
  have h2 := al_in (g := h) (l := l) (v := h (43 + 20 * l + c) - mv (h (4 * l)) (h (43 + 20 * l + c))) hc
  unfold mv1
  by_cases e : nxt c w = 20
  · rw [if_pos e, if_pos e, al_out (by omega)]; omega
  · rw [if_neg e, if_neg e]
    have h4 := al_in (g := up h (43 + 20 * l + c) (h (43 + 20 * l + c) - mv (h (4 * l)) (h (43 + 20 * l + c)))) (l := l) (c := nxt c w) (v := h (43 + 20 * l + nxt c w) + mv (h (4 * l)) (h (43 + 20 * l + c))) (by omega)
    rw [up_o (j := 43 + 20 * l + nxt c w) (by have := h1.2 hw0; omega)] at h4
    omega
theorem mv1_ao {w l c k : Nat} {h : Nat → Nat} (hl : l < 3) (hk : k < 3) (hkl : k ≠ l) (hc : c < 20) (hw : w < 5) : al (mv1 w l c h) k = al h k := by
  have h1 := (nxt_le w hw c hc).1
  unfold mv1
  by_cases e : nxt c w = 20
  · rw [if_pos e, al_out (by omega), al_out (by omega)]
  · rw [if_neg e, al_out (by omega), al_out (by omega)]
theorem mv1_tot {w l c k : Nat} {h : Nat → Nat} (hl : l < 3) (hk : k < 3) (hc : c < 20) (hw : w < 5) (hw0 : 0 < w) : tot (mv1 w l c h) k = tot h k := by
  have h1 := (nxt_le w hw c hc).1
  have e1 : mv1 w l c h (4 * k + 3) = h (4 * k + 3) := by
    unfold mv1
    by_cases e : nxt c w = 20
    · rw [if_pos e, up_o (by omega), up_o (by omega)]
    · rw [if_neg e, up_o (by omega), up_o (by omega)]
  have e2 : hd (mv1 w l c h) k = hd h k := by
    refine hd_cong (fun i hi => ?_)
    unfold mv1
    by_cases e : nxt c w = 20
    · rw [if_pos e, up_o (by omega), up_o (by omega)]
    · rw [if_neg e, up_o (by omega), up_o (by omega)]
  unfold tot
  rw [e1, e2]
  by_cases hkl : k = l
  · subst hkl
    have h2 := mv1_al (h := h) hl hc hw hw0
    have e3 : mv1 w k c h (103 + k) = h (103 + k) + (if nxt c w = 20 then mv (h (4 * k)) (h (43 + 20 * k + c)) else 0) := by
      unfold mv1
      by_cases e : nxt c w = 20
      · rw [if_pos e, if_pos e, up_k]
      · rw [if_neg e, if_neg e, up_o (by omega), up_o (by omega)]; omega
    rw [e3]
    omega
  · rw [mv1_ao hl hk hkl hc hw]
    have e3 : mv1 w l c h (103 + k) = h (103 + k) := by
      unfold mv1
      by_cases e : nxt c w = 20
      · rw [if_pos e, up_o (by omega), up_o (by omega)]
      · rw [if_neg e, up_o (by omega), up_o (by omega)]
    rw [e3]
theorem mv1_WF {nl ns T w l c : Nat} {h : Nat → Nat} (hW : WF nl ns T h) (hl : l < nl) (hc : c < 20) (hw : w < 5) (hw0 : 0 < w) : WF nl ns T (mv1 w l c h) := by
  have h3 := hW.1
  have h1 := (nxt_le w hw c hc).1
  refine hW.chg (mv1_kp (by omega) hc hw) (fun k hk => ?_) (fun k hk => mv1_tot (by omega) hk hc hw hw0) (fun i k hi hk hn => ?_)
  · have := (hW.2.2.2.1 k hk).2.2.2.2
    unfold mv1
    by_cases e : nxt c w = 20
    · rw [if_pos e, up_o (by omega), up_o (by omega)]; exact this
    · rw [if_neg e, up_o (by omega), up_o (by omega)]; exact this
  · unfold mv1
    by_cases e : nxt c w = 20
    · rw [if_pos e, up_o (by omega), up_o (by omega)]
    · rw [if_neg e, up_o (by omega), up_o (by omega)]
theorem ord_lt {w k : Nat} (hk : k < 20) : ord w k < 20 := by unfold ord; split <;> omega
theorem dks_WF {nl ns T w l : Nat} {g : Nat → Nat} (hW : WF nl ns T g) (hl : l < nl) (hw : w < 5) (hw0 : 0 < w) : ∀ {k : Nat}, k ≤ 20 → WF nl ns T (dks w l g k)
  | 0, _ => hW
  | k + 1, hk => mv1_WF (dks_WF hW hl hw hw0 (k := k) (by omega)) hl (ord_lt (by omega)) hw hw0
theorem mv1_m {w l c : Nat} {h : Nat → Nat} (h0 : mv (h (4 * l)) (h (43 + 20 * l + c)) = 0) : mv1 w l c h = h := by
  unfold mv1
  rw [h0, Nat.sub_zero, Nat.add_zero, Nat.add_zero, up_same, up_same, up_same, ite_self]
theorem mv1_z {w l c : Nat} {h : Nat → Nat} (h0 : h (43 + 20 * l + c) = 0) : mv1 w l c h = h := mv1_m (by rw [h0]; exact Nat.le_zero.mp (mv_le _ _))
def pd (w k x : Nat) : Prop := if w = 1 ∨ w = 3 then 20 ≤ x + k else x < k
theorem pd_dec (w k x : Nat) : pd w k x ∨ ¬ pd w k x := Classical.em _
def pdb (w k x : Nat) : Bool := if w = 1 ∨ w = 3 then decide (20 ≤ x + k) else decide (x < k)
theorem pd1 : ∀ w, w < 5 → 0 < w → ∀ k, k < 20 → ∀ x, x < 20 → pdb w (k + 1) x = (pdb w k x || decide (x = ord w k)) := by decide +kernel
theorem pd2 : ∀ w, w < 5 → 0 < w → ∀ k, k < 20 → pdb w k (ord w k) = false ∧ (prv (ord w k) w < 20 → pdb w k (prv (ord w k) w) = false) := by decide +kernel
theorem pd3 : ∀ w, w < 5 → 0 < w → ∀ x, x < 20 → pdb w 20 x = true ∧ pdb w 0 x = false := by decide +kernel
/-- what the class's order leaves behind k CELLS -/
theorem dks_cl {w l : Nat} {g : Nat → Nat} (hl : l < 3) (hw : w < 5) (hw0 : 0 < w) : ∀ k, k ≤ 20 →
    (∀ x, x < 20 → dks w l g k (43 + 20 * l + x) = g (43 + 20 * l + x) - (if pdb w k x = true then mv (g (4 * l)) (g (43 + 20 * l + x)) else 0) + (if prv x w < 20 ∧ pdb w k (prv x w) = true then mv (g (4 * l)) (g (43 + 20 * l + prv x w)) else 0)) ∧
    dks w l g k (103 + l) = g (103 + l) + sm (fun x => if nxt x w = 20 ∧ pdb w k x = true then mv (g (4 * l)) (g (43 + 20 * l + x)) else 0) 20 ∧
    (∀ j, (j < 43 + 20 * l ∨ 43 + 20 * l + 20 ≤ j) → j ≠ 103 + l → dks w l g k j = g j)
  | 0, _ => by
    refine ⟨fun x hx => ?_, ?_, fun j _ _ => rfl⟩
    · rw [if_neg (by rw [(pd3 w hw hw0 x hx).2]; decide), if_neg]
      · rfl
      · rintro ⟨h1, h2⟩
        rw [(pd3 w hw hw0 _ h1).2] at h2
        cases h2
    · rw [sm_zero (fun x hx => by rw [if_neg]; rintro ⟨-, h2⟩; rw [(pd3 w hw hw0 x hx).2] at h2; cases h2)]
      rfl
  | k + 1, hk => by
    obtain ⟨i1, i2, i3⟩ := dks_cl (g := g) hl hw hw0 k (by omega)
    have hc : ord w k < 20 := ord_lt (by omega)
    have hp := pd2 w hw hw0 k (by omega)
    have hnl := nxt_le w hw (ord w k) hc
    have e4 : dks w l g k (4 * l) = g (4 * l) := i3 _ (by omega) (by omega)
    have ec : dks w l g k (43 + 20 * l + ord w k) = g (43 + 20 * l + ord w k) := by
      rw [i1 _ hc, if_neg (by rw [hp.1]; decide), if_neg]
      · rfl
      · rintro ⟨h1, h2⟩
        rw [hp.2 h1] at h2
        cases h2
    have P1 : ∀ x, x < 20 → pdb w (k + 1) x = (pdb w k x || decide (x = ord w k)) := pd1 w hw hw0 k (by omega)
    have hm := mv_le (g (4 * l)) (g (43 + 20 * l + ord w k))
    have es : dks w l g (k + 1) = mv1 w l (ord w k) (dks w l g k) := rfl
    refine ⟨fun x hx => ?_, ?_, fun j hj hj2 => ?_⟩
    · rw [es]
      unfold mv1
      rw [e4, ec]
      have hpx := (prv_le w hw x hx).2
      by_cases hxc : x = ord w k
      · subst hxc
        have hv : (if prv (ord w k) w < 20 ∧ pdb w (k + 1) (prv (ord w k) w) = true then mv (g (4 * l)) (g (43 + 20 * l + prv (ord w k) w)) else 0) = 0 := by
          rw [if_neg]
          rintro ⟨h1, h2⟩
          rw [P1 _ h1, hp.2 h1] at h2
          simp at h2
          exact hpx h2
        rw [hv, P1 _ hc]
        simp only [decide_true, Bool.or_true, if_true]
        by_cases e : nxt (ord w k) w = 20
        · rw [if_pos e, up_o (by omega), up_k]; omega
        · rw [if_neg e, up_o (by have := hnl.2 hw0; omega), up_k]; omega
      · have e5 : pdb w (k + 1) x = pdb w k x := by rw [P1 _ hx]; simp [hxc]
        rw [e5]
        by_cases hnx : nxt (ord w k) w = x
        · rw [if_neg (by omega), hnx, up_k, i1 x hx]
          have hpv : prv x w = ord w k := (nxt_prv w hw hw0 _ hc _ hx).mp hnx
          rw [hpv, hp.1, P1 _ hc]
          simp [hc]
        · have e6 : (prv x w < 20 ∧ pdb w (k + 1) (prv x w) = true) ↔ (prv x w < 20 ∧ pdb w k (prv x w) = true) := by
            constructor
            · rintro ⟨h1, h2⟩
              refine ⟨h1, ?_⟩
              rw [P1 _ h1] at h2
              simp at h2
              rcases h2 with h2 | h2
              · exact h2
              · exact absurd ((nxt_prv w hw hw0 _ hc _ hx).mpr h2) hnx
            · rintro ⟨h1, h2⟩
              exact ⟨h1, by rw [P1 _ h1, h2]; rfl⟩
          simp only [e6]
          by_cases e : nxt (ord w k) w = 20
          · rw [if_pos e, up_o (by omega), up_o (by omega), i1 x hx]
          · rw [if_neg e, up_o (by omega), up_o (by omega), i1 x hx]
    · rw [es]
      unfold mv1
      rw [e4, ec]
      by_cases e : nxt (ord w k) w = 20
      · rw [if_pos e, up_k, i2]
        have h5 := sm_upF (g := fun x => if nxt x w = 20 ∧ pdb w k x = true then mv (g (4 * l)) (g (43 + 20 * l + x)) else 0) (k := ord w k) (v := mv (g (4 * l)) (g (43 + 20 * l + ord w k))) (F := fun x => x) (i0 := ord w k) (n := 20) hc rfl (fun i _ hi => hi)
        have h6 : sm (fun x => if nxt x w = 20 ∧ pdb w (k + 1) x = true then mv (g (4 * l)) (g (43 + 20 * l + x)) else 0) 20 = sm (fun i => up (fun x => if nxt x w = 20 ∧ pdb w k x = true then mv (g (4 * l)) (g (43 + 20 * l + x)) else 0) (ord w k) (mv (g (4 * l)) (g (43 + 20 * l + ord w k))) i) 20 := by
          refine sm_cong (fun x hx => ?_)
          by_cases hxc : x = ord w k
          · subst hxc
            rw [up_k, if_pos ⟨e, by rw [P1 _ hc]; simp⟩]
          · rw [up_o hxc, P1 _ hx]
            simp [hxc]
        rw [h6]
        rw [if_neg (show ¬ (nxt (ord w k) w = 20 ∧ pdb w k (ord w k) = true) by rw [hp.1]; simp)] at h5
        omega
      · rw [if_neg e, up_o (by omega), up_o (by omega), i2]
        refine congrArg (fun z => g (103 + l) + z) (sm_cong (fun x hx => ?_))
        by_cases hxc : x = ord w k
        · subst hxc
          rw [if_neg (fun q => e q.1), if_neg (fun q => e q.1)]
        · rw [P1 _ hx]
          simp [hxc]
    · rw [es]
      unfold mv1
      by_cases e : nxt (ord w k) w = 20
      · rw [if_pos e, up_o (by omega), up_o (by omega)]; exact i3 j hj hj2
      · rw [if_neg e, up_o (by omega), up_o (by omega)]; exact i3 j hj hj2
theorem dks_drift {w l : Nat} {g : Nat → Nat} (hl : l < 3) (hw : w < 5) (hw0 : 0 < w) : dks w l g 20 = drift1 w g l := by
  obtain ⟨h1, h2, h3⟩ := dks_cl (g := g) hl hw hw0 20 (Nat.le_refl _)
  funext j
  by_cases hj : 43 + 20 * l ≤ j ∧ j < 43 + 20 * l + 20
  · obtain ⟨x, rfl⟩ : ∃ x, j = 43 + 20 * l + x := ⟨j - (43 + 20 * l), by omega⟩
    rw [h1 x (by omega), drift1_c (by omega), if_pos (pd3 w hw hw0 x (by omega)).1]
    by_cases hp : prv x w < 20
    · rw [if_pos ⟨hp, (pd3 w hw hw0 _ hp).1⟩, if_pos hp]
    · rw [if_neg (fun q => hp q.1), if_neg hp]
  · by_cases hj2 : j = 103 + l
    · subst hj2
      rw [h2, drift1_l hl]
      refine congrArg (fun z => g (103 + l) + z) (sm_cong (fun x hx => ?_))
      rw [(pd3 w hw hw0 x hx).1]
      simp
    · rw [h3 j (by omega) hj2, drift1_o (by omega) hj2]
/-- a CELL that waits holds what it held -/
theorem dks_wait {w l k : Nat} {g : Nat → Nat} (hl : l < 3) (hw : w < 5) (hw0 : 0 < w) (hk : k < 20) : dks w l g k (43 + 20 * l + ord w k) = g (43 + 20 * l + ord w k) := by
  have hp := pd2 w hw hw0 k hk
  rw [(dks_cl (g := g) hl hw hw0 k (by omega)).1 _ (ord_lt hk), if_neg (by rw [hp.1]; decide), if_neg]
  · rfl
  · rintro ⟨h1, h2⟩
    rw [hp.2 h1] at h2
    cases h2
theorem sm_ord (f : Nat → Nat) (w : Nat) : sm (fun k => f (ord w k)) 20 = sm f 20 := by
  unfold ord
  by_cases h : w = 1 ∨ w = 3
  · simp only [if_pos h, sm, Nat.sub_zero, Nat.reduceSub]; omega
  · simp only [if_neg h]
/-- nothing is left to move: the rest of the CELLS are empty -/
theorem dks_rest {w l : Nat} {g : Nat → Nat} (hl : l < 3) (hw : w < 5) (hw0 : 0 < w) {k : Nat} (hk : k ≤ 20) (h0 : sm (fun k => g (43 + 20 * l + ord w k)) k = al g l) : dks w l g k = dks w l g 20 := by
  have e := sm_ord (fun c => g (43 + 20 * l + c)) w
  have hz : ∀ i, k ≤ i → i < 20 → g (43 + 20 * l + ord w i) = 0 := by
    intro i hi hi2
    have h1 := sm_mono (f := fun k => g (43 + 20 * l + ord w k)) (n := 20) (k := i + 1) (by omega)
    have h2 := sm_mono (f := fun k => g (43 + 20 * l + ord w k)) (n := i) (k := k) hi
    have h3 : sm (fun k => g (43 + 20 * l + ord w k)) (i + 1) = sm (fun k => g (43 + 20 * l + ord w k)) i + g (43 + 20 * l + ord w i) := rfl
    have h4 : sm (fun k => g (43 + 20 * l + ord w k)) 20 = al g l := e
    omega
  have key : ∀ n, k + n ≤ 20 → dks w l g (k + n) = dks w l g k := by
    intro n
    induction n with
    | zero => intro _; rfl
    | succ n ih =>
      intro hn
      show mv1 w l (ord w (k + n)) (dks w l g (k + n)) = _
      rw [mv1_z (by rw [dks_wait hl hw hw0 (by omega)]; exact hz _ (by omega) (by omega)), ih (by omega)]
  have := key (20 - k) (by omega)
  rw [show k + (20 - k) = 20 by omega] at this
  exact this.symm

/-! the reference takes TOKENS -/
def RB (s : St) (b : Nat → Nat) (len : Nat) : Prop := len ≤ 160 ∧ s.1 189 11 = nI len ∧ ∀ i, i < len → b i < 128 ∧ s.1 194 i = nI (b i)
def T7 (s s2 : St) : Prop := (∀ k, k ≠ 189 → s2.1 k = s.1 k) ∧ ∀ j, ¬ (12 ≤ j ∧ j ≤ 17) → s2.1 189 j = s.1 189 j
theorem T7.rf {s : St} : T7 s s := ⟨fun _ _ => rfl, fun _ _ => rfl⟩
theorem T7.tr {s s2 s3 : St} (h : T7 s s2) (h2 : T7 s2 s3) : T7 s s3 := ⟨fun k hk => (h2.1 k hk).trans (h.1 k hk), fun j hj => (h2.2 j hj).trans (h.2 j hj)⟩
theorem T7.wi {s : St} {i : Nat} {x : Int32} (h1 : 12 ≤ i) (h2 : i ≤ 17) : T7 s (wI s 189 i x) := ⟨fun k hk => wI_1o hk, fun j hj => wI_ne (by omega)⟩
theorem RB.t7 {s s2 : St} {b : Nat → Nat} {len : Nat} (h : RB s b len) (hF : T7 s s2) : RB s2 b len := ⟨h.1, by rw [hF.2 11 (by omega)]; exact h.2.1, fun i hi => ⟨(h.2.2 i hi).1, by rw [hF.1 194 (by decide)]; exact (h.2.2 i hi).2⟩⟩
def byt (b : Nat → Nat) (len p : Nat) : Int32 := if p < len then nI (b p) else -1
theorem r_byte {s : St} {b : Nat → Nat} {len p : Nat} (hB : RB s b len) (hp : p < 1000) : f_X7_byteAt (nI p) s = some (byt b len p, s) := by
  have hlen := hB.1
  unfold f_X7_byteAt byt
  rw [hB.2.1]
  by_cases c : p < len
  · rw [if_neg (nI_ge c (by omega)), if_pos (by rw [l194]; exact inb_t (by omega) (by decide)), nI_clamp (by omega), (hB.2.2 p c).2, if_pos c]
  · rw [if_pos (nI_le (by omega) (by omega)), if_neg c]
theorem byt_win {s : St} {b : Nat → Nat} {len p lo hi : Nat} (hb : ∀ i, i < len → b i < 128) (hlo : lo < 2 ^ 31) (hhi : hi < 2 ^ 31) : f_X7_within (byt b len p).toInt64 (lN lo) (lN hi) s = some (if p < len ∧ lo ≤ b p ∧ b p ≤ hi then nI 1 else nI 0, s) := by
  rw [b7_win _ hlo hhi]
  unfold byt
  by_cases c : p < len
  · have := hb p c
    rw [if_pos c, nI_toInt (by omega)]
    by_cases c2 : lo ≤ b p ∧ b p ≤ hi
    · rw [if_pos (by omega), if_pos ⟨c, c2⟩]
    · rw [if_neg (by omega), if_neg (fun e => c2 e.2)]
  · rw [if_neg c, if_neg (show ¬ ((lo : Int) ≤ (-1 : Int32).toInt ∧ (-1 : Int32).toInt ≤ (hi : Int)) from fun e => by
      have : (-1 : Int32).toInt = -1 := by decide
      omega), if_neg (show ¬ (p < len ∧ lo ≤ b p ∧ b p ≤ hi) from fun e => c e.1)]
theorem r_need1 {c : Int32} {s : St} : f_X7_needs (nI 1) c s = some ((), s) := by
  unfold f_X7_needs
  rw [if1]
theorem r_need0 {s : St} {c q : Nat} (h : s.1 189 16 = nI 0) (h13 : s.1 189 13 = nI q) : f_X7_needs (nI 0) (nI c) s = some ((), wI (wI s 189 16 (nI c)) 189 17 (nI q)) := by
  unfold f_X7_needs
  rw [if0, h, if0, bd_s, bd_s, wI_ne (by decide), h13]
theorem r_needF {x c : Int32} {s : St} (h : ¬ s.1 189 16 = 0) : f_X7_needs x c s = some ((), s) := by
  unfold f_X7_needs
  rw [if_pos h]
  exact ite_self _
theorem r_name {s : St} {b : Nat → Nat} {len q r : Nat} (hB : RB s b len) (h12 : s.1 189 12 = nI q) (hqr : q ≤ r) (hr : r ≤ len) (hrun : ∀ j, q ≤ j → j < r → 97 ≤ b j ∧ b j ≤ 122) (hend : r < len → ¬ (97 ≤ b r ∧ b r ≤ 122)) : ∃ s2, lp (fun x : St => f_X7_takes_L82 x) Fu s = some ((), s2) ∧ (∀ k, k ≠ 189 → s2.1 k = s.1 k) ∧ (∀ j, j ≠ 12 → s2.1 189 j = s.1 189 j) ∧ s2.1 189 12 = nI r := by
  have hlen := hB.1
  obtain ⟨t, k1, k2⟩ := lp_inv (body := fun x : St => f_X7_takes_L82 x) (fun i x => x.1 189 12 = nI (q + i) ∧ (∀ k, k ≠ 189 → x.1 k = s.1 k) ∧ (∀ j, j ≠ 12 → x.1 189 j = s.1 189 j)) (fun t => (∀ k, k ≠ 189 → t.2.1 k = s.1 k) ∧ (∀ j, j ≠ 12 → t.2.1 189 j = s.1 189 j) ∧ t.2.1 189 12 = nI r) (r - q) (fun i x hi hx => by
    obtain ⟨x1, x2, x3⟩ := hx
    have hB2 : RB x b len := hB.t7 ⟨x2, fun j hj => x3 j (by omega)⟩
    have h := hrun (q + i) (by omega) (by omega)
    unfold f_X7_takes_L82
    rw [x1, r_byte hB2 (by omega), cl_s, byt_win (fun i hi => (hB.2.2 i hi).1) (by decide) (by decide), cl_s, if_pos (show q + i < len ∧ 97 ≤ b (q + i) ∧ b (q + i) ≤ 122 by omega), if1', bd_s, x1, nI_add]
    refine ⟨_, rfl, wI_at, fun k hk => ?_, fun j hj => ?_⟩
    · rw [wI_1o hk]; exact x2 k hk
    · rw [wI_ne hj]; exact x3 j hj) (fun x hx => by
    obtain ⟨x1, x2, x3⟩ := hx
    rw [show q + (r - q) = r by omega] at x1
    have hB2 : RB x b len := hB.t7 ⟨x2, fun j hj => x3 j (by omega)⟩
    unfold f_X7_takes_L82
    rw [x1, r_byte hB2 (by omega), cl_s, byt_win (fun i hi => (hB.2.2 i hi).1) (by decide) (by decide), cl_s, if_neg (show ¬ (r < len ∧ 97 ≤ b r ∧ b r ≤ 122) from fun e => hend e.1 e.2), if0']
    exact ⟨_, rfl, x2, x3, x1⟩) (q := s) ⟨by rw [h12, Nat.add_zero], fun _ _ => rfl, fun _ _ => rfl⟩ (Fu_lt (by omega))
  exact ⟨t.2, k1, k2⟩
theorem r_digs {s : St} {b : Nat → Nat} {len q r : Nat} (hB : RB s b len) (h12 : s.1 189 12 = nI q) (h13 : s.1 189 13 = nI q) (h15 : s.1 189 15 = nI 0) (h16 : s.1 189 16 = nI 0) (hqr : q ≤ r) (hr : r ≤ len) (hrun : ∀ j, q ≤ j → j < r → 48 ≤ b j ∧ b j ≤ 57) (hend : r < len → ¬ (48 ≤ b r ∧ b r ≤ 57)) : ∃ s2, lp (fun x : St => f_X7_takes_L140 x) Fu s = some ((), s2) ∧ T7 s s2 ∧ s2.1 189 13 = nI q ∧ s2.1 189 14 = s.1 189 14 ∧ s2.1 189 12 = nI r ∧ (r - q ≤ 2 → s2.1 189 15 = nI (nvj b q (r - q)) ∧ s2.1 189 16 = nI 0) ∧ (2 < r - q → s2.1 189 16 = nI 1 ∧ s2.1 189 17 = nI q) := by
  have hlen := hB.1
  obtain ⟨t, k1, k2⟩ := lp_inv (body := fun x : St => f_X7_takes_L140 x) (fun i x => x.1 189 12 = nI (q + i) ∧ T7 s x ∧ x.1 189 13 = nI q ∧ x.1 189 14 = s.1 189 14 ∧ x.1 189 15 = nI (nvj b q (min i 2)) ∧ x.1 189 16 = nI 0) (fun t => T7 s t.2 ∧ t.2.1 189 13 = nI q ∧ t.2.1 189 14 = s.1 189 14 ∧ t.2.1 189 12 = nI r ∧ (r - q ≤ 2 → t.2.1 189 15 = nI (nvj b q (r - q)) ∧ t.2.1 189 16 = nI 0) ∧ (2 < r - q → t.2.1 189 16 = nI 1 ∧ t.2.1 189 17 = nI q)) (r - q) (fun i x hi hx => by
    obtain ⟨x1, x2, x3, x4, x5, x6⟩ := hx
    have hB2 : RB x b len := hB.t7 x2
    have h := hrun (q + i) (by omega) (by omega)
    unfold f_X7_takes_L140
    rw [x1, r_byte hB2 (by omega), cl_s, byt_win (fun i hi => (hB.2.2 i hi).1) (by decide) (by decide), cl_s, if_pos (show q + i < len ∧ 48 ≤ b (q + i) ∧ b (q + i) ≤ 57 by omega), if1', x1, x3, pk_sub (by omega), show q + i - q = i by omega]
    by_cases c : i < 2
    · rw [if_neg (nI_ge c (by omega)), r_byte hB2 (by omega), cl_s, x5, show byt b len (q + i) = nI (b (q + i)) from if_pos (by omega), pk_mul, nI_add, pk_sub (by omega)]
      unfold f_X7_takes_J201
      rw [bd_s, bd_s, wI_ne (by decide), x1, nI_add]
      refine ⟨_, rfl, wI_at, x2.tr ((T7.wi (by decide) (by decide)).tr (T7.wi (by decide) (by decide))), ?_, ?_, ?_, ?_⟩
      · rw [wI_ne (by decide), wI_ne (by decide)]; exact x3
      · rw [wI_ne (by decide), wI_ne (by decide)]; exact x4
      · rw [wI_ne (by decide), wI_at, show min i 2 = i by omega, show min (i + 1) 2 = i + 1 by omega, nvj_s, Nat.mul_comm, Nat.add_sub_assoc h.1]
      · rw [wI_ne (by decide), wI_ne (by decide)]; exact x6
    · rw [if_pos (nI_le (by omega) (by omega)), x5]
      unfold f_X7_takes_J201
      rw [bd_s, bd_s, wI_ne (by decide), x1, nI_add]
      refine ⟨_, rfl, wI_at, x2.tr ((T7.wi (by decide) (by decide)).tr (T7.wi (by decide) (by decide))), ?_, ?_, ?_, ?_⟩
      · rw [wI_ne (by decide), wI_ne (by decide)]; exact x3
      · rw [wI_ne (by decide), wI_ne (by decide)]; exact x4
      · rw [wI_ne (by decide), wI_at, show min i 2 = 2 by omega, show min (i + 1) 2 = 2 by omega]
      · rw [wI_ne (by decide), wI_ne (by decide)]; exact x6) (fun x hx => by
    obtain ⟨x1, x2, x3, x4, x5, x6⟩ := hx
    rw [show q + (r - q) = r by omega] at x1
    have hB2 : RB x b len := hB.t7 x2
    unfold f_X7_takes_L140
    rw [x1, r_byte hB2 (by omega), cl_s, byt_win (fun i hi => (hB.2.2 i hi).1) (by decide) (by decide), cl_s, if_neg (show ¬ (r < len ∧ 48 ≤ b r ∧ b r ≤ 57) from fun e => hend e.1 e.2), if0', x1, x3, pk_sub hqr]
    by_cases c : 2 < r - q
    · rw [if_pos ((nI_ltI (by omega) (by omega)).mpr c), r_need0 x6 x3, cl_s]
      refine ⟨_, rfl, x2.tr ((T7.wi (by decide) (by decide)).tr (T7.wi (by decide) (by decide))), ?_, ?_, ?_, fun h => absurd h (by omega), fun _ => ⟨?_, ?_⟩⟩
      · rw [wI_ne (by decide), wI_ne (by decide)]; exact x3
      · rw [wI_ne (by decide), wI_ne (by decide)]; exact x4
      · rw [wI_ne (by decide), wI_ne (by decide)]; exact x1
      · rw [wI_ne (by decide), wI_at]
      · rw [wI_at]
    · rw [if_neg (fun e => c ((nI_ltI (by omega) (by omega)).mp e)), r_need1, cl_s]
      rw [show min (r - q) 2 = r - q by omega] at x5
      exact ⟨_, rfl, x2, x3, x4, x1, fun _ => ⟨x5, x6⟩, fun h => absurd h c⟩) (q := s) ⟨by rw [h12, Nat.add_zero], T7.rf, h13, rfl, h15, h16⟩ (Fu_lt (by omega))
  exact ⟨t.2, k1, k2⟩
/-- the reference has taken t -/
def RA (s : St) (b : Nat → Nat) (t : Nat × Nat × Nat) : Prop := s.1 189 12 = nI t.2.2 ∧ s.1 189 13 = nI t.1 ∧ s.1 189 14 = nI (if t.2.1 = 4 then 3 else t.2.1) ∧ (t.2.1 = 2 → ¬ bad t = true → s.1 189 15 = nI (nv b t)) ∧ s.1 189 16 = (if bad t = true then nI 1 else nI 0) ∧ (bad t = true → s.1 189 17 = nI t.1)
theorem r_sign {s x : St} {b : Nat → Nat} {len p : Nat} {t : Nat × Nat × Nat} (hB : RB s b len) (hT : Tk b len p t) (hF : T7 s x) (h12 : x.1 189 12 = nI t.1) (h16 : x.1 189 16 = nI 0) : ∃ s2, f_X7_takes_L8 x = some (Sum.inr ((), s2)) ∧ T7 s s2 ∧ RA s2 b t := by
  obtain ⟨q, k, r⟩ := t
  have hle := hT.le
  obtain ⟨t1, t2, t3, t4, t5⟩ := hT
  dsimp only at t1 t2 t3 t4 t5 h12 hle
  have hlen := hB.1
  have hb8 : ∀ i, i < len → b i < 128 := fun i hi => (hB.2.2 i hi).1
  have hBx : RB x b len := hB.t7 hF
  have hne : ¬ byt b len q = nI 32 := by
    unfold byt
    by_cases c : q < len
    · rw [if_pos c]
      have := hb8 q c
      exact fun e => t4 c ((nI_eq (by omega) (by omega)).mp e)
    · rw [if_neg c]; decide
  unfold f_X7_takes_L8
  rw [h12, r_byte hBx (by omega), cl_s, if_pos hne, h12, bd_s, wI_ne (by decide), h12]
  generalize hx5 : wI x 189 13 (nI q) = x5
  have F5 : T7 s x5 := by rw [← hx5]; exact hF.tr (T7.wi (by decide) (by decide))
  have g12 : x5.1 189 12 = nI q := by rw [← hx5, wI_ne (by decide)]; exact h12
  have g13 : x5.1 189 13 = nI q := by rw [← hx5, wI_at]
  have g16 : x5.1 189 16 = nI 0 := by rw [← hx5, wI_ne (by decide)]; exact h16
  rw [r_byte (hB.t7 F5) (by omega), cl_s]
  rcases t5 with ⟨z1, z2, z3⟩ | ⟨a1, a2, a3, a4, a5, a6⟩
  · have hbad : ¬ bad (q, k, r) = true := fun e => by
      rcases bad_iff.mp e with h | h
      · dsimp only at h; omega
      · dsimp only at h; omega
    rw [if_neg (by rw [show byt b len q = -1 from if_neg (by omega)]; decide), bd_s]
    refine ⟨_, rfl, F5.tr (T7.wi (by decide) (by decide)), ?_, ?_, ?_, fun h => ?_, ?_, fun h => absurd h hbad⟩
    · rw [wI_ne (by decide), g12]; dsimp only; rw [z1, z3]
    · rw [wI_ne (by decide)]; exact g13
    · rw [wI_at]; dsimp only; rw [z2]; rfl
    · dsimp only at h; omega
    · rw [if_neg hbad, wI_ne (by decide)]; exact g16
  · have hbq := hb8 q a1
    have e59 : byt b len q = nI (b q) := if_pos a1
    rw [if_pos (by rw [e59]; exact nI_pos' (by omega)), byt_win hb8 (by decide) (by decide), cl_s]
    by_cases c1 : k = 1
    · have h1 := tkb_1.mp (a2.symm.trans c1)
      rw [if_pos (show q < len ∧ 97 ≤ b q ∧ b q ≤ 122 from ⟨a1, h1⟩), if1', bd_s]
      obtain ⟨a7, a8⟩ := a6 (by omega)
      have Fy : T7 s (wI x5 189 14 (nI 1)) := F5.tr (T7.wi (by decide) (by decide))
      obtain ⟨s2, z1, z2, z3, z4⟩ := r_name (s := wI x5 189 14 (nI 1)) (q := q) (r := r) (hB.t7 Fy) (by rw [wI_ne (by decide)]; exact g12) (by omega) a4 (fun j u v => tkb_1.mp ((a7 j u v).trans c1)) (fun u v => a8 u ((tkb_1.mpr v).trans c1.symm))
      have hbad : ¬ bad (q, k, r) = true := fun e => by
        rcases bad_iff.mp e with h | h
        · dsimp only at h; omega
        · dsimp only at h; omega
      rw [z1, ox_s]
      refine ⟨_, rfl, Fy.tr ⟨z2, fun j hj => z3 j (by omega)⟩, z4, ?_, ?_, fun h => ?_, ?_, fun h => absurd h hbad⟩
      · rw [z3 13 (by decide), wI_ne (by decide)]; exact g13
      · rw [z3 14 (by decide), wI_at]; dsimp only; rw [c1]; rfl
      · dsimp only at h; omega
      · rw [if_neg hbad, z3 16 (by decide), wI_ne (by decide)]; exact g16
    · rw [if_neg (show ¬ (q < len ∧ 97 ≤ b q ∧ b q ≤ 122) from fun e => c1 (a2.trans (tkb_1.mpr e.2))), if0', byt_win hb8 (by decide) (by decide), cl_s]
      by_cases c2 : k = 2
      · have h2 := tkb_2.mp (a2.symm.trans c2)
        rw [if_pos (show q < len ∧ 48 ≤ b q ∧ b q ≤ 57 from ⟨a1, h2⟩), if1', bd_s, bd_s]
        obtain ⟨a7, a8⟩ := a6 (by omega)
        have Fy : T7 s (wI (wI x5 189 14 (nI 2)) 189 15 (nI 0)) := F5.tr ((T7.wi (by decide) (by decide)).tr (T7.wi (by decide) (by decide)))
        obtain ⟨s2, z1, z2, z3, z4, z5, z6, z7⟩ := r_digs (s := wI (wI x5 189 14 (nI 2)) 189 15 (nI 0)) (q := q) (r := r) (hB.t7 Fy) (by rw [wI_ne (by decide), wI_ne (by decide)]; exact g12) (by rw [wI_ne (by decide), wI_ne (by decide)]; exact g13) (by rw [wI_at]) (by rw [wI_ne (by decide), wI_ne (by decide)]; exact g16) (by omega) a4 (fun j u v => tkb_2.mp ((a7 j u v).trans c2)) (fun u v => a8 u ((tkb_2.mpr v).trans c2.symm))
        rw [z1, ox_s]
        refine ⟨_, rfl, Fy.tr z2, z5, z3, ?_, fun h hb => ?_, ?_, fun h => ?_⟩
        · rw [z4, wI_ne (by decide), wI_at]; dsimp only; rw [c2]; rfl
        · have : r - q ≤ 2 := by
            rcases Nat.lt_or_ge 2 (r - q) with u | u
            · exact absurd (bad_iff.mpr (Or.inr ⟨c2, u⟩)) hb
            · exact u
          exact (z6 this).1
        · by_cases cb : bad (q, k, r) = true
          · rw [if_pos cb]
            rcases bad_iff.mp cb with u | u
            · dsimp only at u; omega
            · exact (z7 u.2).1
          · rw [if_neg cb]
            rcases Nat.lt_or_ge 2 (r - q) with u | u
            · exact absurd (bad_iff.mpr (Or.inr ⟨c2, u⟩)) cb
            · exact (z6 u).2
        · rcases bad_iff.mp h with u | u
          · dsimp only at u; omega
          · exact (z7 u.2).2
      · rw [if_neg (show ¬ (q < len ∧ 48 ≤ b q ∧ b q ≤ 57) from fun e => c2 (a2.trans (tkb_2.mpr e.2))), if0', bd_s, e59]
        have hk := tkb_rng (b q)
        have er : r = q + 1 := a5 (by omega)
        have Fy : T7 s (wI x5 189 14 (nI 3)) := F5.tr (T7.wi (by decide) (by decide))
        by_cases c3 : k = 3
        · have h59 := tkb_3.mp (a2.symm.trans c3)
          have hbad : ¬ bad (q, k, r) = true := fun e => by
            rcases bad_iff.mp e with h | h
            · dsimp only at h; omega
            · dsimp only at h; omega
          rw [if_neg (fun e => e (by rw [h59]))]
          unfold f_X7_takes_J260
          rw [r_need1, cl_s, bd_s, ox_s, wI_ne (by decide), g12, nI_add]
          refine ⟨_, rfl, Fy.tr (T7.wi (by decide) (by decide)), ?_, ?_, ?_, fun h => ?_, ?_, fun h => absurd h hbad⟩
          · rw [wI_at]; dsimp only; rw [er]
          · rw [wI_ne (by decide), wI_ne (by decide)]; exact g13
          · rw [wI_ne (by decide), wI_at]; dsimp only; rw [c3]; rfl
          · dsimp only at h; omega
          · rw [if_neg hbad, wI_ne (by decide), wI_ne (by decide)]; exact g16
        · have c4 : k = 4 := by omega
          have hbad : bad (q, k, r) = true := bad_iff.mpr (Or.inl c4)
          rw [if_pos (fun e => c3 (a2.trans (tkb_3.mpr ((nI_eq (by omega) (by omega)).mp e))))]
          unfold f_X7_takes_J260
          rw [r_need0 (s := wI x5 189 14 (nI 3)) (q := q) (by rw [wI_ne (by decide)]; exact g16) (by rw [wI_ne (by decide)]; exact g13), cl_s, bd_s, ox_s, wI_ne (by decide), wI_ne (by decide), wI_ne (by decide), g12, nI_add]
          refine ⟨_, rfl, Fy.tr ((T7.wi (by decide) (by decide)).tr ((T7.wi (by decide) (by decide)).tr (T7.wi (by decide) (by decide)))), ?_, ?_, ?_, fun h => ?_, ?_, fun h => ?_⟩
          · rw [wI_at]; dsimp only; rw [er]
          · rw [wI_ne (by decide), wI_ne (by decide), wI_ne (by decide), wI_ne (by decide)]; exact g13
          · rw [wI_ne (by decide), wI_ne (by decide), wI_ne (by decide), wI_at]; dsimp only; rw [c4]; rfl
          · dsimp only at h; omega
          · rw [if_pos hbad, wI_ne (by decide), wI_ne (by decide), wI_at]
          · rw [wI_ne (by decide), wI_at]
theorem r_takes {s : St} {b : Nat → Nat} {len p : Nat} (hB : RB s b len) (hp : p ≤ len) (h12 : s.1 189 12 = nI p) (h16 : s.1 189 16 = nI 0) : ∃ s2, f_X7_takes s = some ((), s2) ∧ T7 s s2 ∧ RA s2 b (tok b len p) := by
  have hT := tok_ok (b := b) hp
  have hlen := hB.1
  generalize tok b len p = t at hT ⊢
  have hle := hT.le
  obtain ⟨t1, t2, t3, t4, t5⟩ := id hT
  unfold f_X7_takes
  rw [h16, if_pos (by decide)]
  obtain ⟨u, k1, k2⟩ := lp_inv (body := fun x : St => f_X7_takes_L8 x) (fun i x => x.1 189 12 = nI (p + i) ∧ T7 s x ∧ x.1 189 16 = nI 0) (fun u => T7 s u.2 ∧ RA u.2 b t) (t.1 - p) (fun i x hi hx => by
    obtain ⟨x1, x2, x3⟩ := hx
    unfold f_X7_takes_L8
    rw [x1, r_byte (hB.t7 x2) (by omega), cl_s, show byt b len (p + i) = nI (b (p + i)) from if_pos (by omega), t3 (p + i) (by omega) (by omega), if_neg (fun e => e rfl), bd_s, x1, nI_add]
    refine ⟨_, rfl, wI_at, x2.tr (T7.wi (by decide) (by decide)), ?_⟩
    rw [wI_ne (by decide)]; exact x3) (fun x hx => by
    obtain ⟨x1, x2, x3⟩ := hx
    rw [show p + (t.1 - p) = t.1 by omega] at x1
    obtain ⟨s2, z1, z2, z3⟩ := r_sign hB hT x2 x1 x3
    exact ⟨_, z1, z2, z3⟩) (q := s) ⟨by rw [h12, Nat.add_zero], T7.rf, h16⟩ (Fu_lt (by omega))
  exact ⟨u.2, k1, k2⟩

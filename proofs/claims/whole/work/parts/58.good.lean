/-! one number of the state is changed; the state of class and reference side by side -/
theorem rr_kind {s : St} {r nl ns : Nat} {g : Nat → Nat} (h : RR s r nl ns g) (hn : nl ≤ 3) (hm : ns ≤ 4) {l v : Nat} (hl : l < nl) : RR (wI s (r + 1) l (nI v)) r nl ns (up g (4 * l) v) := by
  obtain ⟨q0, q1, q2, q3, q4, q5, q6, q7, q8, q9⟩ := h
  refine ⟨by simp (disch := omega) only [wI_1o]; exact q0, by simp (disch := omega) only [wI_1o]; exact q1, by simp (disch := omega) only [wI_1o, up_o]; exact q2, fun k hk => ?_, fun k hk => ?_, fun k hk => ?_, fun k hk => ?_, fun k hk => ?_, fun k hk => ?_, fun k hk => ?_⟩
  · refine ⟨?_, ?_, ?_, ?_⟩
    · by_cases e : k = l
      · subst e; rw [wI_at, up_k]
      · rw [wI_ne e, up_o (by omega)]; exact (q3 k hk).1
    · simp (disch := omega) only [wI_1o, up_o]; exact (q3 k hk).2.1
    · simp (disch := omega) only [wI_1o, up_o]; exact (q3 k hk).2.2.1
    · simp (disch := omega) only [wI_1o, up_o]; exact (q3 k hk).2.2.2
  · simp (disch := omega) only [wI_1o, up_o, al_out]; exact q4 k hk
  · simp (disch := omega) only [wI_1o, up_o]; exact q5 k hk
  · refine ⟨?_, ?_⟩
    · simp (disch := omega) only [wI_1o, up_o]; exact (q6 k hk).1
    · simp (disch := omega) only [wI_1o, up_o]; exact (q6 k hk).2
  · simp (disch := omega) only [wI_1o, up_o]; exact q7 k hk
  · simp (disch := omega) only [wI_1o, up_o]; exact q8 k hk
  · simp (disch := omega) only [wI_1o, up_o]; exact q9 k hk
theorem rr_table {s : St} {r nl ns : Nat} {g : Nat → Nat} (h : RR s r nl ns g) (hn : nl ≤ 3) (hm : ns ≤ 4) {l v : Nat} (hl : l < nl) : RR (wI s (r + 2) l (nI v)) r nl ns (up g (4 * l + 1) v) := by
  obtain ⟨q0, q1, q2, q3, q4, q5, q6, q7, q8, q9⟩ := h
  refine ⟨by simp (disch := omega) only [wI_1o]; exact q0, by simp (disch := omega) only [wI_1o]; exact q1, by simp (disch := omega) only [wI_1o, up_o]; exact q2, fun k hk => ?_, fun k hk => ?_, fun k hk => ?_, fun k hk => ?_, fun k hk => ?_, fun k hk => ?_, fun k hk => ?_⟩
  · refine ⟨?_, ?_, ?_, ?_⟩
    · simp (disch := omega) only [wI_1o, up_o]; exact (q3 k hk).1
    · by_cases e : k = l
      · subst e; rw [wI_at, up_k]
      · rw [wI_ne e, up_o (by omega)]; exact (q3 k hk).2.1
    · simp (disch := omega) only [wI_1o, up_o]; exact (q3 k hk).2.2.1
    · simp (disch := omega) only [wI_1o, up_o]; exact (q3 k hk).2.2.2
  · simp (disch := omega) only [wI_1o, up_o, al_out]; exact q4 k hk
  · simp (disch := omega) only [wI_1o, up_o]; exact q5 k hk
  · refine ⟨?_, ?_⟩
    · simp (disch := omega) only [wI_1o, up_o]; exact (q6 k hk).1
    · simp (disch := omega) only [wI_1o, up_o]; exact (q6 k hk).2
  · simp (disch := omega) only [wI_1o, up_o]; exact q7 k hk
  · simp (disch := omega) only [wI_1o, up_o]; exact q8 k hk
  · simp (disch := omega) only [wI_1o, up_o]; exact q9 k hk
theorem rr_pace {s : St} {r nl ns : Nat} {g : Nat → Nat} (h : RR s r nl ns g) (hn : nl ≤ 3) (hm : ns ≤ 4) {l v : Nat} (hl : l < nl) : RR (wI s (r + 3) l (nI v)) r nl ns (up g (4 * l + 2) v) := by
  obtain ⟨q0, q1, q2, q3, q4, q5, q6, q7, q8, q9⟩ := h
  refine ⟨by simp (disch := omega) only [wI_1o]; exact q0, by simp (disch := omega) only [wI_1o]; exact q1, by simp (disch := omega) only [wI_1o, up_o]; exact q2, fun k hk => ?_, fun k hk => ?_, fun k hk => ?_, fun k hk => ?_, fun k hk => ?_, fun k hk => ?_, fun k hk => ?_⟩
  · refine ⟨?_, ?_, ?_, ?_⟩
    · simp (disch := omega) only [wI_1o, up_o]; exact (q3 k hk).1
    · simp (disch := omega) only [wI_1o, up_o]; exact (q3 k hk).2.1
    · by_cases e : k = l
      · subst e; rw [wI_at, up_k]
      · rw [wI_ne e, up_o (by omega)]; exact (q3 k hk).2.2.1
    · simp (disch := omega) only [wI_1o, up_o]; exact (q3 k hk).2.2.2
  · simp (disch := omega) only [wI_1o, up_o, al_out]; exact q4 k hk
  · simp (disch := omega) only [wI_1o, up_o]; exact q5 k hk
  · refine ⟨?_, ?_⟩
    · simp (disch := omega) only [wI_1o, up_o]; exact (q6 k hk).1
    · simp (disch := omega) only [wI_1o, up_o]; exact (q6 k hk).2
  · simp (disch := omega) only [wI_1o, up_o]; exact q7 k hk
  · simp (disch := omega) only [wI_1o, up_o]; exact q8 k hk
  · simp (disch := omega) only [wI_1o, up_o]; exact q9 k hk
theorem rr_left {s : St} {r nl ns : Nat} {g : Nat → Nat} (h : RR s r nl ns g) (hn : nl ≤ 3) (hm : ns ≤ 4) {l v : Nat} (hl : l < nl) : RR (wI s (r + 4) l (nI v)) r nl ns (up g (4 * l + 3) v) := by
  obtain ⟨q0, q1, q2, q3, q4, q5, q6, q7, q8, q9⟩ := h
  refine ⟨by simp (disch := omega) only [wI_1o]; exact q0, by simp (disch := omega) only [wI_1o]; exact q1, by simp (disch := omega) only [wI_1o, up_o]; exact q2, fun k hk => ?_, fun k hk => ?_, fun k hk => ?_, fun k hk => ?_, fun k hk => ?_, fun k hk => ?_, fun k hk => ?_⟩
  · refine ⟨?_, ?_, ?_, ?_⟩
    · simp (disch := omega) only [wI_1o, up_o]; exact (q3 k hk).1
    · simp (disch := omega) only [wI_1o, up_o]; exact (q3 k hk).2.1
    · simp (disch := omega) only [wI_1o, up_o]; exact (q3 k hk).2.2.1
    · by_cases e : k = l
      · subst e; rw [wI_at, up_k]
      · rw [wI_ne e, up_o (by omega)]; exact (q3 k hk).2.2.2
  · simp (disch := omega) only [wI_1o, up_o, al_out]; exact q4 k hk
  · simp (disch := omega) only [wI_1o, up_o]; exact q5 k hk
  · refine ⟨?_, ?_⟩
    · simp (disch := omega) only [wI_1o, up_o]; exact (q6 k hk).1
    · simp (disch := omega) only [wI_1o, up_o]; exact (q6 k hk).2
  · simp (disch := omega) only [wI_1o, up_o]; exact q7 k hk
  · simp (disch := omega) only [wI_1o, up_o]; exact q8 k hk
  · simp (disch := omega) only [wI_1o, up_o]; exact q9 k hk
theorem rr_place {s : St} {r nl ns : Nat} {g : Nat → Nat} (h : RR s r nl ns g) (hn : nl ≤ 3) (hm : ns ≤ 4) {l v : Nat} (hl : l < ns) : RR (wI s (r + 8) l (nI v)) r nl ns (up g (12 + 2 * l) v) := by
  obtain ⟨q0, q1, q2, q3, q4, q5, q6, q7, q8, q9⟩ := h
  refine ⟨by simp (disch := omega) only [wI_1o]; exact q0, by simp (disch := omega) only [wI_1o]; exact q1, by simp (disch := omega) only [wI_1o, up_o]; exact q2, fun k hk => ?_, fun k hk => ?_, fun k hk => ?_, fun k hk => ?_, fun k hk => ?_, fun k hk => ?_, fun k hk => ?_⟩
  · refine ⟨?_, ?_, ?_, ?_⟩
    · simp (disch := omega) only [wI_1o, up_o]; exact (q3 k hk).1
    · simp (disch := omega) only [wI_1o, up_o]; exact (q3 k hk).2.1
    · simp (disch := omega) only [wI_1o, up_o]; exact (q3 k hk).2.2.1
    · simp (disch := omega) only [wI_1o, up_o]; exact (q3 k hk).2.2.2
  · simp (disch := omega) only [wI_1o, up_o, al_out]; exact q4 k hk
  · simp (disch := omega) only [wI_1o, up_o]; exact q5 k hk
  · refine ⟨?_, ?_⟩
    · by_cases e : k = l
      · subst e; rw [wI_at, up_k]
      · rw [wI_ne e, up_o (by omega)]; exact (q6 k hk).1
    · simp (disch := omega) only [wI_1o, up_o]; exact (q6 k hk).2
  · simp (disch := omega) only [wI_1o, up_o]; exact q7 k hk
  · simp (disch := omega) only [wI_1o, up_o]; exact q8 k hk
  · simp (disch := omega) only [wI_1o, up_o]; exact q9 k hk
theorem rr_sleeve {s : St} {r nl ns : Nat} {g : Nat → Nat} (h : RR s r nl ns g) (hn : nl ≤ 3) (hm : ns ≤ 4) {l v : Nat} (hl : l < ns) : RR (wI s (r + 9) l (nI v)) r nl ns (up g (13 + 2 * l) v) := by
  obtain ⟨q0, q1, q2, q3, q4, q5, q6, q7, q8, q9⟩ := h
  refine ⟨by simp (disch := omega) only [wI_1o]; exact q0, by simp (disch := omega) only [wI_1o]; exact q1, by simp (disch := omega) only [wI_1o, up_o]; exact q2, fun k hk => ?_, fun k hk => ?_, fun k hk => ?_, fun k hk => ?_, fun k hk => ?_, fun k hk => ?_, fun k hk => ?_⟩
  · refine ⟨?_, ?_, ?_, ?_⟩
    · simp (disch := omega) only [wI_1o, up_o]; exact (q3 k hk).1
    · simp (disch := omega) only [wI_1o, up_o]; exact (q3 k hk).2.1
    · simp (disch := omega) only [wI_1o, up_o]; exact (q3 k hk).2.2.1
    · simp (disch := omega) only [wI_1o, up_o]; exact (q3 k hk).2.2.2
  · simp (disch := omega) only [wI_1o, up_o, al_out]; exact q4 k hk
  · simp (disch := omega) only [wI_1o, up_o]; exact q5 k hk
  · refine ⟨?_, ?_⟩
    · simp (disch := omega) only [wI_1o, up_o]; exact (q6 k hk).1
    · by_cases e : k = l
      · subst e; rw [wI_at, up_k]
      · rw [wI_ne e, up_o (by omega)]; exact (q6 k hk).2
  · simp (disch := omega) only [wI_1o, up_o]; exact q7 k hk
  · simp (disch := omega) only [wI_1o, up_o]; exact q8 k hk
  · simp (disch := omega) only [wI_1o, up_o]; exact q9 k hk
theorem rr_way {s : St} {r nl ns : Nat} {g : Nat → Nat} (h : RR s r nl ns g) (hn : nl ≤ 3) (hm : ns ≤ 4) {l v : Nat} (hl : l < 6) : RR (wI s (r + 11) l (nI v)) r nl ns (up g (32 + l) v) := by
  obtain ⟨q0, q1, q2, q3, q4, q5, q6, q7, q8, q9⟩ := h
  refine ⟨by simp (disch := omega) only [wI_1o]; exact q0, by simp (disch := omega) only [wI_1o]; exact q1, by simp (disch := omega) only [wI_1o, up_o]; exact q2, fun k hk => ?_, fun k hk => ?_, fun k hk => ?_, fun k hk => ?_, fun k hk => ?_, fun k hk => ?_, fun k hk => ?_⟩
  · refine ⟨?_, ?_, ?_, ?_⟩
    · simp (disch := omega) only [wI_1o, up_o]; exact (q3 k hk).1
    · simp (disch := omega) only [wI_1o, up_o]; exact (q3 k hk).2.1
    · simp (disch := omega) only [wI_1o, up_o]; exact (q3 k hk).2.2.1
    · simp (disch := omega) only [wI_1o, up_o]; exact (q3 k hk).2.2.2
  · simp (disch := omega) only [wI_1o, up_o, al_out]; exact q4 k hk
  · simp (disch := omega) only [wI_1o, up_o]; exact q5 k hk
  · refine ⟨?_, ?_⟩
    · simp (disch := omega) only [wI_1o, up_o]; exact (q6 k hk).1
    · simp (disch := omega) only [wI_1o, up_o]; exact (q6 k hk).2
  · simp (disch := omega) only [wI_1o, up_o]; exact q7 k hk
  · by_cases e : k = l
    · subst e; rw [wI_at, up_k]
    · rw [wI_ne e, up_o (by omega)]; exact q8 k hk
  · simp (disch := omega) only [wI_1o, up_o]; exact q9 k hk
theorem rr_price {s : St} {r nl ns : Nat} {g : Nat → Nat} (h : RR s r nl ns g) (hn : nl ≤ 3) (hm : ns ≤ 4) {l v : Nat} (hl : l < 4) : RR (wI s (r + 12) l (nI v)) r nl ns (up g (38 + l) v) := by
  obtain ⟨q0, q1, q2, q3, q4, q5, q6, q7, q8, q9⟩ := h
  refine ⟨by simp (disch := omega) only [wI_1o]; exact q0, by simp (disch := omega) only [wI_1o]; exact q1, by simp (disch := omega) only [wI_1o, up_o]; exact q2, fun k hk => ?_, fun k hk => ?_, fun k hk => ?_, fun k hk => ?_, fun k hk => ?_, fun k hk => ?_, fun k hk => ?_⟩
  · refine ⟨?_, ?_, ?_, ?_⟩
    · simp (disch := omega) only [wI_1o, up_o]; exact (q3 k hk).1
    · simp (disch := omega) only [wI_1o, up_o]; exact (q3 k hk).2.1
    · simp (disch := omega) only [wI_1o, up_o]; exact (q3 k hk).2.2.1
    · simp (disch := omega) only [wI_1o, up_o]; exact (q3 k hk).2.2.2
  · simp (disch := omega) only [wI_1o, up_o, al_out]; exact q4 k hk
  · simp (disch := omega) only [wI_1o, up_o]; exact q5 k hk
  · refine ⟨?_, ?_⟩
    · simp (disch := omega) only [wI_1o, up_o]; exact (q6 k hk).1
    · simp (disch := omega) only [wI_1o, up_o]; exact (q6 k hk).2
  · simp (disch := omega) only [wI_1o, up_o]; exact q7 k hk
  · simp (disch := omega) only [wI_1o, up_o]; exact q8 k hk
  · by_cases e : k = l
    · subst e; rw [wI_at, up_k]
    · rw [wI_ne e, up_o (by omega)]; exact q9 k hk
theorem tot_up {g : Nat → Nat} {l k v : Nat} (hl : l < 3) (h : (k < 12 ∧ k % 4 ≠ 3) ∨ (12 ≤ k ∧ k < 20) ∨ (32 ≤ k ∧ k ≤ 42) ∨ 106 ≤ k) : tot (up g k v) l = tot g l := by
  unfold tot
  rw [up_o (by omega), up_o (by omega), al_out (by omega), hd_out (fun i hi => by omega)]
theorem tot_left {g : Nat → Nat} {l k v : Nat} (hl : l < 3) (hk : k < 3) : tot (up g (4 * k + 3) v) l + (if l = k then g (4 * k + 3) else 0) = tot g l + (if l = k then v else 0) := by
  unfold tot
  rw [up_o (j := 103 + l) (by omega), al_out (by omega), hd_out (fun i hi => by omega)]
  by_cases e : l = k
  · subst e
    rw [if_pos rfl, if_pos rfl, up_k]; omega
  · rw [if_neg e, if_neg e, up_o (by omega)]
theorem wf_T {nl ns T T2 : Nat} {g : Nat → Nat} (h : WF nl ns T g) (h1 : T ≤ T2) (h2 : T2 ≤ 20000) : WF nl ns T2 g := by
  obtain ⟨a1, a2, a3, a4, a5, a6, a7, a8, a9, a10, a11⟩ := h
  exact ⟨a1, a2, h2, a4, a5, a6, a7, a8, fun l hl => Nat.le_trans (a9 l hl) h1, a10, a11⟩

theorem wf_kind {nl ns T : Nat} {g : Nat → Nat} (h : WF nl ns T g) {l v : Nat} (hl : l < nl) (hv : v ≤ 3) : WF nl ns T (up g (4 * l) v) := by
  obtain ⟨a1, a2, a3, a4, a5, a6, a7, a8, a9, a10, a11⟩ := h
  refine ⟨a1, a2, a3, fun k hk => ?_, fun k hk => ?_, fun k hk => ?_, fun k hk => ?_, ?_, fun k hk => ?_, fun k hk h2 => ?_, fun i k hi hk h2 => ?_⟩
  · have q := a4 k hk
    by_cases e : k = l
    · subst e; simp (disch := omega) only [up_o, up_k]; omega
    · simp (disch := omega) only [up_o]; exact q
  · simp (disch := omega) only [up_o]; exact a5 k hk
  · rw [up_o (by omega)]; exact a6 k hk
  · rw [up_o (by omega)]; exact a7 k hk
  · rw [up_o (by omega)]; exact a8
  · rw [tot_up hk (by omega)]; exact a9 k hk
  · rw [tot_up hk (by omega)]; exact a10 k hk h2
  · rw [up_o (by omega)]; exact a11 i k hi hk h2
theorem wf_table {nl ns T : Nat} {g : Nat → Nat} (h : WF nl ns T g) {l v : Nat} (hl : l < nl) (hv : v < 20) : WF nl ns T (up g (4 * l + 1) v) := by
  obtain ⟨a1, a2, a3, a4, a5, a6, a7, a8, a9, a10, a11⟩ := h
  refine ⟨a1, a2, a3, fun k hk => ?_, fun k hk => ?_, fun k hk => ?_, fun k hk => ?_, ?_, fun k hk => ?_, fun k hk h2 => ?_, fun i k hi hk h2 => ?_⟩
  · have q := a4 k hk
    by_cases e : k = l
    · subst e; simp (disch := omega) only [up_o, up_k]; omega
    · simp (disch := omega) only [up_o]; exact q
  · simp (disch := omega) only [up_o]; exact a5 k hk
  · rw [up_o (by omega)]; exact a6 k hk
  · rw [up_o (by omega)]; exact a7 k hk
  · rw [up_o (by omega)]; exact a8
  · rw [tot_up hk (by omega)]; exact a9 k hk
  · rw [tot_up hk (by omega)]; exact a10 k hk h2
  · rw [up_o (by omega)]; exact a11 i k hi hk h2
theorem wf_pace {nl ns T : Nat} {g : Nat → Nat} (h : WF nl ns T g) {l v : Nat} (hl : l < nl) (hv : 1 ≤ v ∧ v ≤ 9) : WF nl ns T (up g (4 * l + 2) v) := by
  obtain ⟨a1, a2, a3, a4, a5, a6, a7, a8, a9, a10, a11⟩ := h
  refine ⟨a1, a2, a3, fun k hk => ?_, fun k hk => ?_, fun k hk => ?_, fun k hk => ?_, ?_, fun k hk => ?_, fun k hk h2 => ?_, fun i k hi hk h2 => ?_⟩
  · have q := a4 k hk
    by_cases e : k = l
    · subst e; simp (disch := omega) only [up_o, up_k]; omega
    · simp (disch := omega) only [up_o]; exact q
  · simp (disch := omega) only [up_o]; exact a5 k hk
  · rw [up_o (by omega)]; exact a6 k hk
  · rw [up_o (by omega)]; exact a7 k hk
  · rw [up_o (by omega)]; exact a8
  · rw [tot_up hk (by omega)]; exact a9 k hk
  · rw [tot_up hk (by omega)]; exact a10 k hk h2
  · rw [up_o (by omega)]; exact a11 i k hi hk h2
theorem wf_place {nl ns T : Nat} {g : Nat → Nat} (h : WF nl ns T g) {l v : Nat} (hl : l < ns) (hv : v < 20) : WF nl ns T (up g (12 + 2 * l) v) := by
  obtain ⟨a1, a2, a3, a4, a5, a6, a7, a8, a9, a10, a11⟩ := h
  refine ⟨a1, a2, a3, fun k hk => ?_, fun k hk => ?_, fun k hk => ?_, fun k hk => ?_, ?_, fun k hk => ?_, fun k hk h2 => ?_, fun i k hi hk h2 => ?_⟩
  · simp (disch := omega) only [up_o]; exact a4 k hk
  · have q := a5 k hk
    by_cases e : k = l
    · subst e; simp (disch := omega) only [up_o, up_k]; omega
    · simp (disch := omega) only [up_o]; exact q
  · rw [up_o (by omega)]; exact a6 k hk
  · rw [up_o (by omega)]; exact a7 k hk
  · rw [up_o (by omega)]; exact a8
  · rw [tot_up hk (by omega)]; exact a9 k hk
  · rw [tot_up hk (by omega)]; exact a10 k hk h2
  · rw [up_o (by omega)]; exact a11 i k hi hk h2
theorem wf_sleeve {nl ns T : Nat} {g : Nat → Nat} (h : WF nl ns T g) {l v : Nat} (hl : l < ns) (hv : v ≤ 9) : WF nl ns T (up g (13 + 2 * l) v) := by
  obtain ⟨a1, a2, a3, a4, a5, a6, a7, a8, a9, a10, a11⟩ := h
  refine ⟨a1, a2, a3, fun k hk => ?_, fun k hk => ?_, fun k hk => ?_, fun k hk => ?_, ?_, fun k hk => ?_, fun k hk h2 => ?_, fun i k hi hk h2 => ?_⟩
  · simp (disch := omega) only [up_o]; exact a4 k hk
  · have q := a5 k hk
    by_cases e : k = l
    · subst e; simp (disch := omega) only [up_o, up_k]; omega
    · simp (disch := omega) only [up_o]; exact q
  · rw [up_o (by omega)]; exact a6 k hk
  · rw [up_o (by omega)]; exact a7 k hk
  · rw [up_o (by omega)]; exact a8
  · rw [tot_up hk (by omega)]; exact a9 k hk
  · rw [tot_up hk (by omega)]; exact a10 k hk h2
  · rw [up_o (by omega)]; exact a11 i k hi hk h2
theorem wf_way {nl ns T : Nat} {g : Nat → Nat} (h : WF nl ns T g) {l v : Nat} (hl : l < 6) (hv : v ≤ 4) : WF nl ns T (up g (32 + l) v) := by
  obtain ⟨a1, a2, a3, a4, a5, a6, a7, a8, a9, a10, a11⟩ := h
  refine ⟨a1, a2, a3, fun k hk => ?_, fun k hk => ?_, fun k hk => ?_, fun k hk => ?_, ?_, fun k hk => ?_, fun k hk h2 => ?_, fun i k hi hk h2 => ?_⟩
  · simp (disch := omega) only [up_o]; exact a4 k hk
  · simp (disch := omega) only [up_o]; exact a5 k hk
  · by_cases e : k = l
    · subst e; rw [up_k]; exact hv
    · rw [up_o (by omega)]; exact a6 k hk
  · rw [up_o (by omega)]; exact a7 k hk
  · rw [up_o (by omega)]; exact a8
  · rw [tot_up hk (by omega)]; exact a9 k hk
  · rw [tot_up hk (by omega)]; exact a10 k hk h2
  · rw [up_o (by omega)]; exact a11 i k hi hk h2
theorem wf_price {nl ns T : Nat} {g : Nat → Nat} (h : WF nl ns T g) {l v : Nat} (hl : l < 4) (hv : v ≤ 9) : WF nl ns T (up g (38 + l) v) := by
  obtain ⟨a1, a2, a3, a4, a5, a6, a7, a8, a9, a10, a11⟩ := h
  refine ⟨a1, a2, a3, fun k hk => ?_, fun k hk => ?_, fun k hk => ?_, fun k hk => ?_, ?_, fun k hk => ?_, fun k hk h2 => ?_, fun i k hi hk h2 => ?_⟩
  · simp (disch := omega) only [up_o]; exact a4 k hk
  · simp (disch := omega) only [up_o]; exact a5 k hk
  · rw [up_o (by omega)]; exact a6 k hk
  · by_cases e : k = l
    · subst e; rw [up_k]; exact hv
    · rw [up_o (by omega)]; exact a7 k hk
  · rw [up_o (by omega)]; exact a8
  · rw [tot_up hk (by omega)]; exact a9 k hk
  · rw [tot_up hk (by omega)]; exact a10 k hk h2
  · rw [up_o (by omega)]; exact a11 i k hi hk h2
theorem wf_left {nl ns T : Nat} {g : Nat → Nat} (h : WF nl ns T g) {l v : Nat} (hl : l < nl) (hv : v ≤ 99) (hT : T + 99 ≤ 20000) : WF nl ns (T + 99) (up g (4 * l + 3) v) := by
  obtain ⟨a1, a2, a3, a4, a5, a6, a7, a8, a9, a10, a11⟩ := h
  refine ⟨a1, a2, hT, fun k hk => ?_, fun k hk => ?_, fun k hk => ?_, fun k hk => ?_, ?_, fun k hk => ?_, fun k hk h2 => ?_, fun i k hi hk h2 => ?_⟩
  · have q := a4 k hk
    by_cases e : k = l
    · subst e; simp (disch := omega) only [up_o, up_k]; omega
    · simp (disch := omega) only [up_o]; exact q
  · simp (disch := omega) only [up_o]; exact a5 k hk
  · rw [up_o (by omega)]; exact a6 k hk
  · rw [up_o (by omega)]; exact a7 k hk
  · rw [up_o (by omega)]; exact a8
  · have q := tot_left (g := g) (l := k) (k := l) (v := v) hk (by omega)
    have q2 := a9 k hk
    by_cases e : k = l
    · rw [if_pos e, if_pos e] at q; omega
    · rw [if_neg e, if_neg e] at q; omega
  · have q := tot_left (g := g) (l := k) (k := l) (v := v) hk (by omega)
    have q2 := a10 k hk h2
    rw [if_neg (by omega), if_neg (by omega)] at q; omega
  · rw [up_o (by omega)]; exact a11 i k hi hk h2
/-- an image -/
def KI (n : Nat) (s : St) (nl ns k : Nat) : Prop := (s.1 (143 + 19 * k) 0 = nI 0 ∧ s.1 192 k = nI 0) ∨ (s.1 (143 + 19 * k) 0 = nI 1 ∧ s.1 192 k = nI 1 ∧ ∃ h, RR s (144 + 19 * k) nl ns h ∧ SR s (157 + 19 * k) h ∧ WF nl ns (99 * (n + 1)) h ∧ WS nl ns h ∧ h 42 ≤ 999 ∧ ∀ j, j < 131 → s.1 190 (131 * (k + 1) + j) = nI (h j))
/-- the tape -/
def TP (s : St) : Prop := ∃ len, len ≤ 160 ∧ s.1 33 1 = nI len ∧ s.1 189 11 = nI len ∧ (∀ i, i < len → ∃ b, b < 128 ∧ s.1 34 i = nI b ∧ s.1 194 i = nI b) ∧ s.1 33 2 = s.1 189 16
/-- a sheet -/
def SH (s : St) (k : Nat) : Prop := ((s.1 (181 + 2 * k) 0 = -1 ∧ s.1 197 k = -4) ∨ ∃ L, L < 3 ∧ s.1 (181 + 2 * k) 0 = nI L ∧ s.1 197 k = nI L) ∧ (∃ z, z ≤ 40 ∧ s.1 (181 + 2 * k) 1 = nI z ∧ s.1 198 k = nI z) ∧ ∀ i, i < 40 → s.1 (182 + 2 * k) i = s.1 199 (40 * k + i)
def Gd (n : Nat) (s : St) (nl ns : Nat) (g : Nat → Nat) : Prop :=
  RR s 1 nl ns g ∧ WF nl ns (99 * (n + 1)) g ∧ g 42 ≤ 999 ∧ SR s 27 g ∧ WS nl ns g ∧
  s.1 189 3 = nI nl ∧ s.1 189 4 = nI ns ∧ (∀ j, j < 131 → s.1 190 j = nI (g j)) ∧
  (∀ k, k < 2 → KI n s nl ns k) ∧ TP s ∧ (∀ k, k < 4 → SH s k) ∧ s.1 0 8 = s.1 189 26
def Good (n : Nat) (s : St) : Prop := n < 66 ∧ ∃ nl ns g, Gd n s nl ns g
theorem KI.cong {n : Nat} {s s2 : St} {nl ns k : Nat} (h : KI n s nl ns k) (hk : k < 2) (h1 : ∀ j, 143 ≤ j → j < 181 → s2.1 j = s.1 j) (h2 : s2.1 192 = s.1 192) (h3 : ∀ j, 131 ≤ j → s2.1 190 j = s.1 190 j) : KI n s2 nl ns k := by
  unfold KI at h ⊢
  rw [h1 (143 + 19 * k) (by omega) (by omega), h2]
  rcases h with h | ⟨a1, a2, q, b1, b2, b3, b4, b5, b6⟩
  · exact Or.inl h
  · refine Or.inr ⟨a1, a2, q, ?_, ?_, b3, b4, b5, fun j hj => by rw [h3 _ (by omega)]; exact b6 j hj⟩
    · unfold RR at b1 ⊢
      simp (disch := omega) only [h1]
      exact b1
    · unfold SR at b2 ⊢
      simp (disch := omega) only [h1]
      exact b2
theorem KI.mono {n : Nat} {s : St} {nl ns k : Nat} (h : KI n s nl ns k) (hn : n < 100) : KI (n + 1) s nl ns k := by
  unfold KI at h ⊢
  rcases h with h | ⟨a1, a2, q, b1, b2, b3, b4⟩
  · exact Or.inl h
  · exact Or.inr ⟨a1, a2, q, b1, b2, wf_T b3 (by omega) (by omega), b4⟩
theorem TP.cong {s s2 : St} (h : TP s) (h1 : s2.1 33 = s.1 33) (h2 : s2.1 34 = s.1 34) (h3 : s2.1 194 = s.1 194) (h4 : s2.1 189 11 = s.1 189 11) (h5 : s2.1 189 16 = s.1 189 16) : TP s2 := by
  unfold TP at h ⊢
  rw [h1, h2, h3, h4, h5]
  exact h
theorem SH.cong {s s2 : St} {k : Nat} (h : SH s k) (hk : k < 4) (h1 : ∀ j, 181 ≤ j → j < 189 → s2.1 j = s.1 j) (h2 : s2.1 197 = s.1 197) (h3 : s2.1 198 = s.1 198) (h4 : s2.1 199 = s.1 199) : SH s2 k := by
  unfold SH at h ⊢
  rw [h1 (181 + 2 * k) (by omega) (by omega), h1 (182 + 2 * k) (by omega) (by omega), h2, h3, h4]
  exact h
/-- a question leaves what counts as it was -/
def Qf (s s2 : St) : Prop := ∀ k, ¬ (14 ≤ k ∧ k ≤ 26) → ¬ (35 ≤ k ∧ k ≤ 142) → k ≠ 191 → k ≠ 193 → k ≠ 195 → k ≠ 196 → k ≠ 200 → s2.1 k = s.1 k
theorem Qf.rf {s : St} : Qf s s := fun _ _ _ _ _ _ _ _ => rfl
theorem Qf.tr {s s2 s3 : St} (h : Qf s s2) (h2 : Qf s2 s3) : Qf s s3 := fun k a b c d e f i => (h2 k a b c d e f i).trans (h k a b c d e f i)
theorem Sm.qf {s s2 : St} (h : Sm s s2 14 13) : Qf s s2 := fun k a b c d e f i => h.1 k (by omega)
theorem Sn.qf {s s2 : St} (h : Sn s s2) : Qf s s2 := fun k a b c d e f i => h.1 k c e
theorem Gd.qf {n : Nat} {s s2 : St} {nl ns : Nat} {g : Nat → Nat} (h : Gd n s nl ns g) (hq : Qf s s2) : Gd n s2 nl ns g := by
  obtain ⟨h1, h2, h3, h4, h5, h6, h7, h8, h9, h10, h11, h12⟩ := h
  have q : ∀ k, k ≤ 13 ∨ (27 ≤ k ∧ k ≤ 34) ∨ (143 ≤ k ∧ k ≤ 190) ∨ k = 192 ∨ k = 194 ∨ (197 ≤ k ∧ k ≤ 199) → s2.1 k = s.1 k := fun k hk => hq k (by omega) (by omega) (by omega) (by omega) (by omega) (by omega) (by omega)
  refine ⟨?_, h2, h3, ?_, h5, by rw [q 189 (by omega)]; exact h6, by rw [q 189 (by omega)]; exact h7, by rw [q 190 (by omega)]; exact h8, fun k hk => ?_, ?_, fun k hk => ?_, by rw [q 0 (by omega), q 189 (by omega)]; exact h12⟩
  · unfold RR at h1 ⊢
    simp (disch := omega) only [q]
    exact h1
  · unfold SR at h4 ⊢
    simp (disch := omega) only [q]
    exact h4
  · exact (h9 k hk).cong hk (fun j a b => q j (by omega)) (q 192 (by omega)) (fun j _ => by rw [q 190 (by omega)])
  · exact h10.cong (q 33 (by omega)) (q 34 (by omega)) (q 194 (by omega)) (by rw [q 189 (by omega)]) (by rw [q 189 (by omega)])
  · exact (h11 k hk).cong hk (fun j a b => q j (by omega)) (q 197 (by omega)) (q 198 (by omega)) (q 199 (by omega))
theorem Gd.mono {n : Nat} {s : St} {nl ns : Nat} {g : Nat → Nat} (h : Gd n s nl ns g) (hn : n < 100) : Gd (n + 1) s nl ns g := by
  obtain ⟨h1, h2, h3, h4, h5, h6, h7, h8, h9, h10, h11, h12⟩ := h
  exact ⟨h1, wf_T h2 (by omega) (by omega), h3, h4, h5, h6, h7, h8, fun k hk => (h9 k hk).mono hn, h10, h11, h12⟩
/-- a question: both answer v -/
theorem qy {α : Type} {F R : St → Option (α × St)} {n nl ns : Nat} {s : St} {g : Nat → Nat} (v : α) (hn : n < 64) (hG : Gd n s nl ns g) (h1 : ∃ s1, F s = some (v, s1) ∧ Qf s s1) (h2 : ∀ s', Gd n s' nl ns g → ∃ s2, R s' = some (v, s2) ∧ Qf s' s2) : ∃ v s1 s2, F s = some (v, s1) ∧ R s1 = some (v, s2) ∧ Good (n + 1) s2 := by
  obtain ⟨s1, a1, a2⟩ := h1
  obtain ⟨s2, b1, b2⟩ := h2 s1 (hG.qf a2)
  exact ⟨v, s1, s2, a1, b1, by omega, nl, ns, g, ((hG.qf a2).qf b2).mono (by omega)⟩
/-- the state becomes g2 on both sides -/
theorem upg {n nl ns : Nat} {s s1 s2 : St} {g g2 : Nat → Nat} (hn : n < 64) (hG : Gd n s nl ns g) (hR : RR s1 1 nl ns g2) (hS : SR s1 27 g2) (hF : ∀ k, ¬ (1 ≤ k ∧ k ≤ 31) → ¬ (35 ≤ k ∧ k ≤ 142) → s1.1 k = s.1 k) (hF2 : ∀ k, k ≠ 190 → k ≠ 191 → k ≠ 195 → k ≠ 200 → s2.1 k = s1.1 k) (h190 : ∀ j, j < 131 → s2.1 190 j = nI (g2 j)) (h190b : ∀ j, 131 ≤ j → s2.1 190 j = s1.1 190 j) (hW : WF nl ns (99 * (n + 2)) g2) (h42 : g2 42 ≤ 999) (hWS : WS nl ns g2) : Good (n + 1) s2 := by
  refine ⟨by omega, nl, ns, g2, ?_⟩
  obtain ⟨h1, h2, h3, h4, h5, h6, h7, h8, h9, h10, h11, h12⟩ := hG
  have q : ∀ k, k = 0 ∨ k = 33 ∨ k = 34 ∨ (143 ≤ k ∧ k ≤ 189) ∨ k = 192 ∨ k = 194 ∨ (197 ≤ k ∧ k ≤ 199) → s2.1 k = s.1 k := fun k hk => (hF2 k (by omega) (by omega) (by omega) (by omega)).trans (hF k (by omega) (by omega))
  have p : ∀ k, k < 189 → s2.1 k = s1.1 k := fun k hk => hF2 k (by omega) (by omega) (by omega) (by omega)
  refine ⟨?_, hW, h42, ?_, hWS, by rw [q 189 (by omega)]; exact h6, by rw [q 189 (by omega)]; exact h7, h190, fun k hk => ?_, ?_, fun k hk => ?_, by rw [q 0 (by omega), q 189 (by omega)]; exact h12⟩
  · unfold RR at hR ⊢
    simp (disch := omega) only [p]
    exact hR
  · unfold SR at hS ⊢
    simp (disch := omega) only [p]
    exact hS
  · exact ((h9 k hk).mono (by omega)).cong hk (fun j a b => q j (by omega)) (q 192 (by omega)) (fun j hj => by rw [h190b j hj, hF 190 (by omega) (by omega)])
  · exact h10.cong (q 33 (by omega)) (q 34 (by omega)) (q 194 (by omega)) (by rw [q 189 (by omega)]) (by rw [q 189 (by omega)])
  · exact (h11 k hk).cong hk (fun j a b => q j (by omega)) (q 197 (by omega)) (q 198 (by omega)) (q 199 (by omega))


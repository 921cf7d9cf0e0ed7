/-! the world behind the constructors: cells by numbers, their ints and longs as one pair of functions -/
def gt : List Cond := lw_tbl.filter goodWord
theorem gt_mem {w : Cond} (h : w ∈ tables_1) (hg : goodWord w = true) : w ∈ gt := List.mem_filter.mpr ⟨List.mem_append_right _ h, hg⟩
theorem gt_sel {w : Cond} (h : w ∈ k2_sels lw_privs) (hg : goodWord w = true) : w ∈ gt := List.mem_filter.mpr ⟨List.mem_append_left _ h, hg⟩
theorem gt_good {c0 w : Cond} {ws : List Cond} (hw : w ∈ gt) : GoodIn (c0 :: gt) (w :: gt) := by
  intro x hx
  have hx' : x ∈ gt := by
    rcases List.mem_cons.mp hx with h | h
    · rw [h]; exact hw
    · exact h
  exact ⟨List.mem_cons_of_mem _ hx', good_of_word (List.mem_filter.mp hx').2⟩
theorem tm1 {w : Cond} (h : w ∈ tables_1_1) : w ∈ tables_1 := List.mem_append_left _ h
theorem tm2 {w : Cond} (h : w ∈ tables_1_2) : w ∈ tables_1 := List.mem_append_right _ (List.mem_append_left _ h)
theorem tm3 {w : Cond} (h : w ∈ tables_1_3) : w ∈ tables_1 := List.mem_append_right _ (List.mem_append_right _ (List.mem_append_left _ h))
theorem tm4 {w : Cond} (h : w ∈ tables_1_4) : w ∈ tables_1 := List.mem_append_right _ (List.mem_append_right _ (List.mem_append_right _ (List.mem_append_left _ h)))
theorem tm5 {w : Cond} (h : w ∈ tables_1_5) : w ∈ tables_1 := List.mem_append_right _ (List.mem_append_right _ (List.mem_append_right _ (List.mem_append_right _ (List.mem_append_left _ h))))
theorem tm6 {w : Cond} (h : w ∈ tables_1_6) : w ∈ tables_1 := List.mem_append_right _ (List.mem_append_right _ (List.mem_append_right _ (List.mem_append_right _ (List.mem_append_right _ h))))
abbrev cls : List vw_C := [(RX0, TX0, 3), (RX1, TX1, 7), (RX2, TX2, 15), (RX3, TX3, 5), (RX4, TX4, 3), (RX5, TX5, 8), (RX6, TX6, 9), (RX7, TX7, 28)]
theorem in0 : ∀ w ∈ u_ws RX0 TX0 3, w ∈ gt := by decide +kernel
theorem in1 : ∀ w ∈ u_ws RX1 TX1 7, w ∈ gt := by decide +kernel
theorem in2 : ∀ w ∈ u_ws RX2 TX2 15, w ∈ gt := by decide +kernel
theorem in3 : ∀ w ∈ u_ws RX3 TX3 5, w ∈ gt := by decide +kernel
theorem in4 : ∀ w ∈ u_ws RX4 TX4 3, w ∈ gt := by decide +kernel
theorem in5 : ∀ w ∈ u_ws RX5 TX5 8, w ∈ gt := by decide +kernel
theorem in6 : ∀ w ∈ u_ws RX6 TX6 9, w ∈ gt := by decide +kernel
theorem in7 : ∀ w ∈ u_ws RX7 TX7 28, w ∈ gt := by decide +kernel
/-- what each cell is: 0 to 7 objects of the classes, 8 bytes, 9 ints, 10 booleans, 11 Images, 12 Rooms, 13 Sheets -/
def kdL : List Nat := [6, 2, 9, 9, 9, 9, 9, 9, 9, 9, 9, 9, 9, 9, 2, 9, 9, 9, 9, 9, 9, 9, 9, 9, 9, 9, 9, 3, 9, 9, 9, 9, 11, 5, 8, 13, 1, 12, 2, 9, 9, 9, 9, 9, 9, 9, 9, 9, 9, 9, 9, 2, 9, 9, 9, 9, 9, 9, 9, 9, 9, 9, 9, 9, 2, 9, 9, 9, 9, 9, 9, 9, 9, 9, 9, 9, 9, 2, 9, 9, 9, 9, 9, 9, 9, 9, 9, 9, 9, 9, 2, 9, 9, 9, 9, 9, 9, 9, 9, 9, 9, 9, 9, 2, 9, 9, 9, 9, 9, 9, 9, 9, 9, 9, 9, 9, 2, 9, 9, 9, 9, 9, 9, 9, 9, 9, 9, 9, 9, 2, 9, 9, 9, 9, 9, 9, 9, 9, 9, 9, 9, 9, 9, 0, 2, 9, 9, 9, 9, 9, 9, 9, 9, 9, 9, 9, 9, 3, 9, 9, 9, 9, 0, 2, 9, 9, 9, 9, 9, 9, 9, 9, 9, 9, 9, 9, 3, 9, 9, 9, 9, 4, 9, 4, 9, 4, 9, 4, 9, 7, 9, 9, 10, 9, 9, 9, 9, 9, 9, 9, 9]
def lnL : List Nat := [0, 0, 3, 3, 3, 3, 3, 3, 60, 4, 4, 12, 6, 4, 0, 3, 3, 3, 3, 3, 3, 60, 4, 4, 12, 6, 4, 0, 6, 6, 6, 6, 2, 0, 160, 4, 0, 8, 0, 3, 3, 3, 3, 3, 3, 60, 4, 4, 12, 6, 4, 0, 3, 3, 3, 3, 3, 3, 60, 4, 4, 12, 6, 4, 0, 3, 3, 3, 3, 3, 3, 60, 4, 4, 12, 6, 4, 0, 3, 3, 3, 3, 3, 3, 60, 4, 4, 12, 6, 4, 0, 3, 3, 3, 3, 3, 3, 60, 4, 4, 12, 6, 4, 0, 3, 3, 3, 3, 3, 3, 60, 4, 4, 12, 6, 4, 0, 3, 3, 3, 3, 3, 3, 60, 4, 4, 12, 6, 4, 0, 3, 3, 3, 3, 3, 3, 60, 4, 4, 12, 6, 4, 80, 0, 0, 3, 3, 3, 3, 3, 3, 60, 4, 4, 12, 6, 4, 0, 6, 6, 6, 6, 0, 0, 3, 3, 3, 3, 3, 3, 60, 4, 4, 12, 6, 4, 0, 6, 6, 6, 6, 0, 40, 0, 40, 0, 40, 0, 40, 0, 393, 131, 2, 131, 160, 20, 80, 4, 4, 160, 131]
def kd (k : Nat) : Nat := kdL.getD k 99
def ln (k : Nat) : Nat := lnL.getD k 0
def lnI (k : Nat) : Nat := if kd k = 9 then ln k else 0
def lnB (k : Nat) : Nat := if kd k = 8 then ln k else 0
def lnZ (k : Nat) : Nat := if kd k = 10 then ln k else 0
theorem kd_lt {k c : Nat} (h : kd k = c) (hc : c < 99) : k < 201 := by
  rcases Nat.lt_or_ge k 201 with h1 | h1
  · exact h1
  · have : kd k = 99 := by
      unfold kd
      rw [List.getD_eq_getElem?_getD, List.getElem?_eq_none (by rw [show kdL.length = 201 from by decide +kernel]; exact h1)]
      rfl
    omega
abbrev St : Type := (Nat → Nat → Int32) × (Nat → Nat → Int64)
abbrev Gm : Type := va_G × (Nat → Nat) × (Nat → Prop) × (Nat → ClassId) × (Nat → Nat) × (Nat → Nat)
def gD (Γ : Gm) : va_G := Γ.1
def gL (Γ : Gm) : Nat → Nat := Γ.2.1
def gA (Γ : Gm) : Nat → Prop := Γ.2.2.1
def gC (Γ : Gm) : Nat → ClassId := Γ.2.2.2.1
def gK (Γ : Gm) : Nat → Nat := Γ.2.2.2.2.1
def gV (Γ : Gm) : Nat → Nat := Γ.2.2.2.2.2
def tys (Γ : Gm) : List (ClassId × FieldType) := [(gC Γ 8, .byte), (gC Γ 9, .int), (gC Γ 10, .boolean), (gC Γ 11, .object "SmokeSeats$Image"), (gC Γ 12, .object "SmokeSeats$Room"), (gC Γ 13, .object "SmokeSeats$Sheet")]
def entK (Γ : Gm) (c k : Nat) (f : Nat → Int32) (g : Nat → Int64) : va_E :=
  match c with
  | 0 => .inr (0, [.int (f 0), .ref (gL Γ (k + 1)), .ref (gL Γ (k + 14))])
  | 1 => .inr (1, [.ref (gL Γ (k + 1)), .int (f 1), .int (f 2), .int (f 3), .int (f 4), .long (g 5), .long (g 6)])
  | 2 => .inr (2, [.int (f 0), .int (f 1), .int (f 2), .ref (gL Γ (k + 1)), .ref (gL Γ (k + 2)), .ref (gL Γ (k + 3)), .ref (gL Γ (k + 4)), .ref (gL Γ (k + 5)), .ref (gL Γ (k + 6)), .ref (gL Γ (k + 7)), .ref (gL Γ (k + 8)), .ref (gL Γ (k + 9)), .ref (gL Γ (k + 10)), .ref (gL Γ (k + 11)), .ref (gL Γ (k + 12))])
  | 3 => .inr (3, [.int (f 0), .ref (gL Γ (k + 1)), .ref (gL Γ (k + 2)), .ref (gL Γ (k + 3)), .ref (gL Γ (k + 4))])
  | 4 => .inr (4, [.int (f 0), .int (f 1), .ref (gL Γ (k + 1))])
  | 5 => .inr (5, [.ref (gL Γ (k + 1)), .int (f 1), .int (f 2), .int (f 3), .int (f 4), .int (f 5), .int (f 6), .int (f 7)])
  | 6 => .inr (6, [.ref (gL Γ (k + 1)), .ref (gL Γ (k + 14)), .ref (gL Γ (k + 27)), .ref (gL Γ (k + 32)), .ref (gL Γ (k + 33)), .ref (gL Γ (k + 35)), .ref (gL Γ (k + 36)), .ref (gL Γ (k + 142)), .int (f 8)])
  | 7 => .inr (7, [.ref (gL Γ (k + 1)), .ref (gL Γ (k + 2)), .ref (gL Γ (k + 3)), .int (f 3), .int (f 4), .ref (gL Γ (k + 4)), .int (f 6), .int (f 7), .int (f 8), .int (f 9), .ref (gL Γ (k + 5)), .int (f 11), .int (f 12), .int (f 13), .int (f 14), .int (f 15), .int (f 16), .int (f 17), .ref (gL Γ (k + 6)), .long (g 19), .long (g 20), .long (g 21), .ref (gL Γ (k + 7)), .ref (gL Γ (k + 8)), .ref (gL Γ (k + 9)), .ref (gL Γ (k + 10)), .int (f 26), .ref (gL Γ (k + 11))])
  | 8 => .inl (gC Γ 8, ln k, .inl f)
  | 9 => .inl (gC Γ 9, ln k, .inl f)
  | 10 => .inl (gC Γ 10, ln k, .inl f)
  | 11 => .inl (gC Γ 11, ln k, .inr (.inr (.inr (.inr (fun j => some (gL Γ (k + 111 + 19 * j)))))))
  | 12 => .inl (gC Γ 12, ln k, .inr (.inr (.inr (.inr (fun j => some (gL Γ (k + 1 + 13 * j)))))))
  | 13 => .inl (gC Γ 13, ln k, .inr (.inr (.inr (.inr (fun j => some (gL Γ (k + 146 + 2 * j)))))))
  | _ => .inr (0, [])
def ent (Γ : Gm) (s : St) (k : Nat) : va_E := entK Γ (kd k) k (s.1 k) (s.2 k)
def wl (Γ : Gm) (s : St) : va_W := (List.range 201).map (fun k => (gL Γ k, ent Γ s k))
theorem wl_get {Γ : Gm} {s : St} {k : Nat} (h : k < 201) : (wl Γ s)[k]? = some (gL Γ k, ent Γ s k) := by
  unfold wl
  rw [List.getElem?_map, List.getElem?_range h]
  rfl
theorem wl_set {Γ : Gm} {s s' : St} {k : Nat} {e : va_E} (hk : k < 201) (h1 : ent Γ s' k = e) (h2 : ∀ j, j ≠ k → s'.1 j = s.1 j ∧ s'.2 j = s.2 j) : (wl Γ s).set k (gL Γ k, e) = wl Γ s' := by
  apply List.ext_getElem?
  intro i
  rw [List.getElem?_set]
  by_cases hi : k = i
  · subst hi
    rw [if_pos rfl, wl_get hk, h1]
    simp [wl, hk]
  · rw [if_neg hi]
    rcases Nat.lt_or_ge i 201 with h3 | h3
    · rw [wl_get h3, wl_get h3]
      obtain ⟨e1, e2⟩ := h2 i (fun h => hi h.symm)
      simp only [ent, e1, e2]
    · simp [wl, h3]
def wI (s : St) (k i : Nat) (x : Int32) : St := (fun a => if a = k then upd (s.1 k) i x else s.1 a, s.2)
def wJ (s : St) (k i : Nat) (x : Int64) : St := (s.1, fun a => if a = k then vp_updL (s.2 k) i x else s.2 a)
/-- a row of ints is written as a whole -/
def wR (s : St) (k : Nat) (f : Nat → Int32) : St := (fun a => if a = k then f else s.1 a, s.2)
theorem wI_o {s : St} {k i : Nat} {x : Int32} (j : Nat) (h : j ≠ k) : (wI s k i x).1 j = s.1 j ∧ (wI s k i x).2 j = s.2 j := ⟨if_neg h, rfl⟩
theorem wR_o {s : St} {k : Nat} {f : Nat → Int32} (j : Nat) (h : j ≠ k) : (wR s k f).1 j = s.1 j ∧ (wR s k f).2 j = s.2 j := ⟨if_neg h, rfl⟩
theorem wJ_o {s : St} {k i : Nat} {x : Int64} (j : Nat) (h : j ≠ k) : (wJ s k i x).1 j = s.1 j ∧ (wJ s k i x).2 j = s.2 j := ⟨rfl, if_neg h⟩
theorem wI_k {s : St} {k i : Nat} {x : Int32} : (wI s k i x).1 k = upd (s.1 k) i x := if_pos rfl
theorem wR_k {s : St} {k : Nat} {f : Nat → Int32} : (wR s k f).1 k = f := if_pos rfl
theorem wJ_k {s : St} {k i : Nat} {x : Int64} : (wJ s k i x).2 k = vp_updL (s.2 k) i x := if_pos rfl

/-! the judgement of the walks: Zw, over a bundle of the machine's names -/
def isNest : Cond → Bool
  | .methodLinkNest .. => true
  | _ => false
def nestW : List Cond := tables_1.filter isNest
def lenS : List Nat := [5, 5, 4, 5, 6, 3, 5]
def bytS : List (List Int32) := [[112, 108, 97, 105, 110], [104, 101, 97, 118, 121], [116, 104, 105, 110], [104, 97, 112, 112, 121], [115, 105, 116, 116, 101, 114], [97, 105, 114], [112, 114, 105, 99, 101]]
def txS : List (Nat × String) := [(80, "plain"), (86, "heavy"), (88, "thin"), (90, "happy"), (92, "sitter"), (94, "air"), (96, "price")]
def Ag (Γ : Gm) (U : State) (H : Heap) : Prop :=
  va_K (gD Γ) cls (tys Γ) U ∧ (∀ w ∈ nestW, va_Nw w U) ∧ (∀ (i : Nat) (q : Nat × String), txS[i]? = some q → vk_R "SmokeSeats$Tape" q.1 q.2 (gK Γ i) U) ∧ vk_S 7 lenS bytS (gK Γ) (gV Γ) (gA Γ) U H ∧ va_Z "java/lang/String" "COMPACT_STRINGS" "Z" (.int 1) (gA Γ) U H ∧ va_Zq "jdk/internal/util/Preconditions" "SIOOBE_FORMATTER" "Ljava/util/function/BiFunction;" (gA Γ) U H
theorem nest_tables {w : Cond} (h : isNest w = true) : w.onTables = true := by cases w <;> first | rfl | (simp [isNest] at h)
theorem nest_warm {w : Cond} (h : isNest w = true) {s U : State} (hW : s.WarmedH U.vm) (hZ : va_Nw w s) : va_Nw w U := by
  cases w <;> first | exact va_Nw.warmM hW hZ | (simp [isNest] at h)
theorem va_Zq.kept' {C n d : String} {A : Nat → Prop} {U : State} {H H1 : Heap} (h : va_Zq C n d A U H) (hq : ∀ a : Nat, a < H.size → ¬ A a → H1[a]? = H[a]?) : va_Zq C n d A U H1 := by
  rcases h with h | ⟨t, h⟩
  · exact Or.inl (h.kept hq)
  · exact Or.inr ⟨t, h.kept hq⟩
theorem va_Zq.moved' {C n d : String} {A : Nat → Prop} {u U : State} {H : Heap} (hvm : u.vm.Alike U.vm) (h : va_Zq C n d A u H) : va_Zq C n d A U H := by
  rcases h with h | ⟨t, h⟩
  · exact Or.inl (h.moved hvm)
  · exact Or.inr ⟨t, h.moved hvm⟩
/-- the ambient facts go to a later state: its tables warmed, its old cells as they were -/
theorem Ag.to {Γ : Gm} {s U : State} {H : Heap} (h : Ag Γ s s.heap) (hW : s.WarmedH U.vm) (hq : ∀ a : Nat, a < s.heap.size → ¬ gA Γ a → H[a]? = s.heap[a]?) : Ag Γ U H := by
  obtain ⟨h1, h2, h3, h4, h5, h6⟩ := h
  exact ⟨va_K.moved hW.alike h1, fun w hw => nest_warm (List.mem_filter.mp hw).2 hW (h2 w hw), fun i q hi => vk_R.warm hW (h3 i q hi), (h4.kept hq).moved hW.alike, (h5.kept hq).moved hW.alike, va_Zq.moved' hW.alike (h6.kept' hq)⟩
theorem Ag.same {Γ : Gm} {u U : State} (hv : U.vm = u.vm) (hh : U.heap = u.heap) (h : Ag Γ u u.heap) : Ag Γ U U.heap := by
  obtain ⟨h1, h2, h3, h4, h5, h6⟩ := h
  have hA : u.vm.Alike U.vm := by rw [hv]; exact Vm.Alike.refl _
  rw [hh]
  exact ⟨va_K.moved hA h1, fun w hw => va_Nw.same (nest_tables (List.mem_filter.mp hw).2) hv.symm (h2 w hw), fun i q hi => vk_R.same hv (h3 i q hi), h4.moved hA, h5.moved hA, va_Zq.moved' hA h6⟩
abbrev Cx : Type := Program × Launch × Env × Room × State × MethodId × Array Value × List Frame × Method × Code
def xp (X : Cx) : Program := X.1
def xl (X : Cx) : Launch := X.2.1
def xe (X : Cx) : Env := X.2.2.1
def xR (X : Cx) : Room := X.2.2.2.1
def xs (X : Cx) : State := X.2.2.2.2.1
def xm (X : Cx) : MethodId := X.2.2.2.2.2.1
def xa (X : Cx) : Array Value := X.2.2.2.2.2.2.1
def xb (X : Cx) : List Frame := X.2.2.2.2.2.2.2.1
def xM (X : Cx) : Method := X.2.2.2.2.2.2.2.2.1
def xc (X : Cx) : Code := X.2.2.2.2.2.2.2.2.2
def hp (Γ : Gm) (s : St) (H : Heap) : Prop := va_P (gD Γ) cls (wl Γ s) H ∧ va_D (gA Γ) (wl Γ s)
def Po (Γ : Gm) (r : Option Value × St) : Array Value → State → Outcome → State → Prop := fun _ st o t => (o = .returned r.1 ∧ hp Γ r.2 t.heap) ∧ va_F (gA Γ) st t
def rmd (d : Nat) : Room := { frames := d, cells := 0, slots := 0, locals := 100 * d }
/-- a method's contract: from the world s with these arguments it answers r.1 and leaves the world r.2 -/
def Ct (l : Launch) (Γ : Gm) (y : MethodName) (cc : ByteArray) (nL : Nat) (ret : Option FieldType) (d : Nat) (args : List Value) (s : St) (r : Option Value × St) : Prop :=
  Met l y (.code y cc nL ret :: gt) (rmd d) (va_Pc args (fun U => hp Γ s U.heap ∧ Ag Γ U U.heap)) (Po Γ r) 0 0 (gA Γ)
/-- the goal of a walk: what is to hold at its end, cells and slots made so far -/
abbrev Rb : Type := (State → Prop) × Nat × Nat
def Zw (X : Cx) (Γ : Gm) (nL : Nat) (r : Rb) (s : St) (pc : Nat) (lv : List (Nat × Value)) (st : List Value) : Prop :=
  ∀ (H : Heap) (locs : List Loc) (ls : Array Slot), hp Γ s H → va_S (gA Γ) (xs X).heap H locs → lv_has ls nL lv → r.2.1 ≤ (xR X).cells ∧ r.2.2 ≤ (xR X).slots →
    W (xp X) (xl X) (xe X) (xR X) (xs X) (xm X) (xa X) (xb X) (xM X) (xc X) H locs r.2.1 r.2.2 r.1 (F0 (xm X) pc ls st)
/-- the goal of a method that makes nothing -/
def Rt (X : Cx) (Γ : Gm) (r : Rb) (w : Option Value × St) : Prop := r = (MQ (xb X) (Po Γ w) (xa X) (xs X) 0 0 (gA Γ), 0, 0)
/-- what a walk stands on -/
def Amb (X : Cx) (Γ : Gm) (cc : ByteArray) (own : String) (nL : Nat) (ret : Option FieldType) (d : Nat) : Prop :=
  (xp X).tables.exec = Jvm.exec ∧ (xc X).code = cc ∧ (xc X).maxLocals = nL ∧ (xs X).vm.findClass own = some (xm X).cls ∧ (∀ w ∈ gt, w.before (xa X) (xs X) = true) ∧ Ag Γ (xs X) (xs X).heap ∧ (xM X).sig.returnType = ret ∧ (xM X).locks = false ∧ d ≤ (xR X).frames ∧ 100 * d ≤ (xR X).locals
theorem Ct.of {l : Launch} {Γ : Gm} {y : MethodName} {cc : ByteArray} {nL : Nat} {ret : Option FieldType} {d : Nat} {args : List Value} {s : St} {r : Option Value × St} (hy : plainName y.cls = true) (hn : (lg_sl args).length ≤ nL)
    (h : ∀ X : Cx, xl X = l → Amb X Γ cc y.cls nL ret d → Zw X Γ nL (MQ (xb X) (Po Γ r) (xa X) (xs X) 0 0 (gA Γ), 0, 0) s 0 (lv_args 0 args) []) : Ct l Γ y cc nL ret d args s r := by
  unfold Ct
  refine Met.ofW (cc := cc) (maxL := nL) (ret := ret) hy rfl ?_
  intro p e st m as below meth c s₁ B hml hv
  obtain ⟨rfl, hP, hA⟩ := hv
  have hts := atoms_spec (ws := Cond.code y cc nL ret :: gt) B.pre
  have hown : st.vm.findClass y.cls = some m.cls := findClass_of_methodNamed B.named
  have hl := lv_entry args (n := nL) hn
  rw [lg_entry_eq]
  exact h (p, l, e, rmd d, st, m, args.toArray, below, meth, c) rfl ⟨B.exec, B.bytes, hml, hown, fun w hw => hts w (List.mem_cons_of_mem _ hw), hA, B.returns, B.notSynchronized, Nat.le_refl _, Nat.le_refl _⟩ st.heap [] _ hP va_S.rf hl ⟨Nat.zero_le _, Nat.zero_le _⟩

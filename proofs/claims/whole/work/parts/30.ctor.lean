/-! the constructors' walks: a world that grows, cell K at address B + K; N k tells how many of a cell's references are set -/
section CTW
variable {p : Program} {l : Launch} {e : Env} {R : Room} {s : State} {m : MethodId} {args : Array Value} {below : List Frame} {meth : Method} {c : Code} {H : Heap} {locs : List Loc} {cells slots : Nat} {Q : State → Prop} {cc : ByteArray} {pc : Nat} {ls : Array Slot} {rest : List Value} {D : va_G} {cl : List vw_C} {A : Nat → Prop} {a : Nat} {tys : List (ClassId × FieldType)} {ws : va_W} {H0 : Heap}
/-- a put that keeps the heap's size in sight -/
theorem c_putW (hexec : p.tables.exec = Jvm.exec) (hb : c.code = cc) {own C : String} {T : u_T} {N ci index : Nat} {Ts : List Cond} (hts : ∀ w ∈ Ts, w.before args s = true) (hin : ∀ w ∈ u_ws C T N, w ∈ Ts) (ty0 : Nat → FieldType) (hty : ∀ k, k < N → parseFieldDescriptor (T k).2.2.1 = some (ty0 k)) (hnm : ∀ a, a < N → ∀ b, b < N → a ≠ b → (T a).2.1 ≠ (T b).2.1) (hown : s.vm.findClass own = some m.cls) (hK : va_K D cl tys s) (hP : va_P D cl ws H) (hD : va_D A ws) (hS0 : va_S A H0 H locs) (q0 : Nat) {fs : List Value} (he : ws[q0]? = some (a, .inr (ci, fs))) (hc : cl[ci]? = some (C, T, N)) (k : Nat) (hk : k < N) (hlink : (Cond.fieldLink own index (T k).1 (T k).2.1 (T k).2.2.1).before args s = true) (hfin : (T k).2.2.2 = false ∨ ((T k).2.2.2 = true ∧ meth.name = "<init>" ∧ (T k).1 = own)) {ty : FieldType} {v : Value} (hd : parseFieldDescriptor (T k).2.2.1 = some ty) (hn : narrow ty v = v) (hfit : fits ty v = true) (hl : k < fs.length)
    (hdg : decode cc pc = .ok (.putfield index, 3)) (kk : ∀ (H1 : Heap) (locs1 : List Loc), H1.size = H.size → va_P D cl (ws.set q0 (a, .inr (ci, fs.set k v))) H1 → va_D A (ws.set q0 (a, .inr (ci, fs.set k v))) → va_S A H0 H1 locs1 → W p l e R s m args below meth c H1 locs1 cells slots Q (F0 m (pc + 3) ls rest)) : W p l e R s m args below meth c H locs cells slots Q (F0 m pc ls (v :: .ref a :: rest)) := by
  have apart := va_apart (own := own) hts hin ty0 hty hnm hK hc
  obtain ⟨q, hq, cell, g1, g2, g3, g4⟩ := hP q0 _ he
  cases Option.some.inj (hq.symm.trans hc)
  obtain ⟨slotsAt, hfc, kC, hkC, hord⟩ := hK.1 ci _ hc
  obtain ⟨cf, kf, fi, f, hi, hsl⟩ := slotsAt k hk
  have lay := hts _ (hin _ (u_in_lay hk))
  have nost := (u_facts hfc hkC (u_lays hts hin hk) hi).1
  have fin : ∀ H' : Heap, H'[a]? = some (cell.setSlot f.slot v) → H'.size = H.size → (∀ q, q ≠ a → H'[q]? = H[q]?) → W p l e R s m args below meth c H' (locs ++ [⟨a, f.slot⟩]) cells slots Q (F0 m (pc + 3) ls rest) := by
    intro H' e1 e2 e3
    rw [hsl] at e1 ⊢
    exact kk H' _ e2 (hP.set hD he ⟨_, hc, t_OB.to (V := updV (vp_V fs) k v) ⟨_, e1, g2, g3, t_set g4 apart hk v⟩ (fun j _ => vp_updV_set hl v j)⟩ e3) (hD.set he) (hS0.put e2 e3 (hD.2 q0 _ he))
  have slotok : f.slot < cell.slots.size := by rw [hsl]; exact k2_hasslot (g4 k hk)
  unfold u_lay at lay
  rcases hfin with hf | ⟨hf, hnm2, hdecl⟩
  · rw [if_neg (by rw [hf]; decide)] at lay
    exact W.putK hexec hb (f := f) ⟨hown, hlink, ⟨_, _, _, hi⟩, nost⟩ (by rw [g2]; exact u_store hfc hkC hord lay hi hd hn hfit) g1 g3 slotok rfl rfl hdg fin
  · rw [if_pos hf] at lay
    have hcf : m.cls = cf := by
      obtain ⟨_, _, c', _, _, _, -, -, hf', -, -, -, hown2, -⟩ := Cond.laysFinal_spec lay
      have e1 : c' = cf := by have := hi.symm.trans hf'; simp at this; exact this.1.symm
      rw [hdecl] at hown2
      rw [← e1]; exact Option.some.inj (hown.symm.trans hown2)
    exact W.putFinK hexec hb hown hlink hi nost hcf hnm2 (by rw [g2]; exact u_fits hfc hkC hord (Or.inr lay) hi hd hn hfit) g1 g3 slotok rfl rfl hdg fin
theorem c_aastW (hexec : p.tables.exec = Jvm.exec) (hb : c.code = cc) (hK : va_K D cl tys s) (hP : va_P D cl ws H) (hD : va_D A ws) (hS : va_S A H0 H locs) (q0 t0 qk ci : Nat) {cA : ClassId} {r : vw_C} {n v : Nat} {vs : List Value} {f : Nat → Option Nat} (ha : ws[q0]? = some (a, .inl (cA, n, .inr (.inr (.inr (.inr f)))))) (ht : tys[t0]? = some (cA, .object r.1)) (hv : ws[qk]? = some (v, .inr (ci, vs))) (hc : cl[ci]? = some r) {i : Int32} (hin : vp_in i n) (hdg : decode cc pc = .ok (.aastore, 1))
    (kk : ∀ (H1 : Heap) (locs1 : List Loc), H1.size = H.size → va_P D cl (ws.set q0 (a, .inl (cA, n, .inr (.inr (.inr (.inr (va_up f i.toNatClampNeg (some v)))))))) H1 → va_D A (ws.set q0 (a, .inl (cA, n, .inr (.inr (.inr (.inr (va_up f i.toNatClampNeg (some v)))))))) → va_S A H0 H1 locs1 → W p l e R s m args below meth c H1 locs1 cells slots Q (F0 m (pc + 1) ls rest)) : W p l e R s m args below meth c H locs cells slots Q (F0 m pc ls (.ref v :: .int i :: .ref a :: rest)) := by
  have hlt : i.toNatClampNeg < n := Nat.not_le.mp fun q => hin (Or.inr q)
  have hn0 : ¬ i < 0 := fun q => hin (Or.inl q)
  obtain ⟨-, -, cellV, g1, g2, g3, -⟩ := hP qk _ hv
  have at1 := (hK.1 ci r hc).2
  obtain ⟨kA, comp, k1, k2, k3, -⟩ := (hK.2 t0 _ ht).2
  cases Option.some.inj (k3.symm.trans at1.1)
  obtain ⟨kC, hkC, -⟩ := at1.2
  refine W.aast hexec hb (hP q0 _ ha) (fun q h => by cases h) (fun h => by cases h) k1 k2 rfl hkC ⟨hn0, by show _ < (arrV _ _ _).slots.size; rw [arrV_size]; exact hlt⟩ g1 (fun q h => by rw [g3] at h; cases h) (by rw [g2]; exact hkC) (by rw [g2]; exact va_assign at1) rfl rfl hdg fun H1 e z oq => ?_
  refine kk H1 _ z (hP.set hD ha ?_ oq) (hD.set ha) (hS.put z oq (hD.2 q0 _ ha))
  show H1[a]? = some (vp_cell _ _)
  rw [e, vp_cell_q, vp_cell_q, arrV_store]
  congr 2
  funext q
  by_cases hq : q = i.toNatClampNeg
  · subst hq; simp [updV, va_up, va_rf]
  · simp [updV, va_up, hq]
end CTW
def rfN (Γ : Gm) (n i a : Nat) : Value := if i < n then .ref (gL Γ a) else .null
def entN (Γ : Gm) (n c k : Nat) (f : Nat → Int32) (g : Nat → Int64) : va_E :=
  match c with
  | 0 => .inr (0, [.int (f 0), rfN Γ n 0 (k + 1), rfN Γ n 1 (k + 14)])
  | 1 => .inr (1, [rfN Γ n 0 (k + 1), .int (f 1), .int (f 2), .int (f 3), .int (f 4), .long (g 5), .long (g 6)])
  | 2 => .inr (2, [.int (f 0), .int (f 1), .int (f 2), rfN Γ n 0 (k + 1), rfN Γ n 1 (k + 2), rfN Γ n 2 (k + 3), rfN Γ n 3 (k + 4), rfN Γ n 4 (k + 5), rfN Γ n 5 (k + 6), rfN Γ n 6 (k + 7), rfN Γ n 7 (k + 8), rfN Γ n 8 (k + 9), rfN Γ n 9 (k + 10), rfN Γ n 10 (k + 11), rfN Γ n 11 (k + 12)])
  | 3 => .inr (3, [.int (f 0), rfN Γ n 0 (k + 1), rfN Γ n 1 (k + 2), rfN Γ n 2 (k + 3), rfN Γ n 3 (k + 4)])
  | 4 => .inr (4, [.int (f 0), .int (f 1), rfN Γ n 0 (k + 1)])
  | 5 => .inr (5, [rfN Γ n 0 (k + 1), .int (f 1), .int (f 2), .int (f 3), .int (f 4), .int (f 5), .int (f 6), .int (f 7)])
  | 6 => .inr (6, [rfN Γ n 0 (k + 1), rfN Γ n 1 (k + 14), rfN Γ n 2 (k + 27), rfN Γ n 3 (k + 32), rfN Γ n 4 (k + 33), rfN Γ n 5 (k + 35), rfN Γ n 6 (k + 36), rfN Γ n 7 (k + 142), .int (f 8)])
  | 7 => .inr (7, [rfN Γ n 0 (k + 1), rfN Γ n 1 (k + 2), rfN Γ n 2 (k + 3), .int (f 3), .int (f 4), rfN Γ n 3 (k + 4), .int (f 6), .int (f 7), .int (f 8), .int (f 9), rfN Γ n 4 (k + 5), .int (f 11), .int (f 12), .int (f 13), .int (f 14), .int (f 15), .int (f 16), .int (f 17), rfN Γ n 5 (k + 6), .long (g 19), .long (g 20), .long (g 21), rfN Γ n 6 (k + 7), rfN Γ n 7 (k + 8), rfN Γ n 8 (k + 9), rfN Γ n 9 (k + 10), .int (f 26), rfN Γ n 10 (k + 11)])
  | 8 => .inl (gC Γ 8, ln k, .inl f)
  | 9 => .inl (gC Γ 9, ln k, .inl f)
  | 10 => .inl (gC Γ 10, ln k, .inl f)
  | 11 => .inl (gC Γ 11, ln k, .inr (.inr (.inr (.inr (fun j => if j < n then some (gL Γ (k + 111 + 19 * j)) else none)))))
  | 12 => .inl (gC Γ 12, ln k, .inr (.inr (.inr (.inr (fun j => if j < n then some (gL Γ (k + 1 + 13 * j)) else none)))))
  | 13 => .inl (gC Γ 13, ln k, .inr (.inr (.inr (.inr (fun j => if j < n then some (gL Γ (k + 146 + 2 * j)) else none)))))
  | _ => .inr (0, [])
def wk (Γ : Gm) (K : Nat) (N : Nat → Nat) (s : St) : va_W := (List.range K).map (fun k => (gL Γ k, entN Γ (N k) (kd k) k (s.1 k) (s.2 k)))
theorem wk_get {Γ : Gm} {K : Nat} {N : Nat → Nat} {s : St} {k : Nat} (h : k < K) : (wk Γ K N s)[k]? = some (gL Γ k, entN Γ (N k) (kd k) k (s.1 k) (s.2 k)) := by
  unfold wk
  rw [List.getElem?_map, List.getElem?_range h]
  rfl
theorem wk_set {Γ : Gm} {K : Nat} {N N2 : Nat → Nat} {s s2 : St} {k : Nat} {e : va_E} (hk : k < K) (h1 : entN Γ (N2 k) (kd k) k (s2.1 k) (s2.2 k) = e) (h2 : ∀ j, j ≠ k → N2 j = N j ∧ s2.1 j = s.1 j ∧ s2.2 j = s.2 j) : (wk Γ K N s).set k (gL Γ k, e) = wk Γ K N2 s2 := by
  apply List.ext_getElem?
  intro i
  rw [List.getElem?_set]
  by_cases hi : k = i
  · subst hi
    rw [if_pos rfl, wk_get hk, h1]
    simp [wk, hk]
  · rw [if_neg hi]
    rcases Nat.lt_or_ge i K with h3 | h3
    · rw [wk_get h3, wk_get h3]
      obtain ⟨e1, e2, e3⟩ := h2 i (fun h => hi h.symm)
      rw [e1, e2, e3]
    · simp [wk, h3]
theorem wk_push {Γ : Gm} {K : Nat} {N : Nat → Nat} {s : St} {e : va_E} (h : entN Γ (N K) (kd K) K (s.1 K) (s.2 K) = e) : wk Γ K N s ++ [(gL Γ K, e)] = wk Γ (K + 1) N s := by
  unfold wk
  rw [List.range_succ, List.map_append, ← h]
  rfl
/-- the constructors' ambient facts -/
def Ac (Γ : Gm) (U : State) : Prop := Ag Γ U U.heap ∧ va_AO "SmokeSeats$Image" U ∧ va_AO "SmokeSeats$Room" U ∧ va_AO "SmokeSeats$Sheet" U
theorem Ac.to {Γ : Gm} {s U : State} (h : Ac Γ s) (hW : s.WarmedH U.vm) (hq : ∀ a : Nat, a < s.heap.size → ¬ gA Γ a → U.heap[a]? = s.heap[a]?) : Ac Γ U := ⟨h.1.to hW hq, h.2.1.moved hW.alike, h.2.2.1.moved hW.alike, h.2.2.2.moved hW.alike⟩
theorem Ac.same {Γ : Gm} {u U : State} (hv : U.vm = u.vm) (hh : U.heap = u.heap) (h : Ac Γ u) : Ac Γ U := ⟨h.1.same hv hh, h.2.1.moved (by rw [hv]; exact Vm.Alike.refl _), h.2.2.1.moved (by rw [hv]; exact Vm.Alike.refl _), h.2.2.2.moved (by rw [hv]; exact Vm.Alike.refl _)⟩
abbrev Wd : Type := Nat × (Nat → Nat) × St
def hk (Γ : Gm) (B : Nat) (w : Wd) (H : Heap) : Prop := va_P (gD Γ) cls (wk Γ w.1 w.2.1 w.2.2) H ∧ va_D (gA Γ) (wk Γ w.1 w.2.1 w.2.2) ∧ H.size = B + w.1
def Pk (Γ : Gm) (B : Nat) (w : Wd) : Array Value → State → Outcome → State → Prop := fun _ st o t => (o = .returned none ∧ hk Γ B w t.heap) ∧ va_F (gA Γ) st t
def rmk (d mc ms : Nat) : Room := { frames := d, cells := mc, slots := ms, locals := 100 * d }
def Ck (l : Launch) (Γ : Gm) (B : Nat) (y : MethodName) (cc : ByteArray) (nL : Nat) (d mc ms : Nat) (args : List Value) (w w2 : Wd) : Prop :=
  Met l y (.code y cc nL none :: gt) (rmk d mc ms) (va_Pc args (fun U => hk Γ B w U.heap ∧ Ac Γ U)) (Pk Γ B w2) mc ms (gA Γ)
def Zc (X : Cx) (Γ : Gm) (B : Nat) (nL : Nat) (r : Rb) (w : Wd) (pc : Nat) (lv : List (Nat × Value)) (st : List Value) : Prop :=
  ∀ (H : Heap) (locs : List Loc) (ls : Array Slot), hk Γ B w H → va_S (gA Γ) (xs X).heap H locs → lv_has ls nL lv →
    W (xp X) (xl X) (xe X) (xR X) (xs X) (xm X) (xa X) (xb X) (xM X) (xc X) H locs r.2.1 r.2.2 r.1 (F0 (xm X) pc ls st)
/-- where the cells lie -/
def GB (Γ : Gm) (B : Nat) : Prop := (∀ k, gL Γ k = B + k) ∧ ∀ q, B ≤ q → gA Γ q
def Amk (X : Cx) (Γ : Gm) (B : Nat) (cc : ByteArray) (own : String) (nL d mc ms : Nat) : Prop :=
  (xp X).tables.exec = Jvm.exec ∧ (xc X).code = cc ∧ (xc X).maxLocals = nL ∧ (xs X).vm.findClass own = some (xm X).cls ∧ (∀ w ∈ gt, w.before (xa X) (xs X) = true) ∧ Ac Γ (xs X) ∧ (xM X).sig.returnType = none ∧ (xM X).locks = false ∧ (d ≤ (xR X).frames ∧ 100 * d ≤ (xR X).locals ∧ mc ≤ (xR X).cells ∧ ms ≤ (xR X).slots) ∧ GB Γ B ∧ (xM X).name = "<init>" ∧ B ≤ (xs X).heap.size
theorem Ck.of {l : Launch} {Γ : Gm} {B : Nat} {y : MethodName} {cc : ByteArray} {nL d mc ms : Nat} {args : List Value} {w w2 : Wd} (hG : GB Γ B) (hy : plainName y.cls = true) (hyn : y.name = "<init>") (hn : (lg_sl args).length ≤ nL)
    (h : ∀ X : Cx, xl X = l → Amk X Γ B cc y.cls nL d mc ms → Zc X Γ B nL (MQ (xb X) (Pk Γ B w2) (xa X) (xs X) mc ms (gA Γ), 0, 0) w 0 (lv_args 0 args) []) : Ck l Γ B y cc nL d mc ms args w w2 := by
  unfold Ck
  refine Met.ofW (cc := cc) (maxL := nL) (ret := none) hy rfl ?_
  intro p e st m as below meth c s₁ Bd hml hv
  obtain ⟨rfl, hP, hA⟩ := hv
  have hts := atoms_spec (ws := Cond.code y cc nL none :: gt) Bd.pre
  have hown : st.vm.findClass y.cls = some m.cls := findClass_of_methodNamed Bd.named
  have hl := lv_entry args (n := nL) hn
  have hnm : meth.name = "<init>" := (name_of_methodNamed Bd.named Bd.method).1.trans hyn
  rw [lg_entry_eq]
  exact h (p, l, e, rmk d mc ms, st, m, args.toArray, below, meth, c) rfl ⟨Bd.exec, Bd.bytes, hml, hown, fun w hw => hts w (List.mem_cons_of_mem _ hw), hA, Bd.returns, Bd.notSynchronized, ⟨Nat.le_refl _, Nat.le_refl _, Nat.le_refl _, Nat.le_refl _⟩, hG, hnm, by show B ≤ st.heap.size; rw [hP.2.2]; omega⟩ st.heap [] _ hP va_S.rf hl
theorem cb_ok {N c : Nat} (h : N ≤ 1000) (hc : c ≤ 8) : N * c ≤ 536870912 := Nat.le_trans (Nat.mul_le_mul h hc) (by decide)
theorem k_iconst {X : Cx} {Γ : Gm} {B : Nat} {cc : ByteArray} {own : String} {nL d mc ms : Nat} {r : Rb} {w : Wd} {pc : Nat} {lv : List (Nat × Value)} {st : List Value} (hX : Amk X Γ B cc own nL d mc ms) {n : Int} {v : Int32} (hd : decode cc pc = .ok (.iconst n, 1)) (hv : Int32.ofInt n = v) (pc2 : Nat) (hp : pc + 1 = pc2) (k : Zc X Γ B nL r w pc2 lv (.int v :: st)) : Zc X Γ B nL r w pc lv (st) := by
  subst hp
  exact fun H locs ls hP hS hl => lv_iconst hX.1 hX.2.1 hd hv (k H locs ls hP hS hl)
theorem k_bipush {X : Cx} {Γ : Gm} {B : Nat} {cc : ByteArray} {own : String} {nL d mc ms : Nat} {r : Rb} {w : Wd} {pc : Nat} {lv : List (Nat × Value)} {st : List Value} (hX : Amk X Γ B cc own nL d mc ms) {n : Int} {v : Int32} (hd : decode cc pc = .ok (.bipush n, 2)) (hv : (Int8.ofInt n).toInt32 = v) (pc2 : Nat) (hp : pc + 2 = pc2) (k : Zc X Γ B nL r w pc2 lv (.int v :: st)) : Zc X Γ B nL r w pc lv (st) := by
  subst hp
  exact fun H locs ls hP hS hl => lv_bipush hX.1 hX.2.1 hd hv (k H locs ls hP hS hl)
theorem k_sipush {X : Cx} {Γ : Gm} {B : Nat} {cc : ByteArray} {own : String} {nL d mc ms : Nat} {r : Rb} {w : Wd} {pc : Nat} {lv : List (Nat × Value)} {st : List Value} (hX : Amk X Γ B cc own nL d mc ms) {n : Int} {v : Int32} (hd : decode cc pc = .ok (.sipush n, 3)) (hv : (Int16.ofInt n).toInt32 = v) (pc2 : Nat) (hp : pc + 3 = pc2) (k : Zc X Γ B nL r w pc2 lv (.int v :: st)) : Zc X Γ B nL r w pc lv (st) := by
  subst hp
  exact fun H locs ls hP hS hl => lv_sipush hX.1 hX.2.1 hd hv (k H locs ls hP hS hl)
theorem k_lconst {X : Cx} {Γ : Gm} {B : Nat} {cc : ByteArray} {own : String} {nL d mc ms : Nat} {r : Rb} {w : Wd} {pc : Nat} {lv : List (Nat × Value)} {st : List Value} (hX : Amk X Γ B cc own nL d mc ms) {n : Fin 2} {v : Int64} (hd : decode cc pc = .ok (.lconst n, 1)) (hv : Int64.ofNat (n : Nat) = v) (pc2 : Nat) (hp : pc + 1 = pc2) (k : Zc X Γ B nL r w pc2 lv (.long v :: st)) : Zc X Γ B nL r w pc lv (st) := by
  subst hp
  exact fun H locs ls hP hS hl => lv_lconst hX.1 hX.2.1 hd hv (k H locs ls hP hS hl)
theorem k_aload_n {X : Cx} {Γ : Gm} {B : Nat} {cc : ByteArray} {own : String} {nL d mc ms : Nat} {r : Rb} {w : Wd} {pc : Nat} {lv : List (Nat × Value)} {st : List Value} (hX : Amk X Γ B cc own nL d mc ms) {n : Fin 4} {x : Nat} (hd : decode cc pc = .ok (.aload_n n, 1)) (j : Nat) (hj : lv[j]? = some ((n : Nat), .ref x)) (pc2 : Nat) (hp : pc + 1 = pc2) (k : Zc X Γ B nL r w pc2 lv (.ref x :: st)) : Zc X Γ B nL r w pc lv (st) := by
  subst hp
  exact fun H locs ls hP hS hl => lv_aload_n hX.1 hX.2.1 hd rfl (lv_at hl j hj) (k H locs ls hP hS hl)
theorem k_iload_n {X : Cx} {Γ : Gm} {B : Nat} {cc : ByteArray} {own : String} {nL d mc ms : Nat} {r : Rb} {w : Wd} {pc : Nat} {lv : List (Nat × Value)} {st : List Value} (hX : Amk X Γ B cc own nL d mc ms) {n : Fin 4} {x : Int32} (hd : decode cc pc = .ok (.iload_n n, 1)) (j : Nat) (hj : lv[j]? = some ((n : Nat), .int x)) (pc2 : Nat) (hp : pc + 1 = pc2) (k : Zc X Γ B nL r w pc2 lv (.int x :: st)) : Zc X Γ B nL r w pc lv (st) := by
  subst hp
  exact fun H locs ls hP hS hl => lv_iload_n hX.1 hX.2.1 hd rfl (lv_at hl j hj) (k H locs ls hP hS hl)
theorem k_istore_n {X : Cx} {Γ : Gm} {B : Nat} {cc : ByteArray} {own : String} {nL d mc ms : Nat} {r : Rb} {w : Wd} {pc : Nat} {lv : List (Nat × Value)} {st : List Value} (hX : Amk X Γ B cc own nL d mc ms) {n : Fin 4} {x : Int32} {lv2 : List (Nat × Value)} (hd : decode cc pc = .ok (.istore_n n, 1)) (hn : (n : Nat) < nL) (hl2 : ((n : Nat), Value.int x) :: lv.filter (fun q => !(q.1 == (n : Nat)) && !(q.1 + 1 == (n : Nat) && q.2.category == 2)) = lv2) (pc2 : Nat) (hp : pc + 1 = pc2) (k : Zc X Γ B nL r w pc2 lv2 (st)) : Zc X Γ B nL r w pc lv (.int x :: st) := by
  subst hp
  exact fun H locs ls hP hS hl => lv_istore_n hX.1 hX.2.1 hd rfl hl hn hl2 (fun ls2 h2 => k H locs ls2 hP hS h2)
theorem k_iinc {X : Cx} {Γ : Gm} {B : Nat} {cc : ByteArray} {own : String} {nL d mc ms : Nat} {r : Rb} {w : Wd} {pc : Nat} {lv : List (Nat × Value)} {st : List Value} (hX : Amk X Γ B cc own nL d mc ms) {i : Nat} {n : Int} {x v : Int32} {lv2 : List (Nat × Value)} (hd : decode cc pc = .ok (.iinc i n, 3)) (j : Nat) (hj : lv[j]? = some (i, .int x)) (hv : x + Int32.ofInt n = v) (hn : i < nL) (hl2 : (i, Value.int v) :: lv.filter (fun q => !(q.1 == i) && !(q.1 + 1 == i && q.2.category == 2)) = lv2) (pc2 : Nat) (hp : pc + 3 = pc2) (k : Zc X Γ B nL r w pc2 lv2 (st)) : Zc X Γ B nL r w pc lv (st) := by
  subst hp
  exact fun H locs ls hP hS hl => lv_iinc hX.1 hX.2.1 hd hl hj hv hn hl2 (fun ls2 h2 => k H locs ls2 hP hS h2)
theorem k_dup {X : Cx} {Γ : Gm} {B : Nat} {cc : ByteArray} {own : String} {nL d mc ms : Nat} {r : Rb} {w : Wd} {pc : Nat} {lv : List (Nat × Value)} {st : List Value} (hX : Amk X Γ B cc own nL d mc ms) {v : Value} (hd : decode cc pc = .ok (.dup, 1)) (hv : v.category = 1) (pc2 : Nat) (hp : pc + 1 = pc2) (k : Zc X Γ B nL r w pc2 lv (v :: v :: st)) : Zc X Γ B nL r w pc lv (v :: st) := by
  subst hp
  exact fun H locs ls hP hS hl => lv_dup hX.1 hX.2.1 hd hv (k H locs ls hP hS hl)
theorem k_goto {X : Cx} {Γ : Gm} {B : Nat} {cc : ByteArray} {own : String} {nL d mc ms : Nat} {r : Rb} {w : Wd} {pc : Nat} {lv : List (Nat × Value)} {st : List Value} (hX : Amk X Γ B cc own nL d mc ms) {off : Int} (tgt : Nat) (hd : decode cc pc = .ok (.goto off, 3)) (ht : (pc : Int) + off = (tgt : Int)) (k : Zc X Γ B nL r w tgt lv (st)) : Zc X Γ B nL r w pc lv (st) := fun H locs ls hP hS hl => lv_goto hX.1 hX.2.1 hd ht (k H locs ls hP hS hl)
theorem k_geY {X : Cx} {Γ : Gm} {B : Nat} {cc : ByteArray} {own : String} {nL d mc ms : Nat} {r : Rb} {w : Wd} {pc : Nat} {lv : List (Nat × Value)} {st : List Value} (hX : Amk X Γ B cc own nL d mc ms) {x y : Int32} {off : Int} (tgt : Nat) (hd : decode cc pc = .ok (.if_icmp .ge off, 3)) (ht : (pc : Int) + off = (tgt : Int)) (hc : y ≤ x) (k : Zc X Γ B nL r w tgt lv (st)) : Zc X Γ B nL r w pc lv (.int y :: .int x :: st) := fun H locs ls hP hS hl => lv_icmp_ge hX.1 hX.2.1 hd ht (fun _ => (k H locs ls hP hS hl)) (fun h => absurd (by simpa using hc) h)
theorem k_geN {X : Cx} {Γ : Gm} {B : Nat} {cc : ByteArray} {own : String} {nL d mc ms : Nat} {r : Rb} {w : Wd} {pc : Nat} {lv : List (Nat × Value)} {st : List Value} (hX : Amk X Γ B cc own nL d mc ms) {x y : Int32} {off : Int} (tgt : Nat) (hd : decode cc pc = .ok (.if_icmp .ge off, 3)) (ht : (pc : Int) + off = (tgt : Int)) (hc : ¬ y ≤ x) (pc2 : Nat) (hp : pc + 3 = pc2) (k : Zc X Γ B nL r w pc2 lv (st)) : Zc X Γ B nL r w pc lv (.int y :: .int x :: st) := by
  subst hp
  exact fun H locs ls hP hS hl => lv_icmp_ge hX.1 hX.2.1 hd ht (fun h => absurd (by simpa using h) hc) (fun _ => (k H locs ls hP hS hl))
theorem k_obj {X : Cx} {Γ : Gm} {B : Nat} {cc : ByteArray} {own : String} {nL d mc ms : Nat} {r : Rb} {w : Wd} {pc : Nat} {lv : List (Nat × Value)} {st : List Value} (hX : Amk X Γ B cc own nL d mc ms) {idx a : Nat} (hd : decode cc pc = .ok (.invokespecial idx, 3)) (h1 : Cond.methodLink own idx Lib.objectInit ∈ gt) (h2 : Cond.instanceMethod Lib.objectInit ∈ gt) (h3 : Cond.code Lib.objectInit ⟨#[0xb1]⟩ 1 none ∈ gt) (hst : (st.map fun v => v.category).sum ≤ 8) (hR : 1 ≤ d) (pc2 : Nat) (hp : pc + 3 = pc2) (k : Zc X Γ B nL r w pc2 lv (st)) : Zc X Γ B nL r w pc lv (.ref a :: st) := by
  subst hp
  exact fun H locs ls hP hS hl => W.objInit hX.1 hX.2.1 hX.2.2.2.1 (hX.2.2.2.2.1 _ h1) (hX.2.2.2.2.1 _ h2) (hX.2.2.2.2.1 _ h3) rfl (by rw [hX.2.2.1]; exact hl.1) rfl hd (Nat.le_trans hR hX.2.2.2.2.2.2.2.2.1.1) (by have h5 := hX.2.2.2.2.2.2.2.2.1.2.1; show 2 * 0 + _ + 12 ≤ _; omega) (k H locs ls hP hS hl)
theorem hk_push {Γ : Gm} {B : Nat} {w : Wd} {H H1 : Heap} (hG : GB Γ B) (hP : hk Γ B w H) (z : H1.size = H.size + 1) (o : ∀ q, q < H.size → H1[q]? = H[q]?) (ha : va_at (gD Γ) cls (gL Γ w.1, entN Γ (w.2.1 w.1) (kd w.1) w.1 (w.2.2.1 w.1) (w.2.2.2 w.1)) H1) : hk Γ B (w.1 + 1, w.2) H1 := by
  have hL : gL Γ w.1 = H.size := by rw [hG.1, hP.2.2]
  have e := wk_push (Γ := Γ) (K := w.1) (N := w.2.1) (s := w.2.2) rfl
  refine ⟨?_, ?_, ?_⟩
  · show va_P _ _ (wk Γ (w.1 + 1) w.2.1 w.2.2) H1
    rw [← e]
    refine (hP.1.kept (fun k x hx => o x.1 ((hP.1 k x hx).lt))).app (fun k x hx => ?_)
    have hz : k < 1 := (List.getElem?_eq_some_iff.mp hx).1
    rw [show k = 0 by omega] at hx
    cases hx
    exact ha
  · show va_D _ (wk Γ (w.1 + 1) w.2.1 w.2.2)
    rw [← e]
    exact hP.2.1.push hP.1 hL (hG.2 _ (by rw [hG.1]; omega))
  · show H1.size = B + (w.1 + 1)
    rw [z, hP.2.2]; omega
theorem vS_push {A : Nat → Prop} {H0 H H1 : Heap} {locs : List Loc} (hS : va_S A H0 H locs) (z : H1.size = H.size + 1) (o : ∀ q, q < H.size → H1[q]? = H[q]?) : va_S A H0 H1 locs := ⟨Nat.le_trans hS.1 (by omega), fun x h1 h2 => (o x (Nat.lt_of_lt_of_le h1 hS.1)).trans (hS.2.1 x h1 h2), hS.2.2⟩
theorem df_0 : ∀ j, j < 3 → defaultValue (tyX0 j) = vp_V ([.int 0, .null, .null] : List Value) j := by decide +kernel
theorem k_new0 {X : Cx} {Γ : Gm} {B : Nat} {cc : ByteArray} {own : String} {nL d mc ms : Nat} {r : Rb} {w : Wd} {pc : Nat} {lv : List (Nat × Value)} {st : List Value} (hX : Amk X Γ B cc own nL d mc ms) {idx : Nat} (hd : decode cc pc = .ok (.new idx, 3)) (h1 : Cond.classLink own idx RX0 ∈ gt) (h2 : Cond.instantiable RX0 3 ∈ gt) (h3 : Cond.initialized RX0 ∈ gt) (hkd : kd w.1 = 0) (hz : w.2.1 w.1 = 0 ∧ w.2.2.1 w.1 = (fun _ => 0) ∧ w.2.2.2 w.1 = (fun _ => 0)) (hc : r.2.1 + 1 ≤ mc ∧ r.2.2 + 3 ≤ ms) (pc2 : Nat) (hp : pc + 3 = pc2) (w2 : Wd) (hw : (w.1 + 1, w.2) = w2) (r2 : Rb) (hr : (r.1, r.2.1 + 1, r.2.2 + 3) = r2) (k : Zc X Γ B nL r2 w2 pc2 lv (.ref (gL Γ w.1) :: st)) : Zc X Γ B nL r w pc lv (st) := by
  subst hp; subst hw; subst hr
  intro H locs ls hP hS hl
  have hKn := hX.2.2.2.2.2.1.1.1.1 0 _ (show cls[0]? = some (RX0, TX0, 3) from rfl)
  have hh : H.size = gL Γ w.1 := by rw [hX.2.2.2.2.2.2.2.2.2.1.1, hP.2.2]
  refine W.newcK hX.1 hX.2.1 hX.2.2.2.1 (hX.2.2.2.2.1 _ h1) (hX.2.2.2.2.1 _ h2) (hX.2.2.2.2.1 _ h3) rfl hd (Nat.le_trans hc.1 hX.2.2.2.2.2.2.2.2.1.2.2.1) (Nat.le_trans hc.2 hX.2.2.2.2.2.2.2.2.1.2.2.2) hKn.2.1 hh fun H1 kC hkC e1 z1 o1 => ?_
  rw [← hh] at z1 o1
  refine k H1 locs ls (hk_push hX.2.2.2.2.2.2.2.2.2.1 hP z1 o1 ?_) (vS_push hS z1 o1) hl
  rw [hkd, hz.1, hz.2.1, hz.2.2]
  exact ⟨_, rfl, (u_born tyX0 hX.2.2.2.2.1 in0 hKn hkC e1 tyX0_ok).to df_0⟩
theorem df_1 : ∀ j, j < 7 → defaultValue (tyX1 j) = vp_V ([.null, .int 0, .int 0, .int 0, .int 0, .long 0, .long 0] : List Value) j := by decide +kernel
theorem k_new1 {X : Cx} {Γ : Gm} {B : Nat} {cc : ByteArray} {own : String} {nL d mc ms : Nat} {r : Rb} {w : Wd} {pc : Nat} {lv : List (Nat × Value)} {st : List Value} (hX : Amk X Γ B cc own nL d mc ms) {idx : Nat} (hd : decode cc pc = .ok (.new idx, 3)) (h1 : Cond.classLink own idx RX1 ∈ gt) (h2 : Cond.instantiable RX1 7 ∈ gt) (h3 : Cond.initialized RX1 ∈ gt) (hkd : kd w.1 = 1) (hz : w.2.1 w.1 = 0 ∧ w.2.2.1 w.1 = (fun _ => 0) ∧ w.2.2.2 w.1 = (fun _ => 0)) (hc : r.2.1 + 1 ≤ mc ∧ r.2.2 + 7 ≤ ms) (pc2 : Nat) (hp : pc + 3 = pc2) (w2 : Wd) (hw : (w.1 + 1, w.2) = w2) (r2 : Rb) (hr : (r.1, r.2.1 + 1, r.2.2 + 7) = r2) (k : Zc X Γ B nL r2 w2 pc2 lv (.ref (gL Γ w.1) :: st)) : Zc X Γ B nL r w pc lv (st) := by
  subst hp; subst hw; subst hr
  intro H locs ls hP hS hl
  have hKn := hX.2.2.2.2.2.1.1.1.1 1 _ (show cls[1]? = some (RX1, TX1, 7) from rfl)
  have hh : H.size = gL Γ w.1 := by rw [hX.2.2.2.2.2.2.2.2.2.1.1, hP.2.2]
  refine W.newcK hX.1 hX.2.1 hX.2.2.2.1 (hX.2.2.2.2.1 _ h1) (hX.2.2.2.2.1 _ h2) (hX.2.2.2.2.1 _ h3) rfl hd (Nat.le_trans hc.1 hX.2.2.2.2.2.2.2.2.1.2.2.1) (Nat.le_trans hc.2 hX.2.2.2.2.2.2.2.2.1.2.2.2) hKn.2.1 hh fun H1 kC hkC e1 z1 o1 => ?_
  rw [← hh] at z1 o1
  refine k H1 locs ls (hk_push hX.2.2.2.2.2.2.2.2.2.1 hP z1 o1 ?_) (vS_push hS z1 o1) hl
  rw [hkd, hz.1, hz.2.1, hz.2.2]
  exact ⟨_, rfl, (u_born tyX1 hX.2.2.2.2.1 in1 hKn hkC e1 tyX1_ok).to df_1⟩
theorem df_2 : ∀ j, j < 15 → defaultValue (tyX2 j) = vp_V ([.int 0, .int 0, .int 0, .null, .null, .null, .null, .null, .null, .null, .null, .null, .null, .null, .null] : List Value) j := by decide +kernel
theorem k_new2 {X : Cx} {Γ : Gm} {B : Nat} {cc : ByteArray} {own : String} {nL d mc ms : Nat} {r : Rb} {w : Wd} {pc : Nat} {lv : List (Nat × Value)} {st : List Value} (hX : Amk X Γ B cc own nL d mc ms) {idx : Nat} (hd : decode cc pc = .ok (.new idx, 3)) (h1 : Cond.classLink own idx RX2 ∈ gt) (h2 : Cond.instantiable RX2 15 ∈ gt) (h3 : Cond.initialized RX2 ∈ gt) (hkd : kd w.1 = 2) (hz : w.2.1 w.1 = 0 ∧ w.2.2.1 w.1 = (fun _ => 0) ∧ w.2.2.2 w.1 = (fun _ => 0)) (hc : r.2.1 + 1 ≤ mc ∧ r.2.2 + 15 ≤ ms) (pc2 : Nat) (hp : pc + 3 = pc2) (w2 : Wd) (hw : (w.1 + 1, w.2) = w2) (r2 : Rb) (hr : (r.1, r.2.1 + 1, r.2.2 + 15) = r2) (k : Zc X Γ B nL r2 w2 pc2 lv (.ref (gL Γ w.1) :: st)) : Zc X Γ B nL r w pc lv (st) := by
  subst hp; subst hw; subst hr
  intro H locs ls hP hS hl
  have hKn := hX.2.2.2.2.2.1.1.1.1 2 _ (show cls[2]? = some (RX2, TX2, 15) from rfl)
  have hh : H.size = gL Γ w.1 := by rw [hX.2.2.2.2.2.2.2.2.2.1.1, hP.2.2]
  refine W.newcK hX.1 hX.2.1 hX.2.2.2.1 (hX.2.2.2.2.1 _ h1) (hX.2.2.2.2.1 _ h2) (hX.2.2.2.2.1 _ h3) rfl hd (Nat.le_trans hc.1 hX.2.2.2.2.2.2.2.2.1.2.2.1) (Nat.le_trans hc.2 hX.2.2.2.2.2.2.2.2.1.2.2.2) hKn.2.1 hh fun H1 kC hkC e1 z1 o1 => ?_
  rw [← hh] at z1 o1
  refine k H1 locs ls (hk_push hX.2.2.2.2.2.2.2.2.2.1 hP z1 o1 ?_) (vS_push hS z1 o1) hl
  rw [hkd, hz.1, hz.2.1, hz.2.2]
  exact ⟨_, rfl, (u_born tyX2 hX.2.2.2.2.1 in2 hKn hkC e1 tyX2_ok).to df_2⟩
theorem df_3 : ∀ j, j < 5 → defaultValue (tyX3 j) = vp_V ([.int 0, .null, .null, .null, .null] : List Value) j := by decide +kernel
theorem k_new3 {X : Cx} {Γ : Gm} {B : Nat} {cc : ByteArray} {own : String} {nL d mc ms : Nat} {r : Rb} {w : Wd} {pc : Nat} {lv : List (Nat × Value)} {st : List Value} (hX : Amk X Γ B cc own nL d mc ms) {idx : Nat} (hd : decode cc pc = .ok (.new idx, 3)) (h1 : Cond.classLink own idx RX3 ∈ gt) (h2 : Cond.instantiable RX3 5 ∈ gt) (h3 : Cond.initialized RX3 ∈ gt) (hkd : kd w.1 = 3) (hz : w.2.1 w.1 = 0 ∧ w.2.2.1 w.1 = (fun _ => 0) ∧ w.2.2.2 w.1 = (fun _ => 0)) (hc : r.2.1 + 1 ≤ mc ∧ r.2.2 + 5 ≤ ms) (pc2 : Nat) (hp : pc + 3 = pc2) (w2 : Wd) (hw : (w.1 + 1, w.2) = w2) (r2 : Rb) (hr : (r.1, r.2.1 + 1, r.2.2 + 5) = r2) (k : Zc X Γ B nL r2 w2 pc2 lv (.ref (gL Γ w.1) :: st)) : Zc X Γ B nL r w pc lv (st) := by
  subst hp; subst hw; subst hr
  intro H locs ls hP hS hl
  have hKn := hX.2.2.2.2.2.1.1.1.1 3 _ (show cls[3]? = some (RX3, TX3, 5) from rfl)
  have hh : H.size = gL Γ w.1 := by rw [hX.2.2.2.2.2.2.2.2.2.1.1, hP.2.2]
  refine W.newcK hX.1 hX.2.1 hX.2.2.2.1 (hX.2.2.2.2.1 _ h1) (hX.2.2.2.2.1 _ h2) (hX.2.2.2.2.1 _ h3) rfl hd (Nat.le_trans hc.1 hX.2.2.2.2.2.2.2.2.1.2.2.1) (Nat.le_trans hc.2 hX.2.2.2.2.2.2.2.2.1.2.2.2) hKn.2.1 hh fun H1 kC hkC e1 z1 o1 => ?_
  rw [← hh] at z1 o1
  refine k H1 locs ls (hk_push hX.2.2.2.2.2.2.2.2.2.1 hP z1 o1 ?_) (vS_push hS z1 o1) hl
  rw [hkd, hz.1, hz.2.1, hz.2.2]
  exact ⟨_, rfl, (u_born tyX3 hX.2.2.2.2.1 in3 hKn hkC e1 tyX3_ok).to df_3⟩
theorem df_4 : ∀ j, j < 3 → defaultValue (tyX4 j) = vp_V ([.int 0, .int 0, .null] : List Value) j := by decide +kernel
theorem k_new4 {X : Cx} {Γ : Gm} {B : Nat} {cc : ByteArray} {own : String} {nL d mc ms : Nat} {r : Rb} {w : Wd} {pc : Nat} {lv : List (Nat × Value)} {st : List Value} (hX : Amk X Γ B cc own nL d mc ms) {idx : Nat} (hd : decode cc pc = .ok (.new idx, 3)) (h1 : Cond.classLink own idx RX4 ∈ gt) (h2 : Cond.instantiable RX4 3 ∈ gt) (h3 : Cond.initialized RX4 ∈ gt) (hkd : kd w.1 = 4) (hz : w.2.1 w.1 = 0 ∧ w.2.2.1 w.1 = (fun _ => 0) ∧ w.2.2.2 w.1 = (fun _ => 0)) (hc : r.2.1 + 1 ≤ mc ∧ r.2.2 + 3 ≤ ms) (pc2 : Nat) (hp : pc + 3 = pc2) (w2 : Wd) (hw : (w.1 + 1, w.2) = w2) (r2 : Rb) (hr : (r.1, r.2.1 + 1, r.2.2 + 3) = r2) (k : Zc X Γ B nL r2 w2 pc2 lv (.ref (gL Γ w.1) :: st)) : Zc X Γ B nL r w pc lv (st) := by
  subst hp; subst hw; subst hr
  intro H locs ls hP hS hl
  have hKn := hX.2.2.2.2.2.1.1.1.1 4 _ (show cls[4]? = some (RX4, TX4, 3) from rfl)
  have hh : H.size = gL Γ w.1 := by rw [hX.2.2.2.2.2.2.2.2.2.1.1, hP.2.2]
  refine W.newcK hX.1 hX.2.1 hX.2.2.2.1 (hX.2.2.2.2.1 _ h1) (hX.2.2.2.2.1 _ h2) (hX.2.2.2.2.1 _ h3) rfl hd (Nat.le_trans hc.1 hX.2.2.2.2.2.2.2.2.1.2.2.1) (Nat.le_trans hc.2 hX.2.2.2.2.2.2.2.2.1.2.2.2) hKn.2.1 hh fun H1 kC hkC e1 z1 o1 => ?_
  rw [← hh] at z1 o1
  refine k H1 locs ls (hk_push hX.2.2.2.2.2.2.2.2.2.1 hP z1 o1 ?_) (vS_push hS z1 o1) hl
  rw [hkd, hz.1, hz.2.1, hz.2.2]
  exact ⟨_, rfl, (u_born tyX4 hX.2.2.2.2.1 in4 hKn hkC e1 tyX4_ok).to df_4⟩
theorem df_5 : ∀ j, j < 8 → defaultValue (tyX5 j) = vp_V ([.null, .int 0, .int 0, .int 0, .int 0, .int 0, .int 0, .int 0] : List Value) j := by decide +kernel
theorem k_new5 {X : Cx} {Γ : Gm} {B : Nat} {cc : ByteArray} {own : String} {nL d mc ms : Nat} {r : Rb} {w : Wd} {pc : Nat} {lv : List (Nat × Value)} {st : List Value} (hX : Amk X Γ B cc own nL d mc ms) {idx : Nat} (hd : decode cc pc = .ok (.new idx, 3)) (h1 : Cond.classLink own idx RX5 ∈ gt) (h2 : Cond.instantiable RX5 8 ∈ gt) (h3 : Cond.initialized RX5 ∈ gt) (hkd : kd w.1 = 5) (hz : w.2.1 w.1 = 0 ∧ w.2.2.1 w.1 = (fun _ => 0) ∧ w.2.2.2 w.1 = (fun _ => 0)) (hc : r.2.1 + 1 ≤ mc ∧ r.2.2 + 8 ≤ ms) (pc2 : Nat) (hp : pc + 3 = pc2) (w2 : Wd) (hw : (w.1 + 1, w.2) = w2) (r2 : Rb) (hr : (r.1, r.2.1 + 1, r.2.2 + 8) = r2) (k : Zc X Γ B nL r2 w2 pc2 lv (.ref (gL Γ w.1) :: st)) : Zc X Γ B nL r w pc lv (st) := by
  subst hp; subst hw; subst hr
  intro H locs ls hP hS hl
  have hKn := hX.2.2.2.2.2.1.1.1.1 5 _ (show cls[5]? = some (RX5, TX5, 8) from rfl)
  have hh : H.size = gL Γ w.1 := by rw [hX.2.2.2.2.2.2.2.2.2.1.1, hP.2.2]
  refine W.newcK hX.1 hX.2.1 hX.2.2.2.1 (hX.2.2.2.2.1 _ h1) (hX.2.2.2.2.1 _ h2) (hX.2.2.2.2.1 _ h3) rfl hd (Nat.le_trans hc.1 hX.2.2.2.2.2.2.2.2.1.2.2.1) (Nat.le_trans hc.2 hX.2.2.2.2.2.2.2.2.1.2.2.2) hKn.2.1 hh fun H1 kC hkC e1 z1 o1 => ?_
  rw [← hh] at z1 o1
  refine k H1 locs ls (hk_push hX.2.2.2.2.2.2.2.2.2.1 hP z1 o1 ?_) (vS_push hS z1 o1) hl
  rw [hkd, hz.1, hz.2.1, hz.2.2]
  exact ⟨_, rfl, (u_born tyX5 hX.2.2.2.2.1 in5 hKn hkC e1 tyX5_ok).to df_5⟩
theorem df_6 : ∀ j, j < 9 → defaultValue (tyX6 j) = vp_V ([.null, .null, .null, .null, .null, .null, .null, .null, .int 0] : List Value) j := by decide +kernel
theorem k_new6 {X : Cx} {Γ : Gm} {B : Nat} {cc : ByteArray} {own : String} {nL d mc ms : Nat} {r : Rb} {w : Wd} {pc : Nat} {lv : List (Nat × Value)} {st : List Value} (hX : Amk X Γ B cc own nL d mc ms) {idx : Nat} (hd : decode cc pc = .ok (.new idx, 3)) (h1 : Cond.classLink own idx RX6 ∈ gt) (h2 : Cond.instantiable RX6 9 ∈ gt) (h3 : Cond.initialized RX6 ∈ gt) (hkd : kd w.1 = 6) (hz : w.2.1 w.1 = 0 ∧ w.2.2.1 w.1 = (fun _ => 0) ∧ w.2.2.2 w.1 = (fun _ => 0)) (hc : r.2.1 + 1 ≤ mc ∧ r.2.2 + 9 ≤ ms) (pc2 : Nat) (hp : pc + 3 = pc2) (w2 : Wd) (hw : (w.1 + 1, w.2) = w2) (r2 : Rb) (hr : (r.1, r.2.1 + 1, r.2.2 + 9) = r2) (k : Zc X Γ B nL r2 w2 pc2 lv (.ref (gL Γ w.1) :: st)) : Zc X Γ B nL r w pc lv (st) := by
  subst hp; subst hw; subst hr
  intro H locs ls hP hS hl
  have hKn := hX.2.2.2.2.2.1.1.1.1 6 _ (show cls[6]? = some (RX6, TX6, 9) from rfl)
  have hh : H.size = gL Γ w.1 := by rw [hX.2.2.2.2.2.2.2.2.2.1.1, hP.2.2]
  refine W.newcK hX.1 hX.2.1 hX.2.2.2.1 (hX.2.2.2.2.1 _ h1) (hX.2.2.2.2.1 _ h2) (hX.2.2.2.2.1 _ h3) rfl hd (Nat.le_trans hc.1 hX.2.2.2.2.2.2.2.2.1.2.2.1) (Nat.le_trans hc.2 hX.2.2.2.2.2.2.2.2.1.2.2.2) hKn.2.1 hh fun H1 kC hkC e1 z1 o1 => ?_
  rw [← hh] at z1 o1
  refine k H1 locs ls (hk_push hX.2.2.2.2.2.2.2.2.2.1 hP z1 o1 ?_) (vS_push hS z1 o1) hl
  rw [hkd, hz.1, hz.2.1, hz.2.2]
  exact ⟨_, rfl, (u_born tyX6 hX.2.2.2.2.1 in6 hKn hkC e1 tyX6_ok).to df_6⟩
theorem df_7 : ∀ j, j < 28 → defaultValue (tyX7 j) = vp_V ([.null, .null, .null, .int 0, .int 0, .null, .int 0, .int 0, .int 0, .int 0, .null, .int 0, .int 0, .int 0, .int 0, .int 0, .int 0, .int 0, .null, .long 0, .long 0, .long 0, .null, .null, .null, .null, .int 0, .null] : List Value) j := by decide +kernel
theorem k_new7 {X : Cx} {Γ : Gm} {B : Nat} {cc : ByteArray} {own : String} {nL d mc ms : Nat} {r : Rb} {w : Wd} {pc : Nat} {lv : List (Nat × Value)} {st : List Value} (hX : Amk X Γ B cc own nL d mc ms) {idx : Nat} (hd : decode cc pc = .ok (.new idx, 3)) (h1 : Cond.classLink own idx RX7 ∈ gt) (h2 : Cond.instantiable RX7 28 ∈ gt) (h3 : Cond.initialized RX7 ∈ gt) (hkd : kd w.1 = 7) (hz : w.2.1 w.1 = 0 ∧ w.2.2.1 w.1 = (fun _ => 0) ∧ w.2.2.2 w.1 = (fun _ => 0)) (hc : r.2.1 + 1 ≤ mc ∧ r.2.2 + 28 ≤ ms) (pc2 : Nat) (hp : pc + 3 = pc2) (w2 : Wd) (hw : (w.1 + 1, w.2) = w2) (r2 : Rb) (hr : (r.1, r.2.1 + 1, r.2.2 + 28) = r2) (k : Zc X Γ B nL r2 w2 pc2 lv (.ref (gL Γ w.1) :: st)) : Zc X Γ B nL r w pc lv (st) := by
  subst hp; subst hw; subst hr
  intro H locs ls hP hS hl
  have hKn := hX.2.2.2.2.2.1.1.1.1 7 _ (show cls[7]? = some (RX7, TX7, 28) from rfl)
  have hh : H.size = gL Γ w.1 := by rw [hX.2.2.2.2.2.2.2.2.2.1.1, hP.2.2]
  refine W.newcK hX.1 hX.2.1 hX.2.2.2.1 (hX.2.2.2.2.1 _ h1) (hX.2.2.2.2.1 _ h2) (hX.2.2.2.2.1 _ h3) rfl hd (Nat.le_trans hc.1 hX.2.2.2.2.2.2.2.2.1.2.2.1) (Nat.le_trans hc.2 hX.2.2.2.2.2.2.2.2.1.2.2.2) hKn.2.1 hh fun H1 kC hkC e1 z1 o1 => ?_
  rw [← hh] at z1 o1
  refine k H1 locs ls (hk_push hX.2.2.2.2.2.2.2.2.2.1 hP z1 o1 ?_) (vS_push hS z1 o1) hl
  rw [hkd, hz.1, hz.2.1, hz.2.2]
  exact ⟨_, rfl, (u_born tyX7 hX.2.2.2.2.1 in7 hKn hkC e1 tyX7_ok).to df_7⟩
theorem k_arr8 {X : Cx} {Γ : Gm} {B : Nat} {cc : ByteArray} {own : String} {nL d mc ms : Nat} {r : Rb} {w : Wd} {pc : Nat} {lv : List (Nat × Value)} {st : List Value} (hX : Amk X Γ B cc own nL d mc ms) {n : Int32} (N : Nat) (hd : decode cc pc = .ok (.newarray .byte, 2)) (h1 : Cond.arrayClass .byte ∈ gt) (hn : ¬ n < 0) (hN : n.toNatClampNeg = N) (hb : N ≤ 1000) (hkd : kd w.1 = 8) (hln : ln w.1 = N) (hz : w.2.2.1 w.1 = (fun _ => 0)) (hc : r.2.1 + 1 ≤ mc ∧ r.2.2 + N ≤ ms) (pc2 : Nat) (hp : pc + 2 = pc2) (w2 : Wd) (hw : (w.1 + 1, w.2) = w2) (r2 : Rb) (hr : (r.1, r.2.1 + 1, r.2.2 + N) = r2) (k : Zc X Γ B nL r2 w2 pc2 lv (.ref (gL Γ w.1) :: st)) : Zc X Γ B nL r w pc lv (.int n :: st) := by
  subst hp; subst hw; subst hr
  intro H locs ls hP hS hl
  have hh : H.size = gL Γ w.1 := by rw [hX.2.2.2.2.2.2.2.2.2.1.1, hP.2.2]
  have hRA : va_RA (xs X) (gC Γ 8) .byte := (hX.2.2.2.2.2.1.1.1.2 0 _ rfl).2
  refine va_newaK (atype := .byte) hX.1 hX.2.1 (hX.2.2.2.2.1 _ h1) rfl hd rfl hn hN (cb_ok hb (by decide : componentBytes .byte ≤ 8)) (Nat.le_trans hc.1 hX.2.2.2.2.2.2.2.2.1.2.2.1) (Nat.le_trans hc.2 hX.2.2.2.2.2.2.2.2.1.2.2.2) hh fun H1 cA e1 z1 o1 hAr hNm => ?_
  rw [← hh] at z1 o1
  have hcA : cA = gC Γ 8 := Option.some.inj (hNm.symm.trans hRA)
  subst hcA
  refine k H1 locs ls (hk_push hX.2.2.2.2.2.2.2.2.2.1 hP z1 o1 ?_) (vS_push hS z1 o1) hl
  rw [hkd, hz]
  show H1[gL Γ w.1]? = some (vp_cell (gC Γ 8) (ln w.1, .inl (fun _ => 0)))
  rw [e1, hln]
  rfl
theorem k_arr9 {X : Cx} {Γ : Gm} {B : Nat} {cc : ByteArray} {own : String} {nL d mc ms : Nat} {r : Rb} {w : Wd} {pc : Nat} {lv : List (Nat × Value)} {st : List Value} (hX : Amk X Γ B cc own nL d mc ms) {n : Int32} (N : Nat) (hd : decode cc pc = .ok (.newarray .int, 2)) (h1 : Cond.arrayClass .int ∈ gt) (hn : ¬ n < 0) (hN : n.toNatClampNeg = N) (hb : N ≤ 1000) (hkd : kd w.1 = 9) (hln : ln w.1 = N) (hz : w.2.2.1 w.1 = (fun _ => 0)) (hc : r.2.1 + 1 ≤ mc ∧ r.2.2 + N ≤ ms) (pc2 : Nat) (hp : pc + 2 = pc2) (w2 : Wd) (hw : (w.1 + 1, w.2) = w2) (r2 : Rb) (hr : (r.1, r.2.1 + 1, r.2.2 + N) = r2) (k : Zc X Γ B nL r2 w2 pc2 lv (.ref (gL Γ w.1) :: st)) : Zc X Γ B nL r w pc lv (.int n :: st) := by
  subst hp; subst hw; subst hr
  intro H locs ls hP hS hl
  have hh : H.size = gL Γ w.1 := by rw [hX.2.2.2.2.2.2.2.2.2.1.1, hP.2.2]
  have hRA : va_RA (xs X) (gC Γ 9) .int := (hX.2.2.2.2.2.1.1.1.2 1 _ rfl).2
  refine va_newaK (atype := .int) hX.1 hX.2.1 (hX.2.2.2.2.1 _ h1) rfl hd rfl hn hN (cb_ok hb (by decide : componentBytes .int ≤ 8)) (Nat.le_trans hc.1 hX.2.2.2.2.2.2.2.2.1.2.2.1) (Nat.le_trans hc.2 hX.2.2.2.2.2.2.2.2.1.2.2.2) hh fun H1 cA e1 z1 o1 hAr hNm => ?_
  rw [← hh] at z1 o1
  have hcA : cA = gC Γ 9 := Option.some.inj (hNm.symm.trans hRA)
  subst hcA
  refine k H1 locs ls (hk_push hX.2.2.2.2.2.2.2.2.2.1 hP z1 o1 ?_) (vS_push hS z1 o1) hl
  rw [hkd, hz]
  show H1[gL Γ w.1]? = some (vp_cell (gC Γ 9) (ln w.1, .inl (fun _ => 0)))
  rw [e1, hln]
  rfl
theorem k_arr10 {X : Cx} {Γ : Gm} {B : Nat} {cc : ByteArray} {own : String} {nL d mc ms : Nat} {r : Rb} {w : Wd} {pc : Nat} {lv : List (Nat × Value)} {st : List Value} (hX : Amk X Γ B cc own nL d mc ms) {n : Int32} (N : Nat) (hd : decode cc pc = .ok (.newarray .boolean, 2)) (h1 : Cond.arrayClass .boolean ∈ gt) (hn : ¬ n < 0) (hN : n.toNatClampNeg = N) (hb : N ≤ 1000) (hkd : kd w.1 = 10) (hln : ln w.1 = N) (hz : w.2.2.1 w.1 = (fun _ => 0)) (hc : r.2.1 + 1 ≤ mc ∧ r.2.2 + N ≤ ms) (pc2 : Nat) (hp : pc + 2 = pc2) (w2 : Wd) (hw : (w.1 + 1, w.2) = w2) (r2 : Rb) (hr : (r.1, r.2.1 + 1, r.2.2 + N) = r2) (k : Zc X Γ B nL r2 w2 pc2 lv (.ref (gL Γ w.1) :: st)) : Zc X Γ B nL r w pc lv (.int n :: st) := by
  subst hp; subst hw; subst hr
  intro H locs ls hP hS hl
  have hh : H.size = gL Γ w.1 := by rw [hX.2.2.2.2.2.2.2.2.2.1.1, hP.2.2]
  have hRA : va_RA (xs X) (gC Γ 10) .boolean := (hX.2.2.2.2.2.1.1.1.2 2 _ rfl).2
  refine va_newaK (atype := .boolean) hX.1 hX.2.1 (hX.2.2.2.2.1 _ h1) rfl hd rfl hn hN (cb_ok hb (by decide : componentBytes .boolean ≤ 8)) (Nat.le_trans hc.1 hX.2.2.2.2.2.2.2.2.1.2.2.1) (Nat.le_trans hc.2 hX.2.2.2.2.2.2.2.2.1.2.2.2) hh fun H1 cA e1 z1 o1 hAr hNm => ?_
  rw [← hh] at z1 o1
  have hcA : cA = gC Γ 10 := Option.some.inj (hNm.symm.trans hRA)
  subst hcA
  refine k H1 locs ls (hk_push hX.2.2.2.2.2.2.2.2.2.1 hP z1 o1 ?_) (vS_push hS z1 o1) hl
  rw [hkd, hz]
  show H1[gL Γ w.1]? = some (vp_cell (gC Γ 10) (ln w.1, .inl (fun _ => 0)))
  rw [e1, hln]
  rfl
theorem k_anew11 {X : Cx} {Γ : Gm} {B : Nat} {cc : ByteArray} {own : String} {nL d mc ms : Nat} {r : Rb} {w : Wd} {pc : Nat} {lv : List (Nat × Value)} {st : List Value} (hX : Amk X Γ B cc own nL d mc ms) {n : Int32} {idx : Nat} (N : Nat) (hd : decode cc pc = .ok (.anewarray idx, 3)) (h1 : Cond.classLink own idx "SmokeSeats$Image" ∈ gt) (hn : ¬ n < 0) (hN : n.toNatClampNeg = N) (hb : N ≤ 1000) (hkd : kd w.1 = 11) (hln : ln w.1 = N) (hz : w.2.1 w.1 = 0) (hc : r.2.1 + 1 ≤ mc ∧ r.2.2 + N ≤ ms) (pc2 : Nat) (hp : pc + 3 = pc2) (w2 : Wd) (hw : (w.1 + 1, w.2) = w2) (r2 : Rb) (hr : (r.1, r.2.1 + 1, r.2.2 + N) = r2) (k : Zc X Γ B nL r2 w2 pc2 lv (.ref (gL Γ w.1) :: st)) : Zc X Γ B nL r w pc lv (.int n :: st) := by
  subst hp; subst hN; subst hw; subst hr
  intro H locs ls hP hS hl
  have hh : H.size = gL Γ w.1 := by rw [hX.2.2.2.2.2.2.2.2.2.1.1, hP.2.2]
  obtain ⟨kA', comp', k1, k2, k3, k4⟩ := (hX.2.2.2.2.2.1.1.1.2 3 _ rfl).2
  refine W.anew hX.1 hX.2.1 hX.2.2.2.1 (hX.2.2.2.2.1 _ h1) (va_AO.use hX.2.2.2.2.2.1.2.1) rfl hd rfl hn (by omega) (Nat.le_trans hc.1 hX.2.2.2.2.2.2.2.2.1.2.2.1) (Nat.le_trans hc.2 hX.2.2.2.2.2.2.2.2.1.2.2.2) fun cA kA comp f1 f2 f3 f4 => ?_
  have hcA : cA = gC Γ 11 := Option.some.inj (f1.symm.trans k4)
  subst hcA
  generalize hH1 : H.push ({ cls := gC Γ 11, slots := Array.replicate n.toNatClampNeg .null, vm := .none } : Cell) = H1
  have z1 : H1.size = H.size + 1 := by rw [← hH1, Array.size_push]
  have e1 : H1[H.size]? = some (arrV (gC Γ 11) n.toNatClampNeg (fun _ => .null)) := by rw [← hH1, Array.getElem?_push_size, ← arrV_new]
  have o1 : ∀ q : Nat, q < H.size → H1[q]? = H[q]? := fun q hq => by rw [← hH1, Array.getElem?_push, if_neg (Nat.ne_of_lt hq)]
  rw [hh]
  refine k H1 locs ls (hk_push hX.2.2.2.2.2.2.2.2.2.1 hP z1 o1 ?_) (vS_push hS z1 o1) hl
  rw [hkd, hz]
  show H1[gL Γ w.1]? = some (vp_cell (gC Γ 11) (ln w.1, .inr (.inr (.inr (.inr (fun j => if j < 0 then _ else none))))))
  rw [← hh, e1, hln]
  rfl
theorem k_anew12 {X : Cx} {Γ : Gm} {B : Nat} {cc : ByteArray} {own : String} {nL d mc ms : Nat} {r : Rb} {w : Wd} {pc : Nat} {lv : List (Nat × Value)} {st : List Value} (hX : Amk X Γ B cc own nL d mc ms) {n : Int32} {idx : Nat} (N : Nat) (hd : decode cc pc = .ok (.anewarray idx, 3)) (h1 : Cond.classLink own idx "SmokeSeats$Room" ∈ gt) (hn : ¬ n < 0) (hN : n.toNatClampNeg = N) (hb : N ≤ 1000) (hkd : kd w.1 = 12) (hln : ln w.1 = N) (hz : w.2.1 w.1 = 0) (hc : r.2.1 + 1 ≤ mc ∧ r.2.2 + N ≤ ms) (pc2 : Nat) (hp : pc + 3 = pc2) (w2 : Wd) (hw : (w.1 + 1, w.2) = w2) (r2 : Rb) (hr : (r.1, r.2.1 + 1, r.2.2 + N) = r2) (k : Zc X Γ B nL r2 w2 pc2 lv (.ref (gL Γ w.1) :: st)) : Zc X Γ B nL r w pc lv (.int n :: st) := by
  subst hp; subst hN; subst hw; subst hr
  intro H locs ls hP hS hl
  have hh : H.size = gL Γ w.1 := by rw [hX.2.2.2.2.2.2.2.2.2.1.1, hP.2.2]
  obtain ⟨kA', comp', k1, k2, k3, k4⟩ := (hX.2.2.2.2.2.1.1.1.2 4 _ rfl).2
  refine W.anew hX.1 hX.2.1 hX.2.2.2.1 (hX.2.2.2.2.1 _ h1) (va_AO.use hX.2.2.2.2.2.1.2.2.1) rfl hd rfl hn (by omega) (Nat.le_trans hc.1 hX.2.2.2.2.2.2.2.2.1.2.2.1) (Nat.le_trans hc.2 hX.2.2.2.2.2.2.2.2.1.2.2.2) fun cA kA comp f1 f2 f3 f4 => ?_
  have hcA : cA = gC Γ 12 := Option.some.inj (f1.symm.trans k4)
  subst hcA
  generalize hH1 : H.push ({ cls := gC Γ 12, slots := Array.replicate n.toNatClampNeg .null, vm := .none } : Cell) = H1
  have z1 : H1.size = H.size + 1 := by rw [← hH1, Array.size_push]
  have e1 : H1[H.size]? = some (arrV (gC Γ 12) n.toNatClampNeg (fun _ => .null)) := by rw [← hH1, Array.getElem?_push_size, ← arrV_new]
  have o1 : ∀ q : Nat, q < H.size → H1[q]? = H[q]? := fun q hq => by rw [← hH1, Array.getElem?_push, if_neg (Nat.ne_of_lt hq)]
  rw [hh]
  refine k H1 locs ls (hk_push hX.2.2.2.2.2.2.2.2.2.1 hP z1 o1 ?_) (vS_push hS z1 o1) hl
  rw [hkd, hz]
  show H1[gL Γ w.1]? = some (vp_cell (gC Γ 12) (ln w.1, .inr (.inr (.inr (.inr (fun j => if j < 0 then _ else none))))))
  rw [← hh, e1, hln]
  rfl
theorem k_anew13 {X : Cx} {Γ : Gm} {B : Nat} {cc : ByteArray} {own : String} {nL d mc ms : Nat} {r : Rb} {w : Wd} {pc : Nat} {lv : List (Nat × Value)} {st : List Value} (hX : Amk X Γ B cc own nL d mc ms) {n : Int32} {idx : Nat} (N : Nat) (hd : decode cc pc = .ok (.anewarray idx, 3)) (h1 : Cond.classLink own idx "SmokeSeats$Sheet" ∈ gt) (hn : ¬ n < 0) (hN : n.toNatClampNeg = N) (hb : N ≤ 1000) (hkd : kd w.1 = 13) (hln : ln w.1 = N) (hz : w.2.1 w.1 = 0) (hc : r.2.1 + 1 ≤ mc ∧ r.2.2 + N ≤ ms) (pc2 : Nat) (hp : pc + 3 = pc2) (w2 : Wd) (hw : (w.1 + 1, w.2) = w2) (r2 : Rb) (hr : (r.1, r.2.1 + 1, r.2.2 + N) = r2) (k : Zc X Γ B nL r2 w2 pc2 lv (.ref (gL Γ w.1) :: st)) : Zc X Γ B nL r w pc lv (.int n :: st) := by
  subst hp; subst hN; subst hw; subst hr
  intro H locs ls hP hS hl
  have hh : H.size = gL Γ w.1 := by rw [hX.2.2.2.2.2.2.2.2.2.1.1, hP.2.2]
  obtain ⟨kA', comp', k1, k2, k3, k4⟩ := (hX.2.2.2.2.2.1.1.1.2 5 _ rfl).2
  refine W.anew hX.1 hX.2.1 hX.2.2.2.1 (hX.2.2.2.2.1 _ h1) (va_AO.use hX.2.2.2.2.2.1.2.2.2) rfl hd rfl hn (by omega) (Nat.le_trans hc.1 hX.2.2.2.2.2.2.2.2.1.2.2.1) (Nat.le_trans hc.2 hX.2.2.2.2.2.2.2.2.1.2.2.2) fun cA kA comp f1 f2 f3 f4 => ?_
  have hcA : cA = gC Γ 13 := Option.some.inj (f1.symm.trans k4)
  subst hcA
  generalize hH1 : H.push ({ cls := gC Γ 13, slots := Array.replicate n.toNatClampNeg .null, vm := .none } : Cell) = H1
  have z1 : H1.size = H.size + 1 := by rw [← hH1, Array.size_push]
  have e1 : H1[H.size]? = some (arrV (gC Γ 13) n.toNatClampNeg (fun _ => .null)) := by rw [← hH1, Array.getElem?_push_size, ← arrV_new]
  have o1 : ∀ q : Nat, q < H.size → H1[q]? = H[q]? := fun q hq => by rw [← hH1, Array.getElem?_push, if_neg (Nat.ne_of_lt hq)]
  rw [hh]
  refine k H1 locs ls (hk_push hX.2.2.2.2.2.2.2.2.2.1 hP z1 o1 ?_) (vS_push hS z1 o1) hl
  rw [hkd, hz]
  show H1[gL Γ w.1]? = some (vp_cell (gC Γ 13) (ln w.1, .inr (.inr (.inr (.inr (fun j => if j < 0 then _ else none))))))
  rw [← hh, e1, hln]
  rfl
theorem k_putG {X : Cx} {Γ : Gm} {B : Nat} {cc : ByteArray} {own : String} {nL d mc ms : Nat} {r : Rb} {w : Wd} {pc : Nat} {lv : List (Nat × Value)} {st : List Value} (hX : Amk X Γ B cc own nL d mc ms) {k ci j idx N : Nat} {C : String} {T : u_T} {fs : List Value} {v : Value} {ty : FieldType} {w2 : Wd} (hkK : k < w.1) (he : entN Γ (w.2.1 k) (kd k) k (w.2.2.1 k) (w.2.2.2 k) = .inr (ci, fs)) (hc : cls[ci]? = some (C, T, N)) (hin : ∀ w ∈ u_ws C T N, w ∈ gt) (ty0 : Nat → FieldType) (hty : ∀ k, k < N → parseFieldDescriptor (T k).2.2.1 = some (ty0 k)) (hnm : ∀ a, a < N → ∀ b, b < N → a ≠ b → (T a).2.1 ≠ (T b).2.1) (hj : j < N) (hfin : (T j).2.2.2 = false ∨ ((T j).2.2.2 = true ∧ (T j).1 = own)) (hpd : parseFieldDescriptor (T j).2.2.1 = some ty) (hn : narrow ty v = v) (hfit : fits ty v = true) (hlen : j < fs.length) (hK2 : w2.1 = w.1) (h1 : entN Γ (w2.2.1 k) (kd k) k (w2.2.2.1 k) (w2.2.2.2 k) = .inr (ci, fs.set j v)) (h2 : ∀ j, j ≠ k → w2.2.1 j = w.2.1 j ∧ w2.2.2.1 j = w.2.2.1 j ∧ w2.2.2.2 j = w.2.2.2 j) (hd : decode cc pc = .ok (.putfield idx, 3)) (hl : Cond.fieldLink own idx (T j).1 (T j).2.1 (T j).2.2.1 ∈ gt) (pc2 : Nat) (hp : pc + 3 = pc2) (kk : Zc X Γ B nL r w2 pc2 lv (st)) : Zc X Γ B nL r w pc lv (v :: .ref (gL Γ k) :: st) := by
  subst hp
  intro H locs ls hP hS h3
  refine c_putW (D := gD Γ) (cl := cls) (ci := ci) (C := C) (T := T) (N := N) hX.1 hX.2.1 hX.2.2.2.2.1 hin ty0 hty hnm hX.2.2.2.1 hX.2.2.2.2.2.1.1.1 hP.1 hP.2.1 hS k (by rw [wk_get hkK, he]) hc j hj (hX.2.2.2.2.1 _ hl) (hfin.imp id (fun q => ⟨q.1, hX.2.2.2.2.2.2.2.2.2.2.1, q.2⟩)) hpd hn hfit hlen hd (fun H1 locs1 z p1 p2 p3 => kk H1 locs1 ls ?_ p3 h3)
  rw [wk_set hkK h1 h2] at p1 p2
  unfold hk
  rw [hK2]
  exact ⟨p1, p2, by rw [z, hP.2.2]⟩
theorem k_getG {X : Cx} {Γ : Gm} {B : Nat} {cc : ByteArray} {own : String} {nL d mc ms : Nat} {r : Rb} {w : Wd} {pc : Nat} {lv : List (Nat × Value)} {st : List Value} (hX : Amk X Γ B cc own nL d mc ms) {k ci j idx N : Nat} {C : String} {T : u_T} {fs : List Value} {v : Value} (hkK : k < w.1) (he : entN Γ (w.2.1 k) (kd k) k (w.2.2.1 k) (w.2.2.2 k) = .inr (ci, fs)) (hc : cls[ci]? = some (C, T, N)) (hin : ∀ w ∈ u_ws C T N, w ∈ gt) (hj : j < N) (hv : fs[j]? = some v) (hd : decode cc pc = .ok (.getfield idx, 3)) (hl : Cond.fieldLink own idx (T j).1 (T j).2.1 (T j).2.2.1 ∈ gt) (pc2 : Nat) (hp : pc + 3 = pc2) (kk : Zc X Γ B nL r w pc2 lv (v :: st)) : Zc X Γ B nL r w pc lv (.ref (gL Γ k) :: st) := by
  subst hp
  exact fun H locs ls hP hS h2 => va_get (D := gD Γ) (cl := cls) (ci := ci) (C := C) (T := T) (N := N) hX.1 hX.2.1 hX.2.2.2.2.1 hin hX.2.2.2.1 hX.2.2.2.2.2.1.1.1 hP.1 k (by rw [wk_get hkK, he]) hc j hj (hX.2.2.2.2.1 _ hl) (fun _ h => h) hv hd (kk H locs ls hP hS h2)
theorem k_aast {X : Cx} {Γ : Gm} {B : Nat} {cc : ByteArray} {own : String} {nL d mc ms : Nat} {r : Rb} {w : Wd} {pc : Nat} {lv : List (Nat × Value)} {st : List Value} (hX : Amk X Γ B cc own nL d mc ms) {k kv ci N : Nat} {C : String} {T : u_T} {cA : ClassId} {n : Nat} {f : Nat → Option Nat} {vs : List Value} {i : Int32} {w2 : Wd} (t0 : Nat) (hkK : k < w.1) (hvK : kv < w.1) (he : entN Γ (w.2.1 k) (kd k) k (w.2.2.1 k) (w.2.2.2 k) = .inl (cA, n, .inr (.inr (.inr (.inr f))))) (hev : entN Γ (w.2.1 kv) (kd kv) kv (w.2.2.1 kv) (w.2.2.2 kv) = .inr (ci, vs)) (hc : cls[ci]? = some (C, T, N)) (ht : (tys Γ)[t0]? = some (cA, .object C)) (hin : vp_in i n) (hK2 : w2.1 = w.1) (h1 : entN Γ (w2.2.1 k) (kd k) k (w2.2.2.1 k) (w2.2.2.2 k) = .inl (cA, n, .inr (.inr (.inr (.inr (va_up f i.toNatClampNeg (some (gL Γ kv)))))))) (h2 : ∀ j, j ≠ k → w2.2.1 j = w.2.1 j ∧ w2.2.2.1 j = w.2.2.1 j ∧ w2.2.2.2 j = w.2.2.2 j) (hd : decode cc pc = .ok (.aastore, 1)) (pc2 : Nat) (hp : pc + 1 = pc2) (kk : Zc X Γ B nL r w2 pc2 lv (st)) : Zc X Γ B nL r w pc lv (.ref (gL Γ kv) :: .int i :: .ref (gL Γ k) :: st) := by
  subst hp
  intro H locs ls hP hS h3
  refine c_aastW (D := gD Γ) (cl := cls) (tys := tys Γ) (r := (C, T, N)) hX.1 hX.2.1 hX.2.2.2.2.2.1.1.1 hP.1 hP.2.1 hS k t0 kv ci (by rw [wk_get hkK, he]) ht (by rw [wk_get hvK, hev]) hc hin hd (fun H1 locs1 z p1 p2 p3 => kk H1 locs1 ls ?_ p3 h3)
  rw [wk_set hkK h1 h2] at p1 p2
  unfold hk
  rw [hK2]
  exact ⟨p1, p2, by rw [z, hP.2.2]⟩
theorem set_same {α : Type} {l : List α} {j : Nat} {v : α} (h : l[j]? = some v) : l.set j v = l := by
  apply List.ext_getElem?
  intro i
  rw [List.getElem?_set]
  by_cases hi : j = i
  · subst hi
    have hj : j < l.length := (List.getElem?_eq_some_iff.mp h).1
    rw [if_pos rfl, if_pos hj, h]
  · rw [if_neg hi]
def nu (N : Nat → Nat) (k n : Nat) : Nat → Nat := fun a => if a = k then n else N a
theorem nu_k {N : Nat → Nat} {k n : Nat} : nu N k n k = n := if_pos rfl
theorem nu_nu {N : Nat → Nat} {k n m : Nat} : nu (nu N k n) k m = nu N k m := by
  funext a
  unfold nu
  by_cases h : a = k <;> simp [h]
theorem nu_o {N : Nat → Nat} {k n j : Nat} (h : j ≠ k) : nu N k n j = N j := if_neg h
def flN (Γ : Gm) (n c k : Nat) (f : Nat → Int32) (g : Nat → Int64) : List Value := match entN Γ n c k f g with
  | .inr q => q.2
  | .inl _ => []
theorem enN_0 {Γ : Gm} {n k : Nat} {f : Nat → Int32} {g : Nat → Int64} (h : kd k = 0) : entN Γ n (kd k) k f g = .inr (0, flN Γ n 0 k f g) := by rw [h]; rfl
theorem k_put0_0 {X : Cx} {Γ : Gm} {B : Nat} {cc : ByteArray} {own : String} {nL d mc ms : Nat} {r : Rb} {w : Wd} {pc : Nat} {lv : List (Nat × Value)} {st : List Value} (hX : Amk X Γ B cc own nL d mc ms) {k j idx : Nat} {v : Value} (hkd : kd k = 0) (hkK : k < w.1) (hj : j < 3) {ty : FieldType} (hfin : (TX0 j).2.2.2 = false) (hpd : parseFieldDescriptor (TX0 j).2.2.1 = some ty) (hn : narrow ty v = v) (hfit : fits ty v = true) (hs : (flN Γ (w.2.1 k) 0 k (w.2.2.1 k) (w.2.2.2 k))[j]? = some v) (hd : decode cc pc = .ok (.putfield idx, 3)) (hl : Cond.fieldLink own idx (TX0 j).1 (TX0 j).2.1 (TX0 j).2.2.1 ∈ gt) (pc2 : Nat) (hp : pc + 3 = pc2) (kk : Zc X Γ B nL r w pc2 lv (st)) : Zc X Γ B nL r w pc lv (v :: .ref (gL Γ k) :: st) :=
  k_putG hX (w2 := w) hkK (enN_0 hkd) (show cls[0]? = some (RX0, TX0, 3) from rfl) in0 tyX0 tyX0_ok nmX0 hj (Or.inl hfin) hpd hn hfit hj rfl (by rw [enN_0 hkd, set_same hs]) (fun _ _ => ⟨rfl, rfl, rfl⟩) hd hl pc2 hp kk
theorem k_putI_0 {X : Cx} {Γ : Gm} {B : Nat} {cc : ByteArray} {own : String} {nL d mc ms : Nat} {r : Rb} {w : Wd} {pc : Nat} {lv : List (Nat × Value)} {st : List Value} (hX : Amk X Γ B cc own nL d mc ms) {k j idx : Nat} {x : Int32} (w2 : Wd) (hkd : kd k = 0) (hkK : k < w.1) (hj : j < 3) (hfin : (TX0 j).2.2.2 = false) (hpd : parseFieldDescriptor (TX0 j).2.2.1 = some .int) (hs : ∀ n f g, (flN Γ n 0 k f g).set j (.int x) = flN Γ n 0 k (upd f j x) g) (hd : decode cc pc = .ok (.putfield idx, 3)) (hl : Cond.fieldLink own idx (TX0 j).1 (TX0 j).2.1 (TX0 j).2.2.1 ∈ gt) (hw : (w.1, w.2.1, wI w.2.2 k j x) = w2) (pc2 : Nat) (hp : pc + 3 = pc2) (kk : Zc X Γ B nL r w2 pc2 lv (st)) : Zc X Γ B nL r w pc lv (.int x :: .ref (gL Γ k) :: st) := by
  subst hw
  exact k_putG hX (w2 := (w.1, w.2.1, wI w.2.2 k j x)) hkK (enN_0 hkd) (show cls[0]? = some (RX0, TX0, 3) from rfl) in0 tyX0 tyX0_ok nmX0 hj (Or.inl hfin) hpd rfl rfl hj rfl (by show entN Γ (w.2.1 k) (kd k) k ((wI w.2.2 k j x).1 k) (w.2.2.2 k) = _; rw [enN_0 hkd, wI_k, hs]) (fun a h => ⟨rfl, wI_o a h⟩) hd hl pc2 hp kk
theorem k_putJ_0 {X : Cx} {Γ : Gm} {B : Nat} {cc : ByteArray} {own : String} {nL d mc ms : Nat} {r : Rb} {w : Wd} {pc : Nat} {lv : List (Nat × Value)} {st : List Value} (hX : Amk X Γ B cc own nL d mc ms) {k j idx : Nat} {x : Int64} (w2 : Wd) (hkd : kd k = 0) (hkK : k < w.1) (hj : j < 3) (hfin : (TX0 j).2.2.2 = false) (hpd : parseFieldDescriptor (TX0 j).2.2.1 = some .long) (hs : ∀ n f g, (flN Γ n 0 k f g).set j (.long x) = flN Γ n 0 k f (vp_updL g j x)) (hd : decode cc pc = .ok (.putfield idx, 3)) (hl : Cond.fieldLink own idx (TX0 j).1 (TX0 j).2.1 (TX0 j).2.2.1 ∈ gt) (hw : (w.1, w.2.1, wJ w.2.2 k j x) = w2) (pc2 : Nat) (hp : pc + 3 = pc2) (kk : Zc X Γ B nL r w2 pc2 lv (st)) : Zc X Γ B nL r w pc lv (.long x :: .ref (gL Γ k) :: st) := by
  subst hw
  exact k_putG hX (w2 := (w.1, w.2.1, wJ w.2.2 k j x)) hkK (enN_0 hkd) (show cls[0]? = some (RX0, TX0, 3) from rfl) in0 tyX0 tyX0_ok nmX0 hj (Or.inl hfin) hpd rfl rfl hj rfl (by show entN Γ (w.2.1 k) (kd k) k (w.2.2.1 k) ((wJ w.2.2 k j x).2 k) = _; rw [enN_0 hkd, wJ_k, hs]) (fun a h => ⟨rfl, wJ_o a h⟩) hd hl pc2 hp kk
theorem k_putR_0 {X : Cx} {Γ : Gm} {B : Nat} {cc : ByteArray} {own : String} {nL d mc ms : Nat} {r : Rb} {w : Wd} {pc : Nat} {lv : List (Nat × Value)} {st : List Value} (hX : Amk X Γ B cc own nL d mc ms) {k j idx t : Nat} (n : Nat) (w2 : Wd) (hkd : kd k = 0) (hkK : k < w.1) (hN : w.2.1 k = n) (hj : j < 3) {ty : FieldType} (hfin : (TX0 j).2.2.2 = true ∧ (TX0 j).1 = own) (hpd : parseFieldDescriptor (TX0 j).2.2.1 = some ty) (hn : narrow ty (.ref (gL Γ t)) = .ref (gL Γ t)) (hfit : fits ty (.ref (gL Γ t)) = true) (hs : ∀ f g, (flN Γ n 0 k f g).set j (.ref (gL Γ t)) = flN Γ (n + 1) 0 k f g) (hd : decode cc pc = .ok (.putfield idx, 3)) (hl : Cond.fieldLink own idx (TX0 j).1 (TX0 j).2.1 (TX0 j).2.2.1 ∈ gt) (hw : (w.1, nu w.2.1 k (n + 1), w.2.2) = w2) (pc2 : Nat) (hp : pc + 3 = pc2) (kk : Zc X Γ B nL r w2 pc2 lv (st)) : Zc X Γ B nL r w pc lv (.ref (gL Γ t) :: .ref (gL Γ k) :: st) := by
  subst hw
  exact k_putG hX (w2 := (w.1, nu w.2.1 k (n + 1), w.2.2)) (fs := flN Γ n 0 k (w.2.2.1 k) (w.2.2.2 k)) hkK (by rw [hN]; exact enN_0 hkd) (show cls[0]? = some (RX0, TX0, 3) from rfl) in0 tyX0 tyX0_ok nmX0 hj (Or.inr hfin) hpd hn hfit hj rfl (by show entN Γ (nu w.2.1 k (n + 1) k) (kd k) k (w.2.2.1 k) (w.2.2.2 k) = _; rw [nu_k, enN_0 hkd, hs]) (fun a h => ⟨nu_o h, rfl, rfl⟩) hd hl pc2 hp kk
theorem k_get_0 {X : Cx} {Γ : Gm} {B : Nat} {cc : ByteArray} {own : String} {nL d mc ms : Nat} {r : Rb} {w : Wd} {pc : Nat} {lv : List (Nat × Value)} {st : List Value} (hX : Amk X Γ B cc own nL d mc ms) {k j idx : Nat} {v : Value} (n : Nat) (hkd : kd k = 0) (hkK : k < w.1) (hN : w.2.1 k = n) (hj : j < 3) (hv : (flN Γ n 0 k (w.2.2.1 k) (w.2.2.2 k))[j]? = some v) (hd : decode cc pc = .ok (.getfield idx, 3)) (hl : Cond.fieldLink own idx (TX0 j).1 (TX0 j).2.1 (TX0 j).2.2.1 ∈ gt) (pc2 : Nat) (hp : pc + 3 = pc2) (kk : Zc X Γ B nL r w pc2 lv (v :: st)) : Zc X Γ B nL r w pc lv (.ref (gL Γ k) :: st) :=
  k_getG hX hkK (by rw [hN]; exact enN_0 hkd) (show cls[0]? = some (RX0, TX0, 3) from rfl) in0 hj hv hd hl pc2 hp kk
theorem enN_1 {Γ : Gm} {n k : Nat} {f : Nat → Int32} {g : Nat → Int64} (h : kd k = 1) : entN Γ n (kd k) k f g = .inr (1, flN Γ n 1 k f g) := by rw [h]; rfl
theorem k_put0_1 {X : Cx} {Γ : Gm} {B : Nat} {cc : ByteArray} {own : String} {nL d mc ms : Nat} {r : Rb} {w : Wd} {pc : Nat} {lv : List (Nat × Value)} {st : List Value} (hX : Amk X Γ B cc own nL d mc ms) {k j idx : Nat} {v : Value} (hkd : kd k = 1) (hkK : k < w.1) (hj : j < 7) {ty : FieldType} (hfin : (TX1 j).2.2.2 = false) (hpd : parseFieldDescriptor (TX1 j).2.2.1 = some ty) (hn : narrow ty v = v) (hfit : fits ty v = true) (hs : (flN Γ (w.2.1 k) 1 k (w.2.2.1 k) (w.2.2.2 k))[j]? = some v) (hd : decode cc pc = .ok (.putfield idx, 3)) (hl : Cond.fieldLink own idx (TX1 j).1 (TX1 j).2.1 (TX1 j).2.2.1 ∈ gt) (pc2 : Nat) (hp : pc + 3 = pc2) (kk : Zc X Γ B nL r w pc2 lv (st)) : Zc X Γ B nL r w pc lv (v :: .ref (gL Γ k) :: st) :=
  k_putG hX (w2 := w) hkK (enN_1 hkd) (show cls[1]? = some (RX1, TX1, 7) from rfl) in1 tyX1 tyX1_ok nmX1 hj (Or.inl hfin) hpd hn hfit hj rfl (by rw [enN_1 hkd, set_same hs]) (fun _ _ => ⟨rfl, rfl, rfl⟩) hd hl pc2 hp kk
theorem k_putI_1 {X : Cx} {Γ : Gm} {B : Nat} {cc : ByteArray} {own : String} {nL d mc ms : Nat} {r : Rb} {w : Wd} {pc : Nat} {lv : List (Nat × Value)} {st : List Value} (hX : Amk X Γ B cc own nL d mc ms) {k j idx : Nat} {x : Int32} (w2 : Wd) (hkd : kd k = 1) (hkK : k < w.1) (hj : j < 7) (hfin : (TX1 j).2.2.2 = false) (hpd : parseFieldDescriptor (TX1 j).2.2.1 = some .int) (hs : ∀ n f g, (flN Γ n 1 k f g).set j (.int x) = flN Γ n 1 k (upd f j x) g) (hd : decode cc pc = .ok (.putfield idx, 3)) (hl : Cond.fieldLink own idx (TX1 j).1 (TX1 j).2.1 (TX1 j).2.2.1 ∈ gt) (hw : (w.1, w.2.1, wI w.2.2 k j x) = w2) (pc2 : Nat) (hp : pc + 3 = pc2) (kk : Zc X Γ B nL r w2 pc2 lv (st)) : Zc X Γ B nL r w pc lv (.int x :: .ref (gL Γ k) :: st) := by
  subst hw
  exact k_putG hX (w2 := (w.1, w.2.1, wI w.2.2 k j x)) hkK (enN_1 hkd) (show cls[1]? = some (RX1, TX1, 7) from rfl) in1 tyX1 tyX1_ok nmX1 hj (Or.inl hfin) hpd rfl rfl hj rfl (by show entN Γ (w.2.1 k) (kd k) k ((wI w.2.2 k j x).1 k) (w.2.2.2 k) = _; rw [enN_1 hkd, wI_k, hs]) (fun a h => ⟨rfl, wI_o a h⟩) hd hl pc2 hp kk
theorem k_putJ_1 {X : Cx} {Γ : Gm} {B : Nat} {cc : ByteArray} {own : String} {nL d mc ms : Nat} {r : Rb} {w : Wd} {pc : Nat} {lv : List (Nat × Value)} {st : List Value} (hX : Amk X Γ B cc own nL d mc ms) {k j idx : Nat} {x : Int64} (w2 : Wd) (hkd : kd k = 1) (hkK : k < w.1) (hj : j < 7) (hfin : (TX1 j).2.2.2 = false) (hpd : parseFieldDescriptor (TX1 j).2.2.1 = some .long) (hs : ∀ n f g, (flN Γ n 1 k f g).set j (.long x) = flN Γ n 1 k f (vp_updL g j x)) (hd : decode cc pc = .ok (.putfield idx, 3)) (hl : Cond.fieldLink own idx (TX1 j).1 (TX1 j).2.1 (TX1 j).2.2.1 ∈ gt) (hw : (w.1, w.2.1, wJ w.2.2 k j x) = w2) (pc2 : Nat) (hp : pc + 3 = pc2) (kk : Zc X Γ B nL r w2 pc2 lv (st)) : Zc X Γ B nL r w pc lv (.long x :: .ref (gL Γ k) :: st) := by
  subst hw
  exact k_putG hX (w2 := (w.1, w.2.1, wJ w.2.2 k j x)) hkK (enN_1 hkd) (show cls[1]? = some (RX1, TX1, 7) from rfl) in1 tyX1 tyX1_ok nmX1 hj (Or.inl hfin) hpd rfl rfl hj rfl (by show entN Γ (w.2.1 k) (kd k) k (w.2.2.1 k) ((wJ w.2.2 k j x).2 k) = _; rw [enN_1 hkd, wJ_k, hs]) (fun a h => ⟨rfl, wJ_o a h⟩) hd hl pc2 hp kk
theorem k_putR_1 {X : Cx} {Γ : Gm} {B : Nat} {cc : ByteArray} {own : String} {nL d mc ms : Nat} {r : Rb} {w : Wd} {pc : Nat} {lv : List (Nat × Value)} {st : List Value} (hX : Amk X Γ B cc own nL d mc ms) {k j idx t : Nat} (n : Nat) (w2 : Wd) (hkd : kd k = 1) (hkK : k < w.1) (hN : w.2.1 k = n) (hj : j < 7) {ty : FieldType} (hfin : (TX1 j).2.2.2 = true ∧ (TX1 j).1 = own) (hpd : parseFieldDescriptor (TX1 j).2.2.1 = some ty) (hn : narrow ty (.ref (gL Γ t)) = .ref (gL Γ t)) (hfit : fits ty (.ref (gL Γ t)) = true) (hs : ∀ f g, (flN Γ n 1 k f g).set j (.ref (gL Γ t)) = flN Γ (n + 1) 1 k f g) (hd : decode cc pc = .ok (.putfield idx, 3)) (hl : Cond.fieldLink own idx (TX1 j).1 (TX1 j).2.1 (TX1 j).2.2.1 ∈ gt) (hw : (w.1, nu w.2.1 k (n + 1), w.2.2) = w2) (pc2 : Nat) (hp : pc + 3 = pc2) (kk : Zc X Γ B nL r w2 pc2 lv (st)) : Zc X Γ B nL r w pc lv (.ref (gL Γ t) :: .ref (gL Γ k) :: st) := by
  subst hw
  exact k_putG hX (w2 := (w.1, nu w.2.1 k (n + 1), w.2.2)) (fs := flN Γ n 1 k (w.2.2.1 k) (w.2.2.2 k)) hkK (by rw [hN]; exact enN_1 hkd) (show cls[1]? = some (RX1, TX1, 7) from rfl) in1 tyX1 tyX1_ok nmX1 hj (Or.inr hfin) hpd hn hfit hj rfl (by show entN Γ (nu w.2.1 k (n + 1) k) (kd k) k (w.2.2.1 k) (w.2.2.2 k) = _; rw [nu_k, enN_1 hkd, hs]) (fun a h => ⟨nu_o h, rfl, rfl⟩) hd hl pc2 hp kk
theorem k_get_1 {X : Cx} {Γ : Gm} {B : Nat} {cc : ByteArray} {own : String} {nL d mc ms : Nat} {r : Rb} {w : Wd} {pc : Nat} {lv : List (Nat × Value)} {st : List Value} (hX : Amk X Γ B cc own nL d mc ms) {k j idx : Nat} {v : Value} (n : Nat) (hkd : kd k = 1) (hkK : k < w.1) (hN : w.2.1 k = n) (hj : j < 7) (hv : (flN Γ n 1 k (w.2.2.1 k) (w.2.2.2 k))[j]? = some v) (hd : decode cc pc = .ok (.getfield idx, 3)) (hl : Cond.fieldLink own idx (TX1 j).1 (TX1 j).2.1 (TX1 j).2.2.1 ∈ gt) (pc2 : Nat) (hp : pc + 3 = pc2) (kk : Zc X Γ B nL r w pc2 lv (v :: st)) : Zc X Γ B nL r w pc lv (.ref (gL Γ k) :: st) :=
  k_getG hX hkK (by rw [hN]; exact enN_1 hkd) (show cls[1]? = some (RX1, TX1, 7) from rfl) in1 hj hv hd hl pc2 hp kk
theorem enN_2 {Γ : Gm} {n k : Nat} {f : Nat → Int32} {g : Nat → Int64} (h : kd k = 2) : entN Γ n (kd k) k f g = .inr (2, flN Γ n 2 k f g) := by rw [h]; rfl
theorem k_put0_2 {X : Cx} {Γ : Gm} {B : Nat} {cc : ByteArray} {own : String} {nL d mc ms : Nat} {r : Rb} {w : Wd} {pc : Nat} {lv : List (Nat × Value)} {st : List Value} (hX : Amk X Γ B cc own nL d mc ms) {k j idx : Nat} {v : Value} (hkd : kd k = 2) (hkK : k < w.1) (hj : j < 15) {ty : FieldType} (hfin : (TX2 j).2.2.2 = false) (hpd : parseFieldDescriptor (TX2 j).2.2.1 = some ty) (hn : narrow ty v = v) (hfit : fits ty v = true) (hs : (flN Γ (w.2.1 k) 2 k (w.2.2.1 k) (w.2.2.2 k))[j]? = some v) (hd : decode cc pc = .ok (.putfield idx, 3)) (hl : Cond.fieldLink own idx (TX2 j).1 (TX2 j).2.1 (TX2 j).2.2.1 ∈ gt) (pc2 : Nat) (hp : pc + 3 = pc2) (kk : Zc X Γ B nL r w pc2 lv (st)) : Zc X Γ B nL r w pc lv (v :: .ref (gL Γ k) :: st) :=
  k_putG hX (w2 := w) hkK (enN_2 hkd) (show cls[2]? = some (RX2, TX2, 15) from rfl) in2 tyX2 tyX2_ok nmX2 hj (Or.inl hfin) hpd hn hfit hj rfl (by rw [enN_2 hkd, set_same hs]) (fun _ _ => ⟨rfl, rfl, rfl⟩) hd hl pc2 hp kk
theorem k_putI_2 {X : Cx} {Γ : Gm} {B : Nat} {cc : ByteArray} {own : String} {nL d mc ms : Nat} {r : Rb} {w : Wd} {pc : Nat} {lv : List (Nat × Value)} {st : List Value} (hX : Amk X Γ B cc own nL d mc ms) {k j idx : Nat} {x : Int32} (w2 : Wd) (hkd : kd k = 2) (hkK : k < w.1) (hj : j < 15) (hfin : (TX2 j).2.2.2 = false) (hpd : parseFieldDescriptor (TX2 j).2.2.1 = some .int) (hs : ∀ n f g, (flN Γ n 2 k f g).set j (.int x) = flN Γ n 2 k (upd f j x) g) (hd : decode cc pc = .ok (.putfield idx, 3)) (hl : Cond.fieldLink own idx (TX2 j).1 (TX2 j).2.1 (TX2 j).2.2.1 ∈ gt) (hw : (w.1, w.2.1, wI w.2.2 k j x) = w2) (pc2 : Nat) (hp : pc + 3 = pc2) (kk : Zc X Γ B nL r w2 pc2 lv (st)) : Zc X Γ B nL r w pc lv (.int x :: .ref (gL Γ k) :: st) := by
  subst hw
  exact k_putG hX (w2 := (w.1, w.2.1, wI w.2.2 k j x)) hkK (enN_2 hkd) (show cls[2]? = some (RX2, TX2, 15) from rfl) in2 tyX2 tyX2_ok nmX2 hj (Or.inl hfin) hpd rfl rfl hj rfl (by show entN Γ (w.2.1 k) (kd k) k ((wI w.2.2 k j x).1 k) (w.2.2.2 k) = _; rw [enN_2 hkd, wI_k, hs]) (fun a h => ⟨rfl, wI_o a h⟩) hd hl pc2 hp kk
theorem k_putJ_2 {X : Cx} {Γ : Gm} {B : Nat} {cc : ByteArray} {own : String} {nL d mc ms : Nat} {r : Rb} {w : Wd} {pc : Nat} {lv : List (Nat × Value)} {st : List Value} (hX : Amk X Γ B cc own nL d mc ms) {k j idx : Nat} {x : Int64} (w2 : Wd) (hkd : kd k = 2) (hkK : k < w.1) (hj : j < 15) (hfin : (TX2 j).2.2.2 = false) (hpd : parseFieldDescriptor (TX2 j).2.2.1 = some .long) (hs : ∀ n f g, (flN Γ n 2 k f g).set j (.long x) = flN Γ n 2 k f (vp_updL g j x)) (hd : decode cc pc = .ok (.putfield idx, 3)) (hl : Cond.fieldLink own idx (TX2 j).1 (TX2 j).2.1 (TX2 j).2.2.1 ∈ gt) (hw : (w.1, w.2.1, wJ w.2.2 k j x) = w2) (pc2 : Nat) (hp : pc + 3 = pc2) (kk : Zc X Γ B nL r w2 pc2 lv (st)) : Zc X Γ B nL r w pc lv (.long x :: .ref (gL Γ k) :: st) := by
  subst hw
  exact k_putG hX (w2 := (w.1, w.2.1, wJ w.2.2 k j x)) hkK (enN_2 hkd) (show cls[2]? = some (RX2, TX2, 15) from rfl) in2 tyX2 tyX2_ok nmX2 hj (Or.inl hfin) hpd rfl rfl hj rfl (by show entN Γ (w.2.1 k) (kd k) k (w.2.2.1 k) ((wJ w.2.2 k j x).2 k) = _; rw [enN_2 hkd, wJ_k, hs]) (fun a h => ⟨rfl, wJ_o a h⟩) hd hl pc2 hp kk
theorem k_putR_2 {X : Cx} {Γ : Gm} {B : Nat} {cc : ByteArray} {own : String} {nL d mc ms : Nat} {r : Rb} {w : Wd} {pc : Nat} {lv : List (Nat × Value)} {st : List Value} (hX : Amk X Γ B cc own nL d mc ms) {k j idx t : Nat} (n : Nat) (w2 : Wd) (hkd : kd k = 2) (hkK : k < w.1) (hN : w.2.1 k = n) (hj : j < 15) {ty : FieldType} (hfin : (TX2 j).2.2.2 = true ∧ (TX2 j).1 = own) (hpd : parseFieldDescriptor (TX2 j).2.2.1 = some ty) (hn : narrow ty (.ref (gL Γ t)) = .ref (gL Γ t)) (hfit : fits ty (.ref (gL Γ t)) = true) (hs : ∀ f g, (flN Γ n 2 k f g).set j (.ref (gL Γ t)) = flN Γ (n + 1) 2 k f g) (hd : decode cc pc = .ok (.putfield idx, 3)) (hl : Cond.fieldLink own idx (TX2 j).1 (TX2 j).2.1 (TX2 j).2.2.1 ∈ gt) (hw : (w.1, nu w.2.1 k (n + 1), w.2.2) = w2) (pc2 : Nat) (hp : pc + 3 = pc2) (kk : Zc X Γ B nL r w2 pc2 lv (st)) : Zc X Γ B nL r w pc lv (.ref (gL Γ t) :: .ref (gL Γ k) :: st) := by
  subst hw
  exact k_putG hX (w2 := (w.1, nu w.2.1 k (n + 1), w.2.2)) (fs := flN Γ n 2 k (w.2.2.1 k) (w.2.2.2 k)) hkK (by rw [hN]; exact enN_2 hkd) (show cls[2]? = some (RX2, TX2, 15) from rfl) in2 tyX2 tyX2_ok nmX2 hj (Or.inr hfin) hpd hn hfit hj rfl (by show entN Γ (nu w.2.1 k (n + 1) k) (kd k) k (w.2.2.1 k) (w.2.2.2 k) = _; rw [nu_k, enN_2 hkd, hs]) (fun a h => ⟨nu_o h, rfl, rfl⟩) hd hl pc2 hp kk
theorem k_get_2 {X : Cx} {Γ : Gm} {B : Nat} {cc : ByteArray} {own : String} {nL d mc ms : Nat} {r : Rb} {w : Wd} {pc : Nat} {lv : List (Nat × Value)} {st : List Value} (hX : Amk X Γ B cc own nL d mc ms) {k j idx : Nat} {v : Value} (n : Nat) (hkd : kd k = 2) (hkK : k < w.1) (hN : w.2.1 k = n) (hj : j < 15) (hv : (flN Γ n 2 k (w.2.2.1 k) (w.2.2.2 k))[j]? = some v) (hd : decode cc pc = .ok (.getfield idx, 3)) (hl : Cond.fieldLink own idx (TX2 j).1 (TX2 j).2.1 (TX2 j).2.2.1 ∈ gt) (pc2 : Nat) (hp : pc + 3 = pc2) (kk : Zc X Γ B nL r w pc2 lv (v :: st)) : Zc X Γ B nL r w pc lv (.ref (gL Γ k) :: st) :=
  k_getG hX hkK (by rw [hN]; exact enN_2 hkd) (show cls[2]? = some (RX2, TX2, 15) from rfl) in2 hj hv hd hl pc2 hp kk
theorem enN_3 {Γ : Gm} {n k : Nat} {f : Nat → Int32} {g : Nat → Int64} (h : kd k = 3) : entN Γ n (kd k) k f g = .inr (3, flN Γ n 3 k f g) := by rw [h]; rfl
theorem k_put0_3 {X : Cx} {Γ : Gm} {B : Nat} {cc : ByteArray} {own : String} {nL d mc ms : Nat} {r : Rb} {w : Wd} {pc : Nat} {lv : List (Nat × Value)} {st : List Value} (hX : Amk X Γ B cc own nL d mc ms) {k j idx : Nat} {v : Value} (hkd : kd k = 3) (hkK : k < w.1) (hj : j < 5) {ty : FieldType} (hfin : (TX3 j).2.2.2 = false) (hpd : parseFieldDescriptor (TX3 j).2.2.1 = some ty) (hn : narrow ty v = v) (hfit : fits ty v = true) (hs : (flN Γ (w.2.1 k) 3 k (w.2.2.1 k) (w.2.2.2 k))[j]? = some v) (hd : decode cc pc = .ok (.putfield idx, 3)) (hl : Cond.fieldLink own idx (TX3 j).1 (TX3 j).2.1 (TX3 j).2.2.1 ∈ gt) (pc2 : Nat) (hp : pc + 3 = pc2) (kk : Zc X Γ B nL r w pc2 lv (st)) : Zc X Γ B nL r w pc lv (v :: .ref (gL Γ k) :: st) :=
  k_putG hX (w2 := w) hkK (enN_3 hkd) (show cls[3]? = some (RX3, TX3, 5) from rfl) in3 tyX3 tyX3_ok nmX3 hj (Or.inl hfin) hpd hn hfit hj rfl (by rw [enN_3 hkd, set_same hs]) (fun _ _ => ⟨rfl, rfl, rfl⟩) hd hl pc2 hp kk
theorem k_putI_3 {X : Cx} {Γ : Gm} {B : Nat} {cc : ByteArray} {own : String} {nL d mc ms : Nat} {r : Rb} {w : Wd} {pc : Nat} {lv : List (Nat × Value)} {st : List Value} (hX : Amk X Γ B cc own nL d mc ms) {k j idx : Nat} {x : Int32} (w2 : Wd) (hkd : kd k = 3) (hkK : k < w.1) (hj : j < 5) (hfin : (TX3 j).2.2.2 = false) (hpd : parseFieldDescriptor (TX3 j).2.2.1 = some .int) (hs : ∀ n f g, (flN Γ n 3 k f g).set j (.int x) = flN Γ n 3 k (upd f j x) g) (hd : decode cc pc = .ok (.putfield idx, 3)) (hl : Cond.fieldLink own idx (TX3 j).1 (TX3 j).2.1 (TX3 j).2.2.1 ∈ gt) (hw : (w.1, w.2.1, wI w.2.2 k j x) = w2) (pc2 : Nat) (hp : pc + 3 = pc2) (kk : Zc X Γ B nL r w2 pc2 lv (st)) : Zc X Γ B nL r w pc lv (.int x :: .ref (gL Γ k) :: st) := by
  subst hw
  exact k_putG hX (w2 := (w.1, w.2.1, wI w.2.2 k j x)) hkK (enN_3 hkd) (show cls[3]? = some (RX3, TX3, 5) from rfl) in3 tyX3 tyX3_ok nmX3 hj (Or.inl hfin) hpd rfl rfl hj rfl (by show entN Γ (w.2.1 k) (kd k) k ((wI w.2.2 k j x).1 k) (w.2.2.2 k) = _; rw [enN_3 hkd, wI_k, hs]) (fun a h => ⟨rfl, wI_o a h⟩) hd hl pc2 hp kk
theorem k_putJ_3 {X : Cx} {Γ : Gm} {B : Nat} {cc : ByteArray} {own : String} {nL d mc ms : Nat} {r : Rb} {w : Wd} {pc : Nat} {lv : List (Nat × Value)} {st : List Value} (hX : Amk X Γ B cc own nL d mc ms) {k j idx : Nat} {x : Int64} (w2 : Wd) (hkd : kd k = 3) (hkK : k < w.1) (hj : j < 5) (hfin : (TX3 j).2.2.2 = false) (hpd : parseFieldDescriptor (TX3 j).2.2.1 = some .long) (hs : ∀ n f g, (flN Γ n 3 k f g).set j (.long x) = flN Γ n 3 k f (vp_updL g j x)) (hd : decode cc pc = .ok (.putfield idx, 3)) (hl : Cond.fieldLink own idx (TX3 j).1 (TX3 j).2.1 (TX3 j).2.2.1 ∈ gt) (hw : (w.1, w.2.1, wJ w.2.2 k j x) = w2) (pc2 : Nat) (hp : pc + 3 = pc2) (kk : Zc X Γ B nL r w2 pc2 lv (st)) : Zc X Γ B nL r w pc lv (.long x :: .ref (gL Γ k) :: st) := by
  subst hw
  exact k_putG hX (w2 := (w.1, w.2.1, wJ w.2.2 k j x)) hkK (enN_3 hkd) (show cls[3]? = some (RX3, TX3, 5) from rfl) in3 tyX3 tyX3_ok nmX3 hj (Or.inl hfin) hpd rfl rfl hj rfl (by show entN Γ (w.2.1 k) (kd k) k (w.2.2.1 k) ((wJ w.2.2 k j x).2 k) = _; rw [enN_3 hkd, wJ_k, hs]) (fun a h => ⟨rfl, wJ_o a h⟩) hd hl pc2 hp kk
theorem k_putR_3 {X : Cx} {Γ : Gm} {B : Nat} {cc : ByteArray} {own : String} {nL d mc ms : Nat} {r : Rb} {w : Wd} {pc : Nat} {lv : List (Nat × Value)} {st : List Value} (hX : Amk X Γ B cc own nL d mc ms) {k j idx t : Nat} (n : Nat) (w2 : Wd) (hkd : kd k = 3) (hkK : k < w.1) (hN : w.2.1 k = n) (hj : j < 5) {ty : FieldType} (hfin : (TX3 j).2.2.2 = true ∧ (TX3 j).1 = own) (hpd : parseFieldDescriptor (TX3 j).2.2.1 = some ty) (hn : narrow ty (.ref (gL Γ t)) = .ref (gL Γ t)) (hfit : fits ty (.ref (gL Γ t)) = true) (hs : ∀ f g, (flN Γ n 3 k f g).set j (.ref (gL Γ t)) = flN Γ (n + 1) 3 k f g) (hd : decode cc pc = .ok (.putfield idx, 3)) (hl : Cond.fieldLink own idx (TX3 j).1 (TX3 j).2.1 (TX3 j).2.2.1 ∈ gt) (hw : (w.1, nu w.2.1 k (n + 1), w.2.2) = w2) (pc2 : Nat) (hp : pc + 3 = pc2) (kk : Zc X Γ B nL r w2 pc2 lv (st)) : Zc X Γ B nL r w pc lv (.ref (gL Γ t) :: .ref (gL Γ k) :: st) := by
  subst hw
  exact k_putG hX (w2 := (w.1, nu w.2.1 k (n + 1), w.2.2)) (fs := flN Γ n 3 k (w.2.2.1 k) (w.2.2.2 k)) hkK (by rw [hN]; exact enN_3 hkd) (show cls[3]? = some (RX3, TX3, 5) from rfl) in3 tyX3 tyX3_ok nmX3 hj (Or.inr hfin) hpd hn hfit hj rfl (by show entN Γ (nu w.2.1 k (n + 1) k) (kd k) k (w.2.2.1 k) (w.2.2.2 k) = _; rw [nu_k, enN_3 hkd, hs]) (fun a h => ⟨nu_o h, rfl, rfl⟩) hd hl pc2 hp kk
theorem k_get_3 {X : Cx} {Γ : Gm} {B : Nat} {cc : ByteArray} {own : String} {nL d mc ms : Nat} {r : Rb} {w : Wd} {pc : Nat} {lv : List (Nat × Value)} {st : List Value} (hX : Amk X Γ B cc own nL d mc ms) {k j idx : Nat} {v : Value} (n : Nat) (hkd : kd k = 3) (hkK : k < w.1) (hN : w.2.1 k = n) (hj : j < 5) (hv : (flN Γ n 3 k (w.2.2.1 k) (w.2.2.2 k))[j]? = some v) (hd : decode cc pc = .ok (.getfield idx, 3)) (hl : Cond.fieldLink own idx (TX3 j).1 (TX3 j).2.1 (TX3 j).2.2.1 ∈ gt) (pc2 : Nat) (hp : pc + 3 = pc2) (kk : Zc X Γ B nL r w pc2 lv (v :: st)) : Zc X Γ B nL r w pc lv (.ref (gL Γ k) :: st) :=
  k_getG hX hkK (by rw [hN]; exact enN_3 hkd) (show cls[3]? = some (RX3, TX3, 5) from rfl) in3 hj hv hd hl pc2 hp kk
theorem enN_4 {Γ : Gm} {n k : Nat} {f : Nat → Int32} {g : Nat → Int64} (h : kd k = 4) : entN Γ n (kd k) k f g = .inr (4, flN Γ n 4 k f g) := by rw [h]; rfl
theorem k_put0_4 {X : Cx} {Γ : Gm} {B : Nat} {cc : ByteArray} {own : String} {nL d mc ms : Nat} {r : Rb} {w : Wd} {pc : Nat} {lv : List (Nat × Value)} {st : List Value} (hX : Amk X Γ B cc own nL d mc ms) {k j idx : Nat} {v : Value} (hkd : kd k = 4) (hkK : k < w.1) (hj : j < 3) {ty : FieldType} (hfin : (TX4 j).2.2.2 = false) (hpd : parseFieldDescriptor (TX4 j).2.2.1 = some ty) (hn : narrow ty v = v) (hfit : fits ty v = true) (hs : (flN Γ (w.2.1 k) 4 k (w.2.2.1 k) (w.2.2.2 k))[j]? = some v) (hd : decode cc pc = .ok (.putfield idx, 3)) (hl : Cond.fieldLink own idx (TX4 j).1 (TX4 j).2.1 (TX4 j).2.2.1 ∈ gt) (pc2 : Nat) (hp : pc + 3 = pc2) (kk : Zc X Γ B nL r w pc2 lv (st)) : Zc X Γ B nL r w pc lv (v :: .ref (gL Γ k) :: st) :=
  k_putG hX (w2 := w) hkK (enN_4 hkd) (show cls[4]? = some (RX4, TX4, 3) from rfl) in4 tyX4 tyX4_ok nmX4 hj (Or.inl hfin) hpd hn hfit hj rfl (by rw [enN_4 hkd, set_same hs]) (fun _ _ => ⟨rfl, rfl, rfl⟩) hd hl pc2 hp kk
theorem k_putI_4 {X : Cx} {Γ : Gm} {B : Nat} {cc : ByteArray} {own : String} {nL d mc ms : Nat} {r : Rb} {w : Wd} {pc : Nat} {lv : List (Nat × Value)} {st : List Value} (hX : Amk X Γ B cc own nL d mc ms) {k j idx : Nat} {x : Int32} (w2 : Wd) (hkd : kd k = 4) (hkK : k < w.1) (hj : j < 3) (hfin : (TX4 j).2.2.2 = false) (hpd : parseFieldDescriptor (TX4 j).2.2.1 = some .int) (hs : ∀ n f g, (flN Γ n 4 k f g).set j (.int x) = flN Γ n 4 k (upd f j x) g) (hd : decode cc pc = .ok (.putfield idx, 3)) (hl : Cond.fieldLink own idx (TX4 j).1 (TX4 j).2.1 (TX4 j).2.2.1 ∈ gt) (hw : (w.1, w.2.1, wI w.2.2 k j x) = w2) (pc2 : Nat) (hp : pc + 3 = pc2) (kk : Zc X Γ B nL r w2 pc2 lv (st)) : Zc X Γ B nL r w pc lv (.int x :: .ref (gL Γ k) :: st) := by
  subst hw
  exact k_putG hX (w2 := (w.1, w.2.1, wI w.2.2 k j x)) hkK (enN_4 hkd) (show cls[4]? = some (RX4, TX4, 3) from rfl) in4 tyX4 tyX4_ok nmX4 hj (Or.inl hfin) hpd rfl rfl hj rfl (by show entN Γ (w.2.1 k) (kd k) k ((wI w.2.2 k j x).1 k) (w.2.2.2 k) = _; rw [enN_4 hkd, wI_k, hs]) (fun a h => ⟨rfl, wI_o a h⟩) hd hl pc2 hp kk
theorem k_putJ_4 {X : Cx} {Γ : Gm} {B : Nat} {cc : ByteArray} {own : String} {nL d mc ms : Nat} {r : Rb} {w : Wd} {pc : Nat} {lv : List (Nat × Value)} {st : List Value} (hX : Amk X Γ B cc own nL d mc ms) {k j idx : Nat} {x : Int64} (w2 : Wd) (hkd : kd k = 4) (hkK : k < w.1) (hj : j < 3) (hfin : (TX4 j).2.2.2 = false) (hpd : parseFieldDescriptor (TX4 j).2.2.1 = some .long) (hs : ∀ n f g, (flN Γ n 4 k f g).set j (.long x) = flN Γ n 4 k f (vp_updL g j x)) (hd : decode cc pc = .ok (.putfield idx, 3)) (hl : Cond.fieldLink own idx (TX4 j).1 (TX4 j).2.1 (TX4 j).2.2.1 ∈ gt) (hw : (w.1, w.2.1, wJ w.2.2 k j x) = w2) (pc2 : Nat) (hp : pc + 3 = pc2) (kk : Zc X Γ B nL r w2 pc2 lv (st)) : Zc X Γ B nL r w pc lv (.long x :: .ref (gL Γ k) :: st) := by
  subst hw
  exact k_putG hX (w2 := (w.1, w.2.1, wJ w.2.2 k j x)) hkK (enN_4 hkd) (show cls[4]? = some (RX4, TX4, 3) from rfl) in4 tyX4 tyX4_ok nmX4 hj (Or.inl hfin) hpd rfl rfl hj rfl (by show entN Γ (w.2.1 k) (kd k) k (w.2.2.1 k) ((wJ w.2.2 k j x).2 k) = _; rw [enN_4 hkd, wJ_k, hs]) (fun a h => ⟨rfl, wJ_o a h⟩) hd hl pc2 hp kk
theorem k_putR_4 {X : Cx} {Γ : Gm} {B : Nat} {cc : ByteArray} {own : String} {nL d mc ms : Nat} {r : Rb} {w : Wd} {pc : Nat} {lv : List (Nat × Value)} {st : List Value} (hX : Amk X Γ B cc own nL d mc ms) {k j idx t : Nat} (n : Nat) (w2 : Wd) (hkd : kd k = 4) (hkK : k < w.1) (hN : w.2.1 k = n) (hj : j < 3) {ty : FieldType} (hfin : (TX4 j).2.2.2 = true ∧ (TX4 j).1 = own) (hpd : parseFieldDescriptor (TX4 j).2.2.1 = some ty) (hn : narrow ty (.ref (gL Γ t)) = .ref (gL Γ t)) (hfit : fits ty (.ref (gL Γ t)) = true) (hs : ∀ f g, (flN Γ n 4 k f g).set j (.ref (gL Γ t)) = flN Γ (n + 1) 4 k f g) (hd : decode cc pc = .ok (.putfield idx, 3)) (hl : Cond.fieldLink own idx (TX4 j).1 (TX4 j).2.1 (TX4 j).2.2.1 ∈ gt) (hw : (w.1, nu w.2.1 k (n + 1), w.2.2) = w2) (pc2 : Nat) (hp : pc + 3 = pc2) (kk : Zc X Γ B nL r w2 pc2 lv (st)) : Zc X Γ B nL r w pc lv (.ref (gL Γ t) :: .ref (gL Γ k) :: st) := by
  subst hw
  exact k_putG hX (w2 := (w.1, nu w.2.1 k (n + 1), w.2.2)) (fs := flN Γ n 4 k (w.2.2.1 k) (w.2.2.2 k)) hkK (by rw [hN]; exact enN_4 hkd) (show cls[4]? = some (RX4, TX4, 3) from rfl) in4 tyX4 tyX4_ok nmX4 hj (Or.inr hfin) hpd hn hfit hj rfl (by show entN Γ (nu w.2.1 k (n + 1) k) (kd k) k (w.2.2.1 k) (w.2.2.2 k) = _; rw [nu_k, enN_4 hkd, hs]) (fun a h => ⟨nu_o h, rfl, rfl⟩) hd hl pc2 hp kk
theorem k_get_4 {X : Cx} {Γ : Gm} {B : Nat} {cc : ByteArray} {own : String} {nL d mc ms : Nat} {r : Rb} {w : Wd} {pc : Nat} {lv : List (Nat × Value)} {st : List Value} (hX : Amk X Γ B cc own nL d mc ms) {k j idx : Nat} {v : Value} (n : Nat) (hkd : kd k = 4) (hkK : k < w.1) (hN : w.2.1 k = n) (hj : j < 3) (hv : (flN Γ n 4 k (w.2.2.1 k) (w.2.2.2 k))[j]? = some v) (hd : decode cc pc = .ok (.getfield idx, 3)) (hl : Cond.fieldLink own idx (TX4 j).1 (TX4 j).2.1 (TX4 j).2.2.1 ∈ gt) (pc2 : Nat) (hp : pc + 3 = pc2) (kk : Zc X Γ B nL r w pc2 lv (v :: st)) : Zc X Γ B nL r w pc lv (.ref (gL Γ k) :: st) :=
  k_getG hX hkK (by rw [hN]; exact enN_4 hkd) (show cls[4]? = some (RX4, TX4, 3) from rfl) in4 hj hv hd hl pc2 hp kk
theorem enN_5 {Γ : Gm} {n k : Nat} {f : Nat → Int32} {g : Nat → Int64} (h : kd k = 5) : entN Γ n (kd k) k f g = .inr (5, flN Γ n 5 k f g) := by rw [h]; rfl
theorem k_put0_5 {X : Cx} {Γ : Gm} {B : Nat} {cc : ByteArray} {own : String} {nL d mc ms : Nat} {r : Rb} {w : Wd} {pc : Nat} {lv : List (Nat × Value)} {st : List Value} (hX : Amk X Γ B cc own nL d mc ms) {k j idx : Nat} {v : Value} (hkd : kd k = 5) (hkK : k < w.1) (hj : j < 8) {ty : FieldType} (hfin : (TX5 j).2.2.2 = false) (hpd : parseFieldDescriptor (TX5 j).2.2.1 = some ty) (hn : narrow ty v = v) (hfit : fits ty v = true) (hs : (flN Γ (w.2.1 k) 5 k (w.2.2.1 k) (w.2.2.2 k))[j]? = some v) (hd : decode cc pc = .ok (.putfield idx, 3)) (hl : Cond.fieldLink own idx (TX5 j).1 (TX5 j).2.1 (TX5 j).2.2.1 ∈ gt) (pc2 : Nat) (hp : pc + 3 = pc2) (kk : Zc X Γ B nL r w pc2 lv (st)) : Zc X Γ B nL r w pc lv (v :: .ref (gL Γ k) :: st) :=
  k_putG hX (w2 := w) hkK (enN_5 hkd) (show cls[5]? = some (RX5, TX5, 8) from rfl) in5 tyX5 tyX5_ok nmX5 hj (Or.inl hfin) hpd hn hfit hj rfl (by rw [enN_5 hkd, set_same hs]) (fun _ _ => ⟨rfl, rfl, rfl⟩) hd hl pc2 hp kk
theorem k_putI_5 {X : Cx} {Γ : Gm} {B : Nat} {cc : ByteArray} {own : String} {nL d mc ms : Nat} {r : Rb} {w : Wd} {pc : Nat} {lv : List (Nat × Value)} {st : List Value} (hX : Amk X Γ B cc own nL d mc ms) {k j idx : Nat} {x : Int32} (w2 : Wd) (hkd : kd k = 5) (hkK : k < w.1) (hj : j < 8) (hfin : (TX5 j).2.2.2 = false) (hpd : parseFieldDescriptor (TX5 j).2.2.1 = some .int) (hs : ∀ n f g, (flN Γ n 5 k f g).set j (.int x) = flN Γ n 5 k (upd f j x) g) (hd : decode cc pc = .ok (.putfield idx, 3)) (hl : Cond.fieldLink own idx (TX5 j).1 (TX5 j).2.1 (TX5 j).2.2.1 ∈ gt) (hw : (w.1, w.2.1, wI w.2.2 k j x) = w2) (pc2 : Nat) (hp : pc + 3 = pc2) (kk : Zc X Γ B nL r w2 pc2 lv (st)) : Zc X Γ B nL r w pc lv (.int x :: .ref (gL Γ k) :: st) := by
  subst hw
  exact k_putG hX (w2 := (w.1, w.2.1, wI w.2.2 k j x)) hkK (enN_5 hkd) (show cls[5]? = some (RX5, TX5, 8) from rfl) in5 tyX5 tyX5_ok nmX5 hj (Or.inl hfin) hpd rfl rfl hj rfl (by show entN Γ (w.2.1 k) (kd k) k ((wI w.2.2 k j x).1 k) (w.2.2.2 k) = _; rw [enN_5 hkd, wI_k, hs]) (fun a h => ⟨rfl, wI_o a h⟩) hd hl pc2 hp kk
theorem k_putJ_5 {X : Cx} {Γ : Gm} {B : Nat} {cc : ByteArray} {own : String} {nL d mc ms : Nat} {r : Rb} {w : Wd} {pc : Nat} {lv : List (Nat × Value)} {st : List Value} (hX : Amk X Γ B cc own nL d mc ms) {k j idx : Nat} {x : Int64} (w2 : Wd) (hkd : kd k = 5) (hkK : k < w.1) (hj : j < 8) (hfin : (TX5 j).2.2.2 = false) (hpd : parseFieldDescriptor (TX5 j).2.2.1 = some .long) (hs : ∀ n f g, (flN Γ n 5 k f g).set j (.long x) = flN Γ n 5 k f (vp_updL g j x)) (hd : decode cc pc = .ok (.putfield idx, 3)) (hl : Cond.fieldLink own idx (TX5 j).1 (TX5 j).2.1 (TX5 j).2.2.1 ∈ gt) (hw : (w.1, w.2.1, wJ w.2.2 k j x) = w2) (pc2 : Nat) (hp : pc + 3 = pc2) (kk : Zc X Γ B nL r w2 pc2 lv (st)) : Zc X Γ B nL r w pc lv (.long x :: .ref (gL Γ k) :: st) := by
  subst hw
  exact k_putG hX (w2 := (w.1, w.2.1, wJ w.2.2 k j x)) hkK (enN_5 hkd) (show cls[5]? = some (RX5, TX5, 8) from rfl) in5 tyX5 tyX5_ok nmX5 hj (Or.inl hfin) hpd rfl rfl hj rfl (by show entN Γ (w.2.1 k) (kd k) k (w.2.2.1 k) ((wJ w.2.2 k j x).2 k) = _; rw [enN_5 hkd, wJ_k, hs]) (fun a h => ⟨rfl, wJ_o a h⟩) hd hl pc2 hp kk
theorem k_putR_5 {X : Cx} {Γ : Gm} {B : Nat} {cc : ByteArray} {own : String} {nL d mc ms : Nat} {r : Rb} {w : Wd} {pc : Nat} {lv : List (Nat × Value)} {st : List Value} (hX : Amk X Γ B cc own nL d mc ms) {k j idx t : Nat} (n : Nat) (w2 : Wd) (hkd : kd k = 5) (hkK : k < w.1) (hN : w.2.1 k = n) (hj : j < 8) {ty : FieldType} (hfin : (TX5 j).2.2.2 = true ∧ (TX5 j).1 = own) (hpd : parseFieldDescriptor (TX5 j).2.2.1 = some ty) (hn : narrow ty (.ref (gL Γ t)) = .ref (gL Γ t)) (hfit : fits ty (.ref (gL Γ t)) = true) (hs : ∀ f g, (flN Γ n 5 k f g).set j (.ref (gL Γ t)) = flN Γ (n + 1) 5 k f g) (hd : decode cc pc = .ok (.putfield idx, 3)) (hl : Cond.fieldLink own idx (TX5 j).1 (TX5 j).2.1 (TX5 j).2.2.1 ∈ gt) (hw : (w.1, nu w.2.1 k (n + 1), w.2.2) = w2) (pc2 : Nat) (hp : pc + 3 = pc2) (kk : Zc X Γ B nL r w2 pc2 lv (st)) : Zc X Γ B nL r w pc lv (.ref (gL Γ t) :: .ref (gL Γ k) :: st) := by
  subst hw
  exact k_putG hX (w2 := (w.1, nu w.2.1 k (n + 1), w.2.2)) (fs := flN Γ n 5 k (w.2.2.1 k) (w.2.2.2 k)) hkK (by rw [hN]; exact enN_5 hkd) (show cls[5]? = some (RX5, TX5, 8) from rfl) in5 tyX5 tyX5_ok nmX5 hj (Or.inr hfin) hpd hn hfit hj rfl (by show entN Γ (nu w.2.1 k (n + 1) k) (kd k) k (w.2.2.1 k) (w.2.2.2 k) = _; rw [nu_k, enN_5 hkd, hs]) (fun a h => ⟨nu_o h, rfl, rfl⟩) hd hl pc2 hp kk
theorem k_get_5 {X : Cx} {Γ : Gm} {B : Nat} {cc : ByteArray} {own : String} {nL d mc ms : Nat} {r : Rb} {w : Wd} {pc : Nat} {lv : List (Nat × Value)} {st : List Value} (hX : Amk X Γ B cc own nL d mc ms) {k j idx : Nat} {v : Value} (n : Nat) (hkd : kd k = 5) (hkK : k < w.1) (hN : w.2.1 k = n) (hj : j < 8) (hv : (flN Γ n 5 k (w.2.2.1 k) (w.2.2.2 k))[j]? = some v) (hd : decode cc pc = .ok (.getfield idx, 3)) (hl : Cond.fieldLink own idx (TX5 j).1 (TX5 j).2.1 (TX5 j).2.2.1 ∈ gt) (pc2 : Nat) (hp : pc + 3 = pc2) (kk : Zc X Γ B nL r w pc2 lv (v :: st)) : Zc X Γ B nL r w pc lv (.ref (gL Γ k) :: st) :=
  k_getG hX hkK (by rw [hN]; exact enN_5 hkd) (show cls[5]? = some (RX5, TX5, 8) from rfl) in5 hj hv hd hl pc2 hp kk
theorem enN_6 {Γ : Gm} {n k : Nat} {f : Nat → Int32} {g : Nat → Int64} (h : kd k = 6) : entN Γ n (kd k) k f g = .inr (6, flN Γ n 6 k f g) := by rw [h]; rfl
theorem k_put0_6 {X : Cx} {Γ : Gm} {B : Nat} {cc : ByteArray} {own : String} {nL d mc ms : Nat} {r : Rb} {w : Wd} {pc : Nat} {lv : List (Nat × Value)} {st : List Value} (hX : Amk X Γ B cc own nL d mc ms) {k j idx : Nat} {v : Value} (hkd : kd k = 6) (hkK : k < w.1) (hj : j < 9) {ty : FieldType} (hfin : (TX6 j).2.2.2 = false) (hpd : parseFieldDescriptor (TX6 j).2.2.1 = some ty) (hn : narrow ty v = v) (hfit : fits ty v = true) (hs : (flN Γ (w.2.1 k) 6 k (w.2.2.1 k) (w.2.2.2 k))[j]? = some v) (hd : decode cc pc = .ok (.putfield idx, 3)) (hl : Cond.fieldLink own idx (TX6 j).1 (TX6 j).2.1 (TX6 j).2.2.1 ∈ gt) (pc2 : Nat) (hp : pc + 3 = pc2) (kk : Zc X Γ B nL r w pc2 lv (st)) : Zc X Γ B nL r w pc lv (v :: .ref (gL Γ k) :: st) :=
  k_putG hX (w2 := w) hkK (enN_6 hkd) (show cls[6]? = some (RX6, TX6, 9) from rfl) in6 tyX6 tyX6_ok nmX6 hj (Or.inl hfin) hpd hn hfit hj rfl (by rw [enN_6 hkd, set_same hs]) (fun _ _ => ⟨rfl, rfl, rfl⟩) hd hl pc2 hp kk
theorem k_putI_6 {X : Cx} {Γ : Gm} {B : Nat} {cc : ByteArray} {own : String} {nL d mc ms : Nat} {r : Rb} {w : Wd} {pc : Nat} {lv : List (Nat × Value)} {st : List Value} (hX : Amk X Γ B cc own nL d mc ms) {k j idx : Nat} {x : Int32} (w2 : Wd) (hkd : kd k = 6) (hkK : k < w.1) (hj : j < 9) (hfin : (TX6 j).2.2.2 = false) (hpd : parseFieldDescriptor (TX6 j).2.2.1 = some .int) (hs : ∀ n f g, (flN Γ n 6 k f g).set j (.int x) = flN Γ n 6 k (upd f j x) g) (hd : decode cc pc = .ok (.putfield idx, 3)) (hl : Cond.fieldLink own idx (TX6 j).1 (TX6 j).2.1 (TX6 j).2.2.1 ∈ gt) (hw : (w.1, w.2.1, wI w.2.2 k j x) = w2) (pc2 : Nat) (hp : pc + 3 = pc2) (kk : Zc X Γ B nL r w2 pc2 lv (st)) : Zc X Γ B nL r w pc lv (.int x :: .ref (gL Γ k) :: st) := by
  subst hw
  exact k_putG hX (w2 := (w.1, w.2.1, wI w.2.2 k j x)) hkK (enN_6 hkd) (show cls[6]? = some (RX6, TX6, 9) from rfl) in6 tyX6 tyX6_ok nmX6 hj (Or.inl hfin) hpd rfl rfl hj rfl (by show entN Γ (w.2.1 k) (kd k) k ((wI w.2.2 k j x).1 k) (w.2.2.2 k) = _; rw [enN_6 hkd, wI_k, hs]) (fun a h => ⟨rfl, wI_o a h⟩) hd hl pc2 hp kk
theorem k_putJ_6 {X : Cx} {Γ : Gm} {B : Nat} {cc : ByteArray} {own : String} {nL d mc ms : Nat} {r : Rb} {w : Wd} {pc : Nat} {lv : List (Nat × Value)} {st : List Value} (hX : Amk X Γ B cc own nL d mc ms) {k j idx : Nat} {x : Int64} (w2 : Wd) (hkd : kd k = 6) (hkK : k < w.1) (hj : j < 9) (hfin : (TX6 j).2.2.2 = false) (hpd : parseFieldDescriptor (TX6 j).2.2.1 = some .long) (hs : ∀ n f g, (flN Γ n 6 k f g).set j (.long x) = flN Γ n 6 k f (vp_updL g j x)) (hd : decode cc pc = .ok (.putfield idx, 3)) (hl : Cond.fieldLink own idx (TX6 j).1 (TX6 j).2.1 (TX6 j).2.2.1 ∈ gt) (hw : (w.1, w.2.1, wJ w.2.2 k j x) = w2) (pc2 : Nat) (hp : pc + 3 = pc2) (kk : Zc X Γ B nL r w2 pc2 lv (st)) : Zc X Γ B nL r w pc lv (.long x :: .ref (gL Γ k) :: st) := by
  subst hw
  exact k_putG hX (w2 := (w.1, w.2.1, wJ w.2.2 k j x)) hkK (enN_6 hkd) (show cls[6]? = some (RX6, TX6, 9) from rfl) in6 tyX6 tyX6_ok nmX6 hj (Or.inl hfin) hpd rfl rfl hj rfl (by show entN Γ (w.2.1 k) (kd k) k (w.2.2.1 k) ((wJ w.2.2 k j x).2 k) = _; rw [enN_6 hkd, wJ_k, hs]) (fun a h => ⟨rfl, wJ_o a h⟩) hd hl pc2 hp kk
theorem k_putR_6 {X : Cx} {Γ : Gm} {B : Nat} {cc : ByteArray} {own : String} {nL d mc ms : Nat} {r : Rb} {w : Wd} {pc : Nat} {lv : List (Nat × Value)} {st : List Value} (hX : Amk X Γ B cc own nL d mc ms) {k j idx t : Nat} (n : Nat) (w2 : Wd) (hkd : kd k = 6) (hkK : k < w.1) (hN : w.2.1 k = n) (hj : j < 9) {ty : FieldType} (hfin : (TX6 j).2.2.2 = true ∧ (TX6 j).1 = own) (hpd : parseFieldDescriptor (TX6 j).2.2.1 = some ty) (hn : narrow ty (.ref (gL Γ t)) = .ref (gL Γ t)) (hfit : fits ty (.ref (gL Γ t)) = true) (hs : ∀ f g, (flN Γ n 6 k f g).set j (.ref (gL Γ t)) = flN Γ (n + 1) 6 k f g) (hd : decode cc pc = .ok (.putfield idx, 3)) (hl : Cond.fieldLink own idx (TX6 j).1 (TX6 j).2.1 (TX6 j).2.2.1 ∈ gt) (hw : (w.1, nu w.2.1 k (n + 1), w.2.2) = w2) (pc2 : Nat) (hp : pc + 3 = pc2) (kk : Zc X Γ B nL r w2 pc2 lv (st)) : Zc X Γ B nL r w pc lv (.ref (gL Γ t) :: .ref (gL Γ k) :: st) := by
  subst hw
  exact k_putG hX (w2 := (w.1, nu w.2.1 k (n + 1), w.2.2)) (fs := flN Γ n 6 k (w.2.2.1 k) (w.2.2.2 k)) hkK (by rw [hN]; exact enN_6 hkd) (show cls[6]? = some (RX6, TX6, 9) from rfl) in6 tyX6 tyX6_ok nmX6 hj (Or.inr hfin) hpd hn hfit hj rfl (by show entN Γ (nu w.2.1 k (n + 1) k) (kd k) k (w.2.2.1 k) (w.2.2.2 k) = _; rw [nu_k, enN_6 hkd, hs]) (fun a h => ⟨nu_o h, rfl, rfl⟩) hd hl pc2 hp kk
theorem k_get_6 {X : Cx} {Γ : Gm} {B : Nat} {cc : ByteArray} {own : String} {nL d mc ms : Nat} {r : Rb} {w : Wd} {pc : Nat} {lv : List (Nat × Value)} {st : List Value} (hX : Amk X Γ B cc own nL d mc ms) {k j idx : Nat} {v : Value} (n : Nat) (hkd : kd k = 6) (hkK : k < w.1) (hN : w.2.1 k = n) (hj : j < 9) (hv : (flN Γ n 6 k (w.2.2.1 k) (w.2.2.2 k))[j]? = some v) (hd : decode cc pc = .ok (.getfield idx, 3)) (hl : Cond.fieldLink own idx (TX6 j).1 (TX6 j).2.1 (TX6 j).2.2.1 ∈ gt) (pc2 : Nat) (hp : pc + 3 = pc2) (kk : Zc X Γ B nL r w pc2 lv (v :: st)) : Zc X Γ B nL r w pc lv (.ref (gL Γ k) :: st) :=
  k_getG hX hkK (by rw [hN]; exact enN_6 hkd) (show cls[6]? = some (RX6, TX6, 9) from rfl) in6 hj hv hd hl pc2 hp kk
theorem enN_7 {Γ : Gm} {n k : Nat} {f : Nat → Int32} {g : Nat → Int64} (h : kd k = 7) : entN Γ n (kd k) k f g = .inr (7, flN Γ n 7 k f g) := by rw [h]; rfl
theorem k_put0_7 {X : Cx} {Γ : Gm} {B : Nat} {cc : ByteArray} {own : String} {nL d mc ms : Nat} {r : Rb} {w : Wd} {pc : Nat} {lv : List (Nat × Value)} {st : List Value} (hX : Amk X Γ B cc own nL d mc ms) {k j idx : Nat} {v : Value} (hkd : kd k = 7) (hkK : k < w.1) (hj : j < 28) {ty : FieldType} (hfin : (TX7 j).2.2.2 = false) (hpd : parseFieldDescriptor (TX7 j).2.2.1 = some ty) (hn : narrow ty v = v) (hfit : fits ty v = true) (hs : (flN Γ (w.2.1 k) 7 k (w.2.2.1 k) (w.2.2.2 k))[j]? = some v) (hd : decode cc pc = .ok (.putfield idx, 3)) (hl : Cond.fieldLink own idx (TX7 j).1 (TX7 j).2.1 (TX7 j).2.2.1 ∈ gt) (pc2 : Nat) (hp : pc + 3 = pc2) (kk : Zc X Γ B nL r w pc2 lv (st)) : Zc X Γ B nL r w pc lv (v :: .ref (gL Γ k) :: st) :=
  k_putG hX (w2 := w) hkK (enN_7 hkd) (show cls[7]? = some (RX7, TX7, 28) from rfl) in7 tyX7 tyX7_ok nmX7 hj (Or.inl hfin) hpd hn hfit hj rfl (by rw [enN_7 hkd, set_same hs]) (fun _ _ => ⟨rfl, rfl, rfl⟩) hd hl pc2 hp kk
theorem k_putI_7 {X : Cx} {Γ : Gm} {B : Nat} {cc : ByteArray} {own : String} {nL d mc ms : Nat} {r : Rb} {w : Wd} {pc : Nat} {lv : List (Nat × Value)} {st : List Value} (hX : Amk X Γ B cc own nL d mc ms) {k j idx : Nat} {x : Int32} (w2 : Wd) (hkd : kd k = 7) (hkK : k < w.1) (hj : j < 28) (hfin : (TX7 j).2.2.2 = false) (hpd : parseFieldDescriptor (TX7 j).2.2.1 = some .int) (hs : ∀ n f g, (flN Γ n 7 k f g).set j (.int x) = flN Γ n 7 k (upd f j x) g) (hd : decode cc pc = .ok (.putfield idx, 3)) (hl : Cond.fieldLink own idx (TX7 j).1 (TX7 j).2.1 (TX7 j).2.2.1 ∈ gt) (hw : (w.1, w.2.1, wI w.2.2 k j x) = w2) (pc2 : Nat) (hp : pc + 3 = pc2) (kk : Zc X Γ B nL r w2 pc2 lv (st)) : Zc X Γ B nL r w pc lv (.int x :: .ref (gL Γ k) :: st) := by
  subst hw
  exact k_putG hX (w2 := (w.1, w.2.1, wI w.2.2 k j x)) hkK (enN_7 hkd) (show cls[7]? = some (RX7, TX7, 28) from rfl) in7 tyX7 tyX7_ok nmX7 hj (Or.inl hfin) hpd rfl rfl hj rfl (by show entN Γ (w.2.1 k) (kd k) k ((wI w.2.2 k j x).1 k) (w.2.2.2 k) = _; rw [enN_7 hkd, wI_k, hs]) (fun a h => ⟨rfl, wI_o a h⟩) hd hl pc2 hp kk
theorem k_putJ_7 {X : Cx} {Γ : Gm} {B : Nat} {cc : ByteArray} {own : String} {nL d mc ms : Nat} {r : Rb} {w : Wd} {pc : Nat} {lv : List (Nat × Value)} {st : List Value} (hX : Amk X Γ B cc own nL d mc ms) {k j idx : Nat} {x : Int64} (w2 : Wd) (hkd : kd k = 7) (hkK : k < w.1) (hj : j < 28) (hfin : (TX7 j).2.2.2 = false) (hpd : parseFieldDescriptor (TX7 j).2.2.1 = some .long) (hs : ∀ n f g, (flN Γ n 7 k f g).set j (.long x) = flN Γ n 7 k f (vp_updL g j x)) (hd : decode cc pc = .ok (.putfield idx, 3)) (hl : Cond.fieldLink own idx (TX7 j).1 (TX7 j).2.1 (TX7 j).2.2.1 ∈ gt) (hw : (w.1, w.2.1, wJ w.2.2 k j x) = w2) (pc2 : Nat) (hp : pc + 3 = pc2) (kk : Zc X Γ B nL r w2 pc2 lv (st)) : Zc X Γ B nL r w pc lv (.long x :: .ref (gL Γ k) :: st) := by
  subst hw
  exact k_putG hX (w2 := (w.1, w.2.1, wJ w.2.2 k j x)) hkK (enN_7 hkd) (show cls[7]? = some (RX7, TX7, 28) from rfl) in7 tyX7 tyX7_ok nmX7 hj (Or.inl hfin) hpd rfl rfl hj rfl (by show entN Γ (w.2.1 k) (kd k) k (w.2.2.1 k) ((wJ w.2.2 k j x).2 k) = _; rw [enN_7 hkd, wJ_k, hs]) (fun a h => ⟨rfl, wJ_o a h⟩) hd hl pc2 hp kk
theorem k_putR_7 {X : Cx} {Γ : Gm} {B : Nat} {cc : ByteArray} {own : String} {nL d mc ms : Nat} {r : Rb} {w : Wd} {pc : Nat} {lv : List (Nat × Value)} {st : List Value} (hX : Amk X Γ B cc own nL d mc ms) {k j idx t : Nat} (n : Nat) (w2 : Wd) (hkd : kd k = 7) (hkK : k < w.1) (hN : w.2.1 k = n) (hj : j < 28) {ty : FieldType} (hfin : (TX7 j).2.2.2 = true ∧ (TX7 j).1 = own) (hpd : parseFieldDescriptor (TX7 j).2.2.1 = some ty) (hn : narrow ty (.ref (gL Γ t)) = .ref (gL Γ t)) (hfit : fits ty (.ref (gL Γ t)) = true) (hs : ∀ f g, (flN Γ n 7 k f g).set j (.ref (gL Γ t)) = flN Γ (n + 1) 7 k f g) (hd : decode cc pc = .ok (.putfield idx, 3)) (hl : Cond.fieldLink own idx (TX7 j).1 (TX7 j).2.1 (TX7 j).2.2.1 ∈ gt) (hw : (w.1, nu w.2.1 k (n + 1), w.2.2) = w2) (pc2 : Nat) (hp : pc + 3 = pc2) (kk : Zc X Γ B nL r w2 pc2 lv (st)) : Zc X Γ B nL r w pc lv (.ref (gL Γ t) :: .ref (gL Γ k) :: st) := by
  subst hw
  exact k_putG hX (w2 := (w.1, nu w.2.1 k (n + 1), w.2.2)) (fs := flN Γ n 7 k (w.2.2.1 k) (w.2.2.2 k)) hkK (by rw [hN]; exact enN_7 hkd) (show cls[7]? = some (RX7, TX7, 28) from rfl) in7 tyX7 tyX7_ok nmX7 hj (Or.inr hfin) hpd hn hfit hj rfl (by show entN Γ (nu w.2.1 k (n + 1) k) (kd k) k (w.2.2.1 k) (w.2.2.2 k) = _; rw [nu_k, enN_7 hkd, hs]) (fun a h => ⟨nu_o h, rfl, rfl⟩) hd hl pc2 hp kk
theorem k_get_7 {X : Cx} {Γ : Gm} {B : Nat} {cc : ByteArray} {own : String} {nL d mc ms : Nat} {r : Rb} {w : Wd} {pc : Nat} {lv : List (Nat × Value)} {st : List Value} (hX : Amk X Γ B cc own nL d mc ms) {k j idx : Nat} {v : Value} (n : Nat) (hkd : kd k = 7) (hkK : k < w.1) (hN : w.2.1 k = n) (hj : j < 28) (hv : (flN Γ n 7 k (w.2.2.1 k) (w.2.2.2 k))[j]? = some v) (hd : decode cc pc = .ok (.getfield idx, 3)) (hl : Cond.fieldLink own idx (TX7 j).1 (TX7 j).2.1 (TX7 j).2.2.1 ∈ gt) (pc2 : Nat) (hp : pc + 3 = pc2) (kk : Zc X Γ B nL r w pc2 lv (v :: st)) : Zc X Γ B nL r w pc lv (.ref (gL Γ k) :: st) :=
  k_getG hX hkK (by rw [hN]; exact enN_7 hkd) (show cls[7]? = some (RX7, TX7, 28) from rfl) in7 hj hv hd hl pc2 hp kk
theorem k_aast11 {X : Cx} {Γ : Gm} {B : Nat} {cc : ByteArray} {own : String} {nL d mc ms : Nat} {r : Rb} {w : Wd} {pc : Nat} {lv : List (Nat × Value)} {st : List Value} (hX : Amk X Γ B cc own nL d mc ms) {k i : Nat} (w2 : Wd) (hkd : kd k = 11) (hkK : k < w.1) (hN : w.2.1 k = i) (hi : i < ln k) (hi2 : i < 1000) (hkv : kd (k + 111 + 19 * i) = 0) (hvK : k + 111 + 19 * i < w.1) (hd : decode cc pc = .ok (.aastore, 1)) (hw : (w.1, nu w.2.1 k (i + 1), w.2.2) = w2) (pc2 : Nat) (hp : pc + 1 = pc2) (kk : Zc X Γ B nL r w2 pc2 lv (st)) : Zc X Γ B nL r w pc lv (.ref (gL Γ (k + 111 + 19 * i)) :: .int (nI i) :: .ref (gL Γ k) :: st) := by
  subst hw
  refine k_aast hX (w2 := (w.1, nu w.2.1 k (i + 1), w.2.2)) 3 hkK hvK (by rw [hN, hkd]; rfl) (enN_0 hkv) (show cls[0]? = some (RX0, TX0, 3) from rfl) rfl ?_ rfl ?_ (fun a h => ⟨nu_o h, rfl, rfl⟩) hd pc2 hp kk
  · rw [vp_in_iff, nI_toInt (by omega)]; omega
  · show entN Γ (nu w.2.1 k (i + 1) k) (kd k) k (w.2.2.1 k) (w.2.2.2 k) = _
    rw [nu_k, hkd, nI_clamp (by omega)]
    show Sum.inl (gC Γ 11, ln k, _) = Sum.inl (gC Γ 11, ln k, _)
    congr 7
    funext j
    unfold va_up
    by_cases hj : j = i
    · subst hj; simp
    · rw [if_neg hj]
      dsimp only
      by_cases h2 : j < i
      · rw [if_pos h2, if_pos (by omega)]
      · rw [if_neg h2, if_neg (by omega)]
theorem k_aast12 {X : Cx} {Γ : Gm} {B : Nat} {cc : ByteArray} {own : String} {nL d mc ms : Nat} {r : Rb} {w : Wd} {pc : Nat} {lv : List (Nat × Value)} {st : List Value} (hX : Amk X Γ B cc own nL d mc ms) {k i : Nat} (w2 : Wd) (hkd : kd k = 12) (hkK : k < w.1) (hN : w.2.1 k = i) (hi : i < ln k) (hi2 : i < 1000) (hkv : kd (k + 1 + 13 * i) = 2) (hvK : k + 1 + 13 * i < w.1) (hd : decode cc pc = .ok (.aastore, 1)) (hw : (w.1, nu w.2.1 k (i + 1), w.2.2) = w2) (pc2 : Nat) (hp : pc + 1 = pc2) (kk : Zc X Γ B nL r w2 pc2 lv (st)) : Zc X Γ B nL r w pc lv (.ref (gL Γ (k + 1 + 13 * i)) :: .int (nI i) :: .ref (gL Γ k) :: st) := by
  subst hw
  refine k_aast hX (w2 := (w.1, nu w.2.1 k (i + 1), w.2.2)) 4 hkK hvK (by rw [hN, hkd]; rfl) (enN_2 hkv) (show cls[2]? = some (RX2, TX2, 15) from rfl) rfl ?_ rfl ?_ (fun a h => ⟨nu_o h, rfl, rfl⟩) hd pc2 hp kk
  · rw [vp_in_iff, nI_toInt (by omega)]; omega
  · show entN Γ (nu w.2.1 k (i + 1) k) (kd k) k (w.2.2.1 k) (w.2.2.2 k) = _
    rw [nu_k, hkd, nI_clamp (by omega)]
    show Sum.inl (gC Γ 12, ln k, _) = Sum.inl (gC Γ 12, ln k, _)
    congr 7
    funext j
    unfold va_up
    by_cases hj : j = i
    · subst hj; simp
    · rw [if_neg hj]
      dsimp only
      by_cases h2 : j < i
      · rw [if_pos h2, if_pos (by omega)]
      · rw [if_neg h2, if_neg (by omega)]
theorem k_aast13 {X : Cx} {Γ : Gm} {B : Nat} {cc : ByteArray} {own : String} {nL d mc ms : Nat} {r : Rb} {w : Wd} {pc : Nat} {lv : List (Nat × Value)} {st : List Value} (hX : Amk X Γ B cc own nL d mc ms) {k i : Nat} (w2 : Wd) (hkd : kd k = 13) (hkK : k < w.1) (hN : w.2.1 k = i) (hi : i < ln k) (hi2 : i < 1000) (hkv : kd (k + 146 + 2 * i) = 4) (hvK : k + 146 + 2 * i < w.1) (hd : decode cc pc = .ok (.aastore, 1)) (hw : (w.1, nu w.2.1 k (i + 1), w.2.2) = w2) (pc2 : Nat) (hp : pc + 1 = pc2) (kk : Zc X Γ B nL r w2 pc2 lv (st)) : Zc X Γ B nL r w pc lv (.ref (gL Γ (k + 146 + 2 * i)) :: .int (nI i) :: .ref (gL Γ k) :: st) := by
  subst hw
  refine k_aast hX (w2 := (w.1, nu w.2.1 k (i + 1), w.2.2)) 5 hkK hvK (by rw [hN, hkd]; rfl) (enN_4 hkv) (show cls[4]? = some (RX4, TX4, 3) from rfl) rfl ?_ rfl ?_ (fun a h => ⟨nu_o h, rfl, rfl⟩) hd pc2 hp kk
  · rw [vp_in_iff, nI_toInt (by omega)]; omega
  · show entN Γ (nu w.2.1 k (i + 1) k) (kd k) k (w.2.2.1 k) (w.2.2.2 k) = _
    rw [nu_k, hkd, nI_clamp (by omega)]
    show Sum.inl (gC Γ 13, ln k, _) = Sum.inl (gC Γ 13, ln k, _)
    congr 7
    funext j
    unfold va_up
    by_cases hj : j = i
    · subst hj; simp
    · rw [if_neg hj]
      dsimp only
      by_cases h2 : j < i
      · rw [if_pos h2, if_pos (by omega)]
      · rw [if_neg h2, if_neg (by omega)]
theorem k_ret {X : Cx} {Γ : Gm} {B : Nat} {cc : ByteArray} {own : String} {nL d mc ms : Nat} {r : Rb} {w : Wd} {pc : Nat} {lv : List (Nat × Value)} (hX : Amk X Γ B cc own nL d mc ms) (hd : decode cc pc = .ok (.return_, 1)) (he : r = (MQ (xb X) (Pk Γ B w) (xa X) (xs X) r.2.1 r.2.2 (gA Γ), r.2.1, r.2.2)) : Zc X Γ B nL r w pc lv ([]) := by
  intro H locs ls hP hS hl
  rw [he]
  exact W.vret hX.1 hX.2.1 hX.2.2.2.2.2.2.1 (fun t ht hW => ⟨⟨rfl, by rw [ht]; exact hP⟩, hS.F ht⟩) hS.2.2 hd hX.2.2.2.2.2.2.2.1
theorem Pk_blind {Γ : Gm} {B : Nat} {w : Wd} {args : List Value} : FrameBlind (va_Pc args (fun U => hk Γ B w U.heap ∧ Ac Γ U)) := fun a U g mk q => ⟨q.1, q.2.1, Ac.same (u := U) (U := U.calling g mk a) rfl rfl q.2.2⟩
def LkI (own : String) (idx : Nat) (y : MethodName) (cc : ByteArray) (nL : Nat) : Prop := ((Cond.methodLinkNest own idx y "SmokeSeats" ∈ nestW) ∨ Cond.methodLink own idx y ∈ gt) ∧ Cond.instanceMethod y ∈ gt ∧ Cond.initialized y.cls ∈ gt ∧ Cond.code y cc nL none ∈ gt
theorem k_run {X : Cx} {Γ : Gm} {B nL mc2 ms2 : Nat} {r : Rb} {w2 : Wd} {pc : Nat} {lv : List (Nat × Value)} {st st0 : List Value} {a : Array Value} {H : Heap} {locs : List Loc} {ls : Array Slot} (hl : lv_has ls nL lv) (hS : va_S (gA Γ) (xs X).heap H locs)
    (hr : va_Run (xp X) (xl X) (xe X) (xR X) (xs X) (xm X) (xa X) (xb X) (xM X) (xc X) H locs r.2.1 r.2.2 mc2 ms2 (F0 (xm X) pc ls st0) st (Pk Γ B w2 a) (gA Γ)) (kk : Zc X Γ B nL (r.1, r.2.1 + mc2, r.2.2 + ms2) w2 (pc + 3) lv st) :
    W (xp X) (xl X) (xe X) (xR X) (xs X) (xm X) (xa X) (xb X) (xM X) (xc X) H locs r.2.1 r.2.2 r.1 (F0 (xm X) pc ls st0) := by
  intro T hT XX
  obtain ⟨v', st₀, t, T', L, h0, X', hL, e1, e2, ⟨⟨hv, hP⟩, hz, hq⟩, stp⟩ := hr T hT XX
  cases hv
  rw [h0] at hz hq
  obtain ⟨t2, a1, b1⟩ := kk T'.heap (locs ++ L) ls (by rw [e1]; exact hP)
    ⟨Nat.le_trans hS.1 (by rw [e1]; exact hz), fun q h1 h2 => by rw [e1, hq q (Nat.lt_of_lt_of_le h1 hS.1) h2]; exact hS.2.1 q h1 h2, fun q hq => by
      rcases List.mem_append.mp hq with h | h
      · exact hS.2.2 q h
      · exact hL q h⟩ hl T' rfl X'
  exact ⟨t2, stp t2 a1, b1⟩
theorem k_call {X : Cx} {Γ : Gm} {B : Nat} {cc : ByteArray} {own : String} {nL d mc ms : Nat} {r : Rb} {w : Wd} {pc : Nat} {lv : List (Nat × Value)} {st : List Value} (hX : Amk X Γ B cc own nL d mc ms) {y : MethodName} {cc2 : ByteArray} {nL2 d2 idx mc2 ms2 b : Nat} {w2 : Wd} (hM : Ck (xl X) Γ B y cc2 nL2 d2 mc2 ms2 [.ref (gL Γ b)] w w2) (hlk : LkI own idx y cc2 nL2) (hyn : y.name = "<init>") (hy : Ds y 0) (hR : d2 + 1 ≤ d) (hL : nL2 ≤ 81) (hc : r.2.1 + mc2 ≤ mc ∧ r.2.2 + ms2 ≤ ms) (hst : (st.map fun v => v.category).sum ≤ 8) (hd : decode cc pc = .ok (.invokespecial idx, 3)) (pc2 : Nat) (hp : pc + 3 = pc2) (r2 : Rb) (hr : (r.1, r.2.1 + mc2, r.2.2 + ms2) = r2) (kk : Zc X Γ B nL r2 w2 pc2 lv (st)) : Zc X Γ B nL r w pc lv (.ref (gL Γ b) :: st) := by
  subst hp; subst hr
  obtain ⟨k1, k2, k4, k5⟩ := hlk
  obtain ⟨hx, hb', hml, hown, hts, hA, -, -, hRR, hG, -, -⟩ := hX
  intro H locs ls hP hS hl
  have hroom : (rmk d2 mc2 ms2).frames + 1 ≤ (xR X).frames ∧ 8 + (nL2 + 11) + (rmk d2 mc2 ms2).locals ≤ (xR X).locals := by unfold rmk; dsimp only; omega
  have hpre : PreS (xs X) H (va_Pc [.ref (gL Γ b)] (fun U => hk Γ B w U.heap ∧ Ac Γ U)) [.ref (gL Γ b)] := ⟨Pk_blind, fun U hU hW => ⟨rfl, by rw [hU]; exact hP, hA.to hW (by rw [hU]; exact hS.2.1)⟩⟩
  have hf : r.2.1 + mc2 ≤ (xR X).cells ∧ r.2.2 + ms2 ≤ (xR X).slots := ⟨Nat.le_trans hc.1 hRR.2.2.1, Nat.le_trans hc.2 hRR.2.2.2⟩
  rcases k1 with k1 | k1
  · exact k_run hl hS (va_runIN (As := []) (rest := st) ⟨hx, hb', hml, hown, hts⟩ hM ⟨va_cnB 0 hts (gt_goodIn k5) rfl rfl rfl (hA.1.2.1 _ k1) (hts _ k4) hy hroom, hyn, hts _ k2⟩ hpre rfl rfl hl.1 rfl (lv_room hst) hd hf) kk
  · exact k_run hl hS (va_runI (As := []) (rest := st) ⟨hx, hb', hml, hown, hts⟩ hM ⟨callB_of 0 hts (gt_goodIn k5) rfl rfl rfl (hts _ k4) (hts _ k1) hy hroom, hyn, hts _ k2⟩ hpre rfl rfl hl.1 rfl (lv_room hst) hd hf) kk

/-! The world at the law's entry: classes, arrays' classes, the words that are carried. -/
theorem sx_aoA {t : FieldType} {u U : State} (hvm : u.vm.Alike U.vm) {a a' : Array Value} (h : (Cond.arrayOver (.array t)).before a u = true) : (Cond.arrayOver (.array t)).before a' U = true := by
  obtain ⟨comp, c, k, h1, h2, h3, h4, h5⟩ := arrayOverA_spec h
  obtain ⟨k', hk', he⟩ := hvm.2.2 _ _ h3
  have e1 := va_idx_bare U.vm comp
  rw [hvm.bare_eq] at e1
  have e2 := e1.symm.trans ((va_idx_bare u.vm comp).trans h2)
  have e3 := hvm.findClass (FieldType.array t).toString none
  have e4 := hvm.findClass ("[" ++ (FieldType.array t).toString) none
  rw [h1] at e3
  rw [h5] at e4
  have e5 : k'.kind = .array comp (.array t) := by rw [he]; exact h4
  simp only [Cond.before, Cond.holds, Cond.value]
  rw [e3, Option.bind_some]
  erw [e2]
  simp [hk', e5, e4]
theorem sx_st {O n d : String} {s U : State} (hvm : s.vm.Alike U.vm) (hh : ∀ q, q < s.heap.size → U.heap[q]? = s.heap[q]?) {a a' : Array Value} {v : Value} (h : (Term.static O n d).eval a s none [] s = some v) : (Term.static O n d).eval a' U none [] U = some v := by
  cases hf : s.fieldFound? O n d with
  | none => simp [Term.eval, State.fieldNamed?, hf] at h
  | some w =>
    obtain ⟨c, k, i, f⟩ := w
    obtain ⟨k', hf', he⟩ := State.fieldFound?_setVm hvm hf
    have hf2 : U.fieldFound? O n d = some (c, k', i, f) := hf'
    have hs : k'.statics = k.statics := by rw [he]
    cases hst : f.isStatic with
    | false => simp [Term.eval, State.fieldNamed?, hf, hst] at h
    | true =>
      cases hk : k.statics with
      | none => simp [Term.eval, State.fieldNamed?, hf, hst, hk] at h
      | some q =>
        cases hq : s.heap[q]? with
        | none => simp [Term.eval, State.fieldNamed?, hf, hst, hk, hq] at h
        | some cell =>
          have hq2 : U.heap[q]? = some cell := (hh q (Array.getElem?_eq_some_iff.mp hq).1).trans hq
          simp [Term.eval, State.fieldNamed?, hf, hst, hk, hq] at h
          simp [Term.eval, State.fieldNamed?, hf2, hst, hs, hk, hq2]
          exact h
theorem sx_ls {O n d : String} {s U : State} (hvm : s.vm.Alike U.vm) (hh : ∀ q, q < s.heap.size → U.heap[q]? = s.heap[q]?) {a a' : Array Value} (h : (Cond.laysStatic O n d).before a s = true) : (Cond.laysStatic O n d).before a' U = true := by
  obtain ⟨c, k, i, f, q, cell, hc, hi, hst, ha, hcell, h1, h2, h3, h4⟩ := Cond.laysStatic_spec h
  obtain ⟨k', hf', he⟩ := State.fieldFound?_setVm hvm hi
  have hf2 : U.fieldFound? O n d = some (c, k', i, f) := hf'
  exact Cond.laysStatic_of (s := U) ((hvm.findClass O none).trans hc) hf2 hst (by rw [he]; exact ha) ((hh q (Array.getElem?_eq_some_iff.mp hcell).1).trans hcell) h1 h2 h3 (by rw [he]; exact h4)
theorem sx_ir {t : Term} {s : State} {a : Array Value} (h : (Cond.isRef t).before a s = true) : ∃ v, t.eval a s none [] s = some v ∧ ∀ (U : State) (a' : Array Value), t.eval a' U none [] U = some v → (Cond.isRef t).before a' U = true := by
  simp only [Cond.before, Cond.holds, Cond.value] at h
  cases he : t.eval a s none [] s with
  | none => simp [he] at h
  | some v =>
    refine ⟨v, rfl, fun U a' hU => ?_⟩
    simp only [Cond.before, Cond.holds, Cond.value, hU]
    simpa [he] using h
theorem sx_sc {C S : String} {s U : State} (hvm : s.vm.Alike U.vm) {a a' : Array Value} (h : (Cond.superclass C S).before a s = true) : (Cond.superclass C S).before a' U = true := by
  simp only [Cond.before, Cond.holds, Cond.value] at h ⊢
  rw [hvm.findClass, hvm.findClass]
  cases hc : s.vm.findClass C with
  | none => simp [hc] at h
  | some c =>
    cases hp : s.vm.findClass S with
    | none => simp [hc, hp] at h
    | some p =>
      simp only [hc, hp] at h ⊢
      cases hk : s.vm.classes[c]? with
      | none => simp [hk] at h
      | some k =>
        cases hkp : s.vm.classes[p]? with
        | none => simp [hkp] at h
        | some kp =>
          obtain ⟨k', hk', he⟩ := hvm.2.2 _ _ hk
          obtain ⟨kp', hkp', hep⟩ := hvm.2.2 _ _ hkp
          have e1 : k'.super = k.super := by rw [he]
          have e2 : k'.kind = k.kind := by rw [he]
          have e3 : kp'.kind = kp.kind := by rw [hep]
          have e4 : k'.isInterface = k.isInterface := by rw [he]; rfl
          simp only [hk, hkp, Option.bind_some, Option.map_some] at h
          simp only [hk', hkp', Option.bind_some, Option.map_some, e1, e2, e3, e4]
          exact h
/-- what stays: the tables, and every cell that was there at the entry -/
def sx_X (s U : State) : Prop := s.WarmedH U.vm ∧ s.heap.size ≤ U.heap.size ∧ ∀ q, q < s.heap.size → U.heap[q]? = s.heap[q]?
def sx_A (s : State) (q : Nat) : Prop := s.heap.size ≤ q
def sx_kN (w : Cond) : Bool := match w with
  | .methodLinkNest .. => true
  | .arrayOver (.object _) => true
  | .arrayOver (.array _) => true
  | .castable .. => true
  | .laysStatic .. => true
  | .declares _ => true
  | .superclass .. => true
  | _ => false
set_option maxRecDepth 100000 in
theorem sx_kinds : (lw_tbl.filter nm_isN).all sx_kN = true := by decide +kernel
def sx_tN : List Cond := [.isRef (.static Bundle.tN "UNASSIGNED_STACK" Bundle.steD), .isRef (.static Bundle.tN "SUPPRESSED_SENTINEL" Bundle.listD)]
theorem sx_XX {s : State} {a0 : Array Value} (hts : ∀ w ∈ lw_tbl, w.before a0 s = true) (h2 : ∀ w ∈ sx_tN, w.before a0 s = true) : am_XX (sx_A s) nm_Tn (sx_X s) := by
  refine ⟨fun U g mk a h => h, fun U V h hW hF => ⟨State.WarmedH.trans h.1 hW, Nat.le_trans h.2.1 hF.1, fun q hq => (hF.2 q (Nat.lt_of_lt_of_le hq h.2.1) (by unfold sx_A; omega)).trans (h.2.2 q hq)⟩, fun U h w hw a => ?_⟩
  obtain ⟨hW, hsz, hh⟩ := h
  have hal := hW.alike
  rcases List.mem_cons.mp hw with rfl | hw
  · obtain ⟨v, hv, hg⟩ := sx_ir (h2 (.isRef (.static Bundle.tN "UNASSIGNED_STACK" Bundle.steD)) (by unfold sx_tN; simp))
    exact hg U a (sx_st hal hh hv)
  rcases List.mem_cons.mp hw with rfl | hw
  · obtain ⟨v, hv, hg⟩ := sx_ir (h2 (.isRef (.static Bundle.tN "SUPPRESSED_SENTINEL" Bundle.listD)) (by unfold sx_tN; simp))
    exact hg U a (sx_st hal hh hv)
  have hk := List.all_eq_true.mp sx_kinds w hw
  have h0 := hts w (List.mem_filter.mp hw).1
  unfold sx_kN at hk
  split at hk
  · exact va_Nw.use rfl (va_Nw.warmM hW (va_Nw.of rfl h0))
  · exact va_AO.use (va_AO.moved hal (va_AO.of h0))
  · exact sx_aoA hal h0
  · exact va_Nw.use rfl (va_Nw.warmC hW (va_Nw.of rfl h0))
  · exact sx_ls hal hh h0
  · exact va_Nw.use rfl (va_Nw.warmD hW (va_Nw.of rfl h0))
  · exact sx_sc hal h0
  · cases hk
def sx_ki (C : String) (w : Cond) : Bool := match w with
  | .instantiable c _ => c == C
  | _ => false
set_option maxRecDepth 100000 in
theorem sx_inst : nd_ct.all (fun q => lw_tbl.any (sx_ki q.1.1)) = true := by decide +kernel
theorem sx_cl {s : State} {a0 : Array Value} (hts : ∀ w ∈ lw_tbl, w.before a0 s = true) : ∃ D : va_G, ∀ (c : Nat) (q : vw_C), nd_cl[c]? = some q → u_Kn s q.1 q.2.1 q.2.2 (D.1 c) (D.2 c) := by
  have h : ∀ c : Nat, ∃ x : ClassId × (Nat → Nat), ∀ q : vw_C, nd_cl[c]? = some q → u_Kn s q.1 q.2.1 q.2.2 x.1 x.2 := by
    intro c
    cases hc : nd_cl[c]? with
    | none => exact ⟨(0, fun _ => 0), fun q hq => by cases hq⟩
    | some q =>
      obtain ⟨r, hr, rfl⟩ := List.mem_map.mp (List.mem_of_getElem? hc)
      obtain ⟨w, hw, hw2⟩ := List.any_eq_true.mp (List.all_eq_true.mp sx_inst r hr)
      unfold sx_ki at hw2
      split at hw2
      · next C n =>
        have e : C = r.1.1 := by simpa using hw2
        subst e
        obtain ⟨cC, iS, hK⟩ := u_known (ws := nm_Ts) (fun w hw => hts w (List.mem_filter.mp hw).1) (nd_cok r hr).1 (hts _ hw)
        exact ⟨(cC, iS), fun q hq => by cases hq; exact hK⟩
      · cases hw2
  exact ⟨(fun c => (Classical.choose (h c)).1, fun c => (Classical.choose (h c)).2), fun c q hq => Classical.choose_spec (h c) q hq⟩
theorem sx_ac {s : State} {a0 : Array Value} {ty : FieldType} (hno : ∀ C, ty ≠ .object C) (h : (Cond.arrayClass ty).before a0 s = true) : ∃ c, ArrOfT s c ty ∧ va_RA s c ty := by
  obtain ⟨c, k, comp, h1, h2, h3⟩ := Cond.arrayClass_spec h
  refine ⟨c, fun N z => ⟨(fun k h => by cases h), k, h2, comp, h3⟩, ?_⟩
  cases ty with
  | object C => exact absurd rfl (hno C)
  | _ => exact h1
def sx_tys (ca : Nat → ClassId) : List (ClassId × FieldType) := [(ca 0, .int), (ca 1, .boolean), (ca 2, .long), (ca 3, .object "PaperParcels$Paper"), (ca 4, .array .int)]
def sx_ca (c0 c1 c2 c3 c4 : ClassId) (k : Nat) : ClassId := match k with
  | 0 => c0
  | 1 => c1
  | 2 => c2
  | 3 => c3
  | _ => c4
theorem sx_ty {s : State} {a0 : Array Value} (hts : ∀ w ∈ lw_tbl, w.before a0 s = true) : ∃ ca : Nat → ClassId, ∀ (k : Nat) (q : ClassId × FieldType), (sx_tys ca)[k]? = some q → ArrOfT s q.1 q.2 ∧ va_RA s q.1 q.2 := by
  have hT : ∀ w ∈ nm_Ts, w.before a0 s = true := fun w hw => hts w (List.mem_filter.mp hw).1
  obtain ⟨c0, p0⟩ := sx_ac (fun C h => by cases h) (hT _ nd_wa0)
  obtain ⟨c1, p1⟩ := sx_ac (fun C h => by cases h) (hT _ nd_wa1)
  obtain ⟨c2, p2⟩ := sx_ac (fun C h => by cases h) (hT _ nd_wa2)
  obtain ⟨m3, c3, k3, a1, a2, a3, a4, a5⟩ := Cond.arrayOver_spec (hts _ (List.mem_of_getElem? (i := 177) (by decide +kernel : lw_tbl[177]? = some (Cond.arrayOver (.object "PaperParcels$Paper")))))
  obtain ⟨m4, c4, k4, b1, b2, b3, b4, b5⟩ := arrayOverA_spec (hts _ (List.mem_of_getElem? (i := 436) (by decide +kernel : lw_tbl[436]? = some (Cond.arrayOver (.array .int)))))
  refine ⟨sx_ca c0 c1 c2 c3 c4, fun k q hq => ?_⟩
  match k, hq with
  | 0, hq => cases hq; exact p0
  | 1, hq => cases hq; exact p1
  | 2, hq => cases hq; exact p2
  | 3, hq => cases hq; exact ⟨fun N z => ⟨(fun k h => by cases h), k3, a3, m3, a4⟩, k3, m3, a3, a4, a1, a5⟩
  | 4, hq => cases hq; exact ⟨fun N z => ⟨(fun k h => by cases h), k4, b3, m4, b4⟩, b5⟩
  | k + 5, hq => simp [sx_tys] at hq
/-- the addresses of places: what is made from the entry on; place 1000000 is the script -/
def sx_ad (s : State) (b : Nat) (k : Nat) : Nat := if k < 1000000 then s.heap.size + k else b
theorem sx_D {s : State} {b : Nat} {ca : Nat → ClassId} (h : List va_E) (hl : h.length ≤ 1000000) : va_D (sx_A s) (am_ws (sx_ad s b) ca h) := by
  have h1 : ∀ (i : Nat) (p : Nat × va_E), (am_ws (sx_ad s b) ca h)[i]? = some p → p.1 = s.heap.size + i := by
    intro i p hp
    unfold am_ws at hp
    rw [List.getElem?_mapIdx] at hp
    cases hi : h[i]? with
    | none => rw [hi] at hp; cases hp
    | some x =>
      rw [hi] at hp
      simp only [Option.map_some, Option.some.injEq] at hp
      have := (List.getElem?_eq_some_iff.mp hi).1
      rw [← hp]
      show sx_ad s b i = _
      unfold sx_ad
      rw [if_pos (by omega)]
  refine ⟨fun i j p q hp hq e => ?_, fun k q hq => ?_⟩
  · have e1 := h1 i p hp
    have e2 := h1 j q hq
    omega
  · have e1 := h1 k q hq
    unfold sx_A
    omega
theorem sx_world {l : Launch} {s : State} {a0 : Array Value} {b : Nat} (hl : l.stackTraces = false) (hts : ∀ w ∈ lw_tbl, w.before a0 s = true) (h2 : ∀ w ∈ sx_tN, w.before a0 s = true) : ∃ (D : va_G) (ca : Nat → ClassId), cx_ok l D (sx_ad s b) ca (sx_A s) (sx_tys ca) (sx_X s) s.heap.size ∧ va_K D nd_cl (sx_tys ca) s ∧ sx_X s s := by
  obtain ⟨D, hD⟩ := sx_cl hts
  obtain ⟨ca, hca⟩ := sx_ty hts
  refine ⟨D, ca, ⟨rfl, rfl, rfl, rfl, rfl, sx_XX hts h2, fun k hk => by unfold sx_ad; rw [if_pos hk], fun h hh => sx_D h hh, hl⟩, ⟨hD, hca⟩, State.WarmedH.refl s, Nat.le_refl _, fun _ _ => rfl⟩
theorem sx_at {p : Program} {s : State} {m : MethodId} {meth : Method} {c : Code} {b L : Nat} {xs : Nat → Int32} (C0 : lw_At p s m meth c b L xs) : ∀ w ∈ sx_tN, w.before #[Value.ref b] s = true := by
  obtain ⟨-, -, -, -, -, -, -, -, -, hg⟩ := C0
  have hs := flat_of_before _ hg
  intro w hw
  unfold sx_tN at hw
  rcases List.mem_cons.mp hw with rfl | hw
  · exact hs _ (by decide +kernel)
  rcases List.mem_cons.mp hw with rfl | hw
  · exact hs _ (by decide +kernel)
  · cases hw

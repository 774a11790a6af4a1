/-! Tables of the program by numbers, and how they are checked against the claim's words. -/
def nm_Ts : List Cond := lw_tbl.filter goodWord
/-- words that are carried by premises of their own: on a nest mate's private members, on arrays over a class, on casts, on Throwable's statics -/
def nm_isN (w : Cond) : Bool := match w with
  | .methodLinkNest .. => true
  | .arrayOver _ => true
  | .castable .. => true
  | .laysStatic .. => true
  | .declares _ => true
  | .superclass .. => true
  | _ => false
def nm_Tn : List Cond := .isRef (.static Bundle.tN "UNASSIGNED_STACK" Bundle.steD) :: .isRef (.static Bundle.tN "SUPPRESSED_SENTINEL" Bundle.listD) :: lw_tbl.filter nm_isN
theorem nm_inN {w : Cond} {i : Nat} (h : lw_tbl[i]? = some w) (hg : nm_isN w = true) : w ∈ nm_Tn := List.mem_cons_of_mem _ (List.mem_cons_of_mem _ (List.mem_filter.mpr ⟨List.mem_of_getElem? h, hg⟩))
theorem nm_in {w : Cond} {i : Nat} (h : lw_tbl[i]? = some w) (hg : goodWord w = true) : w ∈ nm_Ts := List.mem_filter.mpr ⟨List.mem_of_getElem? h, hg⟩
theorem nm_good : ∀ w ∈ nm_Ts, goodWord w = true := fun w h => (List.mem_filter.mp h).2
theorem nm_find {α : Type} {L : List (Nat × α)} {ix : Nat} {r : α} (h : (L.find? (fun q => q.1 == ix)).map (fun q => q.2) = some r) : (ix, r) ∈ L := by
  cases hf : L.find? (fun q => q.1 == ix) with
  | none => rw [hf] at h; cases h
  | some q =>
    rw [hf] at h
    have h1 := List.mem_of_find?_eq_some hf
    have h2 := List.find?_some hf
    simp only [Option.map_some, Option.some.injEq] at h
    have h3 : q.1 = ix := by simpa using h2
    rw [← h, ← h3]
    exact h1
/-- instructions by their places -/
def am_in (L : List (Nat × Instr × Nat)) (pc : Nat) : Option (Instr × Nat) := (L.find? (fun q => q.1 == pc)).map (fun q => q.2)
def am_ic (cc : ByteArray) (L : List (Nat × Instr × Nat)) : Bool := L.all (fun q => decide (decode cc q.1 = .ok (q.2.1, q.2.2)))
theorem am_in_ok {cc : ByteArray} {L : List (Nat × Instr × Nat)} (h : am_ic cc L = true) : ∀ pc i n, am_in L pc = some (i, n) → decode cc pc = .ok (i, n) := by
  intro pc i n hp
  have h1 := List.all_eq_true.mp h _ (nm_find hp)
  simpa using h1
abbrev nm_K : Type := vw_C × (Nat → FieldType)
/-- a class's table is right -/
def nm_cok (q : nm_K) : Prop := (∀ w ∈ u_ws q.1.1 q.1.2.1 q.1.2.2, w ∈ nm_Ts) ∧ (∀ j, j < q.1.2.2 → parseFieldDescriptor (q.1.2.1 j).2.2.1 = some (q.2 j)) ∧ ∀ a, a < q.1.2.2 → ∀ b, b < q.1.2.2 → a ≠ b → (q.1.2.1 a).2.1 ≠ (q.1.2.1 b).2.1
theorem nm_wsok {C : String} {T : u_T} {N : Nat} (ps : List Nat) (h : (List.range N).all (fun k => decide (lw_tbl[ps.getD k 0]? = some (u_lay C T k)) && goodWord (u_lay C T k)) = true) : ∀ w ∈ u_ws C T N, w ∈ nm_Ts := by
  intro w hw
  obtain ⟨k, hk, rfl⟩ := List.mem_map.mp hw
  have h1 := List.all_eq_true.mp h k hk
  simp only [Bool.and_eq_true, decide_eq_true_eq] at h1
  exact nm_in h1.1 h1.2
/-- fields by pool places: (place, (class, field, kind, word)) -/
abbrev nm_F : Type := Nat × Nat × Nat × Nat × Nat
def am_fl (L : List nm_F) (ix : Nat) : Option (Nat × Nat × Nat) := ((L.find? (fun q => q.1 == ix)).map (fun q => q.2)).map (fun q => (q.1, q.2.1, q.2.2.1))
def nm_kd (own : String) (ini : Bool) (t : String × String × String × Bool) (ty : FieldType) (kd : Nat) : Bool := match kd with
  | 0 => !t.2.2.2 && decide (ty = .int)
  | 1 => !t.2.2.2 && decide (ty = .boolean)
  | 2 => ini && t.2.2.2 && decide (t.1 = own) && decide (ty = .int)
  | 3 => ini && t.2.2.2 && decide (t.1 = own) && (match ty with
    | .object _ => true
    | .array _ => true
    | _ => false)
  | _ => true
def nm_fchk (ct : List nm_K) (own : String) (ini : Bool) (q : nm_F) : Bool := match ct[q.2.1]? with
  | none => false
  | some r => decide (q.2.2.1 < r.1.2.2) && (decide (lw_tbl[q.2.2.2.2]? = some (Cond.fieldLink own q.1 (r.1.2.1 q.2.2.1).1 (r.1.2.1 q.2.2.1).2.1 (r.1.2.1 q.2.2.1).2.2.1)) && nm_kd own ini (r.1.2.1 q.2.2.1) (r.2 q.2.2.1) q.2.2.2.1)
theorem nm_fok {ct : List nm_K} {own : String} {ini : Bool} {L : List nm_F} (hct : ∀ q ∈ ct, nm_cok q) (h : L.all (nm_fchk ct own ini) = true) {meth : Method} (hm : ini = true → meth.name = "<init>") : am_Fw meth own nm_Ts (ct.map (fun q => q.1)) (am_fl L) := by
  intro ix ci k kd hf
  unfold am_fl at hf
  cases hg : (L.find? (fun q => q.1 == ix)).map (fun q => q.2) with
  | none => rw [hg] at hf; cases hf
  | some r =>
    rw [hg] at hf
    simp only [Option.map_some, Option.some.injEq, Prod.mk.injEq] at hf
    obtain ⟨rfl, rfl, rfl⟩ := hf
    have h1 := List.all_eq_true.mp h _ (nm_find hg)
    unfold nm_fchk at h1
    split at h1
    · cases h1
    · next q hq =>
      simp only [Bool.and_eq_true, decide_eq_true_eq] at h1
      obtain ⟨h2, h3, h4⟩ := h1
      obtain ⟨c1, c2, c3⟩ := hct q (List.mem_of_getElem? hq)
      refine ⟨q.1.1, q.1.2.1, q.1.2.2, q.2, by rw [List.getElem?_map, hq]; rfl, c1, h2, nm_in h3 rfl, c2, c3, fun e => ?_, fun e => ?_, fun e => ?_, fun e => ?_⟩
      · rw [e] at h4
        simp only [nm_kd, Bool.and_eq_true, Bool.not_eq_true', decide_eq_true_eq] at h4
        exact h4
      · rw [e] at h4
        simp only [nm_kd, Bool.and_eq_true, Bool.not_eq_true', decide_eq_true_eq] at h4
        exact h4
      · rw [e] at h4
        simp only [nm_kd, Bool.and_eq_true, decide_eq_true_eq] at h4
        exact ⟨h4.1.1.2, h4.1.2, hm h4.1.1.1, h4.2⟩
      · rw [e] at h4
        simp only [nm_kd, Bool.and_eq_true, decide_eq_true_eq] at h4
        refine ⟨h4.1.1.2, h4.1.2, hm h4.1.1.1, ?_⟩
        have h5 := h4.2
        split at h5
        · exact Or.inl ⟨_, by assumption⟩
        · exact Or.inr ⟨_, by assumption⟩
        · cases h5
/-- constants by pool places: (place, (value, word)) -/
def am_ct (L : List (Nat × Value × Nat)) (ix : Nat) : Option Value := ((L.find? (fun q => q.1 == ix)).map (fun q => q.2)).map (fun q => q.1)
def nm_kchk (own : String) (q : Nat × Value × Nat) : Bool := match q.2.1 with
  | .int x => decide (lw_tbl[q.2.2]? = some (Cond.constant own q.1 x))
  | .long x => decide (lw_tbl[q.2.2]? = some (Cond.constantLong own q.1 x))
  | _ => false
theorem nm_kok {own : String} {L : List (Nat × Value × Nat)} (h : L.all (nm_kchk own) = true) : (∀ ix v, am_ct L ix = some (.int v) → Cond.constant own ix v ∈ nm_Ts) ∧ ∀ ix v, am_ct L ix = some (.long v) → Cond.constantLong own ix v ∈ nm_Ts := by
  constructor
  · intro ix v hf
    unfold am_ct at hf
    cases hg : (L.find? (fun q => q.1 == ix)).map (fun q => q.2) with
    | none => rw [hg] at hf; cases hf
    | some r =>
      rw [hg] at hf
      have h1 := List.all_eq_true.mp h _ (nm_find hg)
      simp only [Option.map_some, Option.some.injEq] at hf
      unfold nm_kchk at h1
      simp only [hf] at h1
      exact nm_in (of_decide_eq_true h1) rfl
  · intro ix v hf
    unfold am_ct at hf
    cases hg : (L.find? (fun q => q.1 == ix)).map (fun q => q.2) with
    | none => rw [hg] at hf; cases hf
    | some r =>
      rw [hg] at hf
      have h1 := List.all_eq_true.mp h _ (nm_find hg)
      simp only [Option.map_some, Option.some.injEq] at hf
      unfold nm_kchk at h1
      simp only [hf] at h1
      exact nm_in (of_decide_eq_true h1) rfl
/-- a method: name, bytes, locals, answer; its kind, words taken, receiver's class; the places of its words (code, initialized, static or instanceMethod, selects) -/
abbrev nm_M : Type := (MethodName × ByteArray × Nat × Option FieldType) × Nat × Nat × Nat × Nat × Nat × Nat × Nat
def nm_mt (ml : List nm_M) : am_mt := fun y => (ml.getD y ((⟨"", "", ""⟩, ByteArray.empty, 0, none), 9, 0, 0, 0, 0, 0, 0)).1
def nm_mchk (ct : List nm_K) (q : nm_M) : Bool :=
  decide (lw_tbl[q.2.2.2.2.1]? = some (Cond.code q.1.1 q.1.2.1 q.1.2.2.1 q.1.2.2.2)) && (decide (lw_tbl[q.2.2.2.2.2.1]? = some (Cond.initialized q.1.1.cls)) && (decide (q.1.1.cls ≠ "java/lang/invoke/MethodHandle") && (decide (q.1.1.cls ≠ "java/lang/invoke/VarHandle") && match q.2.1 with
    | 0 => decide (lw_tbl[q.2.2.2.2.2.2.1]? = some (Cond.static q.1.1)) && decide ((parseMethodDescriptor q.1.1.desc).map (fun d => d.parameters.length) = some q.2.2.1)
    | 1 => decide (lw_tbl[q.2.2.2.2.2.2.1]? = some (Cond.instanceMethod q.1.1)) && (decide ((parseMethodDescriptor q.1.1.desc).map (fun d => d.parameters.length + 1) = some q.2.2.1) && match ct[q.2.2.2.1]? with
      | some r => decide (lw_tbl[q.2.2.2.2.2.2.2]? = some (Cond.selects r.1.1 q.1.1 q.1.1))
      | none => false)
    | 2 => decide (lw_tbl[q.2.2.2.2.2.2.1]? = some (Cond.instanceMethod q.1.1)) && (decide ((parseMethodDescriptor q.1.1.desc).map (fun d => d.parameters.length + 1) = some q.2.2.1) && (decide (q.1.1.name = "<init>") && decide (q.1.2.2.2 = none)))
    | _ => false)))
/-- calls by pool places: (place, (method, nest, word)) -/
abbrev nm_S : Type := Nat × Nat × Bool × Nat
def am_sl (ml : List nm_M) (L : List nm_S) (ix : Nat) : Option (Nat × Nat × Nat × Nat) := match (L.find? (fun q => q.1 == ix)).map (fun q => q.2) with
  | none => none
  | some (y, b, _) => match ml[y]? with
    | none => none
    | some q => some (if b then 3 else q.2.1, y, q.2.2.1, q.2.2.2.1)
def nm_schk (ct : List nm_K) (ml : List nm_M) (own : String) (q : nm_S) : Bool := match ml[q.2.1]? with
  | none => false
  | some r => nm_mchk ct r && (if q.2.2.1 then decide (r.2.1 = 0) && (match lw_tbl[q.2.2.2]? with
      | some (.methodLinkNest o i x _) => decide (o = own) && (decide (i = q.1) && decide (x = r.1.1))
      | _ => false) else decide (lw_tbl[q.2.2.2]? = some (Cond.methodLink own q.1 r.1.1)))

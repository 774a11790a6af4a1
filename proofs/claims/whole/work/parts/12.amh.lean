/-! Cells by their places: how a list of cells lies in the heap; the instructions that read and write cells. -/
def am_c (ad : Nat → Nat) (ca : Nat → ClassId) (e : va_E) : va_E := match e with
  | .inl (t, n, .inl f) => .inl (ca t, n, .inl f)
  | .inl (t, n, .inr (.inl f)) => .inl (ca t, n, .inr (.inl f))
  | .inl (t, n, .inr (.inr (.inl f))) => .inl (ca t, n, .inr (.inr (.inl f)))
  | .inl (t, n, .inr (.inr (.inr (.inl f)))) => .inl (ca t, n, .inr (.inr (.inr (.inl f))))
  | .inl (t, n, .inr (.inr (.inr (.inr f)))) => .inl (ca t, n, .inr (.inr (.inr (.inr (fun i => (f i).map ad)))))
  | .inr (ci, fs) => .inr (ci, fs.map (am_v ad))
def am_ws (ad : Nat → Nat) (ca : Nat → ClassId) (h : List va_E) : va_W := h.mapIdx (fun k x => (ad k, am_c ad ca x))
theorem am_ws_get {ad : Nat → Nat} {ca : Nat → ClassId} {h : List va_E} {k : Nat} {x : va_E} (hk : h[k]? = some x) : (am_ws ad ca h)[k]? = some (ad k, am_c ad ca x) := by
  unfold am_ws
  rw [List.getElem?_mapIdx, hk]
  rfl
theorem am_ws_set {ad : Nat → Nat} {ca : Nat → ClassId} {h : List va_E} {k : Nat} {x : va_E} : (am_ws ad ca h).set k (ad k, am_c ad ca x) = am_ws ad ca (h.set k x) := by
  apply List.ext_getElem?
  intro i
  unfold am_ws
  rw [List.getElem?_mapIdx, List.getElem?_set, List.getElem?_set]
  by_cases hi : k = i
  · subst hi
    by_cases hl : k < h.length
    · simp [hl]
    · simp [hl]
  · simp [hi, List.getElem?_mapIdx]
theorem am_ws_push {ad : Nat → Nat} {ca : Nat → ClassId} {h : List va_E} {x : va_E} : am_ws ad ca h ++ [(ad h.length, am_c ad ca x)] = am_ws ad ca (h ++ [x]) := by
  simp [am_ws, List.mapIdx_append]
theorem am_ws_len {ad : Nat → Nat} {ca : Nat → ClassId} {h : List va_E} : (am_ws ad ca h).length = h.length := by simp [am_ws]
abbrev am_S : Type := Nat × List (Option Value) × List Value × List va_E
/-- a field's kind: 0 an int, 1 a boolean, 2 a final int, 3 a final reference -/
def am_fit (kd : Nat) (v : Value) : Bool := match kd, v with
  | 0, .int _ => true
  | 1, .int x => decide (x = 0 ∨ x = 1)
  | 2, .int _ => true
  | 3, .ref _ => true
  | _, _ => false
def am_hA (fld : Nat → Option (Nat × Nat × Nat)) (i : Instr) (n pc : Nat) (L : List (Option Value)) (st : List Value) (h : List va_E) : Option am_S := match i, n, st with
  | .getfield ix, 3, .ref k :: t => match fld ix, h[k]? with
    | some (ci, f, _), some (.inr (ci', fs)) => if ci = ci' then (match fs[f]? with
      | some v => some (pc + 3, L, v :: t, h)
      | none => none) else none
    | _, _ => none
  | .putfield ix, 3, v :: .ref k :: t => match fld ix, h[k]? with
    | some (ci, f, kd), some (.inr (ci', fs)) => if ci = ci' ∧ f < fs.length ∧ am_fit kd v = true then some (pc + 3, L, t, h.set k (.inr (ci', fs.set f v))) else none
    | _, _ => none
  | _, _, _ => none
def am_hB (i : Instr) (n pc : Nat) (L : List (Option Value)) (st : List Value) (h : List va_E) : Option am_S := match i, n, st with
  | .iaload, 1, .int j :: .ref k :: t => match h[k]? with
    | some (.inl (0, n, .inl f)) => if ¬ (j < 0 ∨ n ≤ j.toNatClampNeg) then some (pc + 1, L, .int (f j.toNatClampNeg) :: t, h) else none
    | _ => none
  | .baload, 1, .int j :: .ref k :: t => match h[k]? with
    | some (.inl (1, n, .inl f)) => if ¬ (j < 0 ∨ n ≤ j.toNatClampNeg) then some (pc + 1, L, .int (f j.toNatClampNeg) :: t, h) else none
    | _ => none
  | .laload, 1, .int j :: .ref k :: t => match h[k]? with
    | some (.inl (2, n, .inr (.inl f))) => if ¬ (j < 0 ∨ n ≤ j.toNatClampNeg) then some (pc + 1, L, .long (f j.toNatClampNeg) :: t, h) else none
    | _ => none
  | .iastore, 1, .int x :: .int j :: .ref k :: t => match h[k]? with
    | some (.inl (0, n, .inl f)) => if ¬ (j < 0 ∨ n ≤ j.toNatClampNeg) then some (pc + 1, L, t, h.set k (.inl (0, n, .inl (upd f j.toNatClampNeg x)))) else none
    | _ => none
  | .bastore, 1, .int x :: .int j :: .ref k :: t => match h[k]? with
    | some (.inl (1, n, .inl f)) => if ¬ (j < 0 ∨ n ≤ j.toNatClampNeg) then some (pc + 1, L, t, h.set k (.inl (1, n, .inl (upd f j.toNatClampNeg (vp_nar .boolean x))))) else none
    | _ => none
  | .lastore, 1, .long x :: .int j :: .ref k :: t => match h[k]? with
    | some (.inl (2, n, .inr (.inl f))) => if ¬ (j < 0 ∨ n ≤ j.toNatClampNeg) then some (pc + 1, L, t, h.set k (.inl (2, n, .inr (.inl (vp_updL f j.toNatClampNeg x))))) else none
    | _ => none
  | .aaload, 1, .int j :: .ref k :: t => match h[k]? with
    | some (.inl (tg, n, .inr (.inr (.inr (.inr f))))) => if ¬ (j < 0 ∨ n ≤ j.toNatClampNeg) ∧ (tg = 3 ∨ tg = 4) then (match f j.toNatClampNeg with
      | some q => some (pc + 1, L, .ref q :: t, h)
      | none => none) else none
    | _ => none
  | .arraylength, 1, .ref k :: t => match h[k]? with
    | some (.inl (0, n, .inl _)) => some (pc + 1, L, .int (Int32.ofNat n) :: t, h)
    | _ => none
  | _, _, _ => none
/-- what the fields' table of a method rests on -/
def am_Fw (meth : Method) (own : String) (Ts : List Cond) (cl : List vw_C) (fld : Nat → Option (Nat × Nat × Nat)) : Prop :=
  ∀ (ix ci k kd : Nat), fld ix = some (ci, k, kd) → ∃ (C : String) (T : u_T) (N : Nat) (ty : Nat → FieldType), cl[ci]? = some (C, T, N) ∧ (∀ w ∈ u_ws C T N, w ∈ Ts) ∧ k < N ∧ Cond.fieldLink own ix (T k).1 (T k).2.1 (T k).2.2.1 ∈ Ts ∧ (∀ j, j < N → parseFieldDescriptor (T j).2.2.1 = some (ty j)) ∧ (∀ a, a < N → ∀ b, b < N → a ≠ b → (T a).2.1 ≠ (T b).2.1) ∧
    (kd = 0 → (T k).2.2.2 = false ∧ ty k = .int) ∧ (kd = 1 → (T k).2.2.2 = false ∧ ty k = .boolean) ∧ (kd = 2 → (T k).2.2.2 = true ∧ (T k).1 = own ∧ meth.name = "<init>" ∧ ty k = .int) ∧ (kd = 3 → (T k).2.2.2 = true ∧ (T k).1 = own ∧ meth.name = "<init>" ∧ ((∃ x, ty k = .object x) ∨ ∃ x, ty k = .array x))
def am_t3 (tys : List (ClassId × FieldType)) (ca : Nat → ClassId) : Prop := ∀ tg, (tg = 3 ∨ tg = 4) → ∃ ty : FieldType, tys[tg]? = some (ca tg, ty) ∧ ty.isReference = true
section AMH
variable {p : Program} {l : Launch} {e : Env} {R : Room} {s : State} {m : MethodId} {args : Array Value} {below : List Frame} {meth : Method} {c : Code} {H : Heap} {locs : List Loc} {cells slots : Nat} {Q : State → Prop}
variable {cc : ByteArray} {ad : Nat → Nat} {ca : Nat → ClassId} {nL : Nat} {D : va_G} {cl : List vw_C} {A : Nat → Prop} {tys : List (ClassId × FieldType)} {H0 : Heap} {Ts : List Cond} {own : String}
theorem am_set_o {h : List va_E} {k ci f : Nat} {fs : List Value} {v : Value} : (am_ws ad ca h).set k (ad k, .inr (ci, (fs.map (am_v ad)).set f (am_v ad v))) = am_ws ad ca (h.set k (.inr (ci, fs.set f v))) := by
  rw [← am_ws_set]
  simp only [am_c, List.map_set]
set_option maxHeartbeats 4000000 in
theorem am_hA_ok (hx : p.tables.exec = Jvm.exec) (hb : c.code = cc) (hown : s.vm.findClass own = some m.cls) (hts : ∀ w ∈ Ts, w.before args s = true) {fld : Nat → Option (Nat × Nat × Nat)} (hF : am_Fw meth own Ts cl fld) (hK : va_K D cl tys s)
    {i : Instr} {n pc : Nat} {L : List (Option Value)} {st : List Value} {h : List va_E} {r : am_S} {ls : Array Slot} (hL : am_has ad ls nL L) (hP : va_P D cl (am_ws ad ca h) H) (hD : va_D A (am_ws ad ca h)) (hS : va_S A H0 H locs) (hd : decode cc pc = .ok (i, n)) (hr : am_hA fld i n pc L st h = some r)
    (k : ∀ ls' H1 locs1, am_has ad ls' nL r.2.1 → va_P D cl (am_ws ad ca r.2.2.2) H1 → va_D A (am_ws ad ca r.2.2.2) → va_S A H0 H1 locs1 → W p l e R s m args below meth c H1 locs1 cells slots Q (F0 m r.1 ls' (r.2.2.1.map (am_v ad)))) : W p l e R s m args below meth c H locs cells slots Q (F0 m pc ls (st.map (am_v ad))) := by
  unfold am_hA at hr
  split at hr
  · split at hr
    · next ci f kd ci' fs hf hh =>
      split at hr
      · next hc =>
        subst hc
        split at hr
        · next v hv =>
          cases hr
          obtain ⟨C, T, N, ty, h1, h2, h3, h4, h5, h6, h7⟩ := hF _ _ _ _ hf
          exact va_get (fs := fs.map (am_v ad)) (v := am_v ad v) hx hb hts h2 hown hK hP _ (am_ws_get hh) h1 f h3 (hts _ h4) (fun _ q => q) (by rw [List.getElem?_map, hv]; rfl) hd (k _ _ _ hL hP hD hS)
        · cases hr
      · cases hr
    · cases hr
  · split at hr
    · next ci f kd ci' fs hf hh =>
      split at hr
      · next hc =>
        obtain ⟨hc1, hc2, hc3⟩ := hc
        subst hc1
        cases hr
        obtain ⟨C, T, N, ty, h1, h2, h3, h4, h5, h6, g0, g1, g2, g3⟩ := hF _ _ _ _ hf
        unfold am_fit at hc3
        split at hc3
        · obtain ⟨f1, f2⟩ := g0 rfl
          refine va_put (fs := fs.map (am_v ad)) hx hb hts h2 ty h5 h6 hown hK hP hD hS _ (am_ws_get hh) h1 f h3 (hts _ h4) (fun _ q => q) f1 (h5 f h3) (by rw [f2]; rfl) (by rw [f2]; rfl) (by simpa using hc2) hd (fun H1 locs1 hP1 hD1 hS1 => ?_)
          rw [am_set_o] at hP1 hD1
          exact k _ _ _ hL hP1 hD1 hS1
        · obtain ⟨f1, f2⟩ := g1 rfl
          next x =>
          have hx01 : x = 0 ∨ x = 1 := by simpa using hc3
          refine va_put (fs := fs.map (am_v ad)) hx hb hts h2 ty h5 h6 hown hK hP hD hS _ (am_ws_get hh) h1 f h3 (hts _ h4) (fun _ q => q) f1 (h5 f h3) (by rw [f2]; rcases hx01 with rfl | rfl <;> rfl) (by rw [f2]; rcases hx01 with rfl | rfl <;> rfl) (by simpa using hc2) hd (fun H1 locs1 hP1 hD1 hS1 => ?_)
          rw [am_set_o] at hP1 hD1
          exact k _ _ _ hL hP1 hD1 hS1
        · obtain ⟨f1, f3, f4, f2⟩ := g2 rfl
          refine va_putF (fs := fs.map (am_v ad)) hx hb hts h2 ty h5 h6 hown hK hP hD hS _ (am_ws_get hh) h1 f h3 (hts _ h4) (fun _ q => q) f1 f4 f3 (h5 f h3) (by rw [f2]; rfl) (by rw [f2]; rfl) (by simpa using hc2) hd (fun H1 locs1 hP1 hD1 hS1 => ?_)
          rw [am_set_o] at hP1 hD1
          exact k _ _ _ hL hP1 hD1 hS1
        · obtain ⟨f1, f3, f4, f2⟩ := g3 rfl
          refine va_putF (fs := fs.map (am_v ad)) hx hb hts h2 ty h5 h6 hown hK hP hD hS _ (am_ws_get hh) h1 f h3 (hts _ h4) (fun _ q => q) f1 f4 f3 (h5 f h3) (by rcases f2 with ⟨x, f2⟩ | ⟨x, f2⟩ <;> rw [f2] <;> rfl) (by rcases f2 with ⟨x, f2⟩ | ⟨x, f2⟩ <;> rw [f2] <;> rfl) (by simpa using hc2) hd (fun H1 locs1 hP1 hD1 hS1 => ?_)
          rw [am_set_o] at hP1 hD1
          exact k _ _ _ hL hP1 hD1 hS1
        · cases hc3
      · cases hr
    · cases hr
  · cases hr
set_option maxHeartbeats 4000000 in
theorem am_hB_ok (hx : p.tables.exec = Jvm.exec) (hb : c.code = cc) (hK : va_K D cl tys s) (t0 : tys[0]? = some (ca 0, .int)) (t1 : tys[1]? = some (ca 1, .boolean)) (t2 : tys[2]? = some (ca 2, .long)) (t3 : am_t3 tys ca)
    {i : Instr} {n pc : Nat} {L : List (Option Value)} {st : List Value} {h : List va_E} {r : am_S} {ls : Array Slot} (hL : am_has ad ls nL L) (hP : va_P D cl (am_ws ad ca h) H) (hD : va_D A (am_ws ad ca h)) (hS : va_S A H0 H locs) (hd : decode cc pc = .ok (i, n)) (hr : am_hB i n pc L st h = some r)
    (k : ∀ ls' H1 locs1, am_has ad ls' nL r.2.1 → va_P D cl (am_ws ad ca r.2.2.2) H1 → va_D A (am_ws ad ca r.2.2.2) → va_S A H0 H1 locs1 → W p l e R s m args below meth c H1 locs1 cells slots Q (F0 m r.1 ls' (r.2.2.1.map (am_v ad)))) : W p l e R s m args below meth c H locs cells slots Q (F0 m pc ls (st.map (am_v ad))) := by
  unfold am_hB at hr
  split at hr
  · split at hr
    · next hh =>
      split at hr
      · next hc => cases hr; exact va_iald hx hb hK hP _ 0 (am_ws_get hh) t0 hc hd (k _ _ _ hL hP hD hS)
      · cases hr
    · cases hr
  · split at hr
    · next hh =>
      split at hr
      · next hc => cases hr; exact va_zald hx hb hK hP _ 1 (am_ws_get hh) t1 hc hd (k _ _ _ hL hP hD hS)
      · cases hr
    · cases hr
  · split at hr
    · next hh =>
      split at hr
      · next hc => cases hr; exact va_lald hx hb hK hP _ 2 (am_ws_get hh) t2 hc hd (k _ _ _ hL hP hD hS)
      · cases hr
    · cases hr
  · split at hr
    · next hh =>
      split at hr
      · next hc =>
        cases hr
        refine va_iast hx hb hK hP hD hS _ 0 (am_ws_get hh) t0 hc hd (fun H1 locs1 hP1 hD1 hS1 => ?_)
        exact k _ _ _ hL (by rw [← am_ws_set]; exact hP1) (by rw [← am_ws_set]; exact hD1) hS1
      · cases hr
    · cases hr
  · split at hr
    · next hh =>
      split at hr
      · next hc =>
        cases hr
        refine va_zast hx hb hK hP hD hS _ 1 (am_ws_get hh) t1 hc hd (fun H1 locs1 hP1 hD1 hS1 => ?_)
        exact k _ _ _ hL (by rw [← am_ws_set]; exact hP1) (by rw [← am_ws_set]; exact hD1) hS1
      · cases hr
    · cases hr
  · split at hr
    · next hh =>
      split at hr
      · next hc =>
        cases hr
        refine va_last hx hb hK hP hD hS _ 2 (am_ws_get hh) t2 hc hd (fun H1 locs1 hP1 hD1 hS1 => ?_)
        exact k _ _ _ hL (by rw [← am_ws_set]; exact hP1) (by rw [← am_ws_set]; exact hD1) hS1
      · cases hr
    · cases hr
  · split at hr
    · next tg n f hh =>
      split at hr
      · next hc =>
        split at hr
        · next q hq =>
          cases hr
          obtain ⟨ty, u1, u2⟩ := t3 tg hc.2
          have ha := hP _ _ (am_ws_get hh)
          have hlt : _ < n := Nat.not_le.mp fun z => hc.1 (Or.inr z)
          refine W.aald (v := .ref (ad q)) (ty := ty) hx hb ha ((hK.2 tg _ u1).1 n (fun j => va_rf ((f j).map ad))) u2 (fun z => by cases z) (by show ¬ (_ < 0 ∨ (arrV _ _ _).slots.size ≤ _); rw [arrV_size]; exact hc.1) ?_ rfl rfl hd (k _ _ _ hL hP hD hS)
          show (arrV _ _ _).slots[_]? = _
          rw [arrV_read _ _ hlt]
          simp only [hq]
          rfl
        · cases hr
      · cases hr
    · cases hr
  · split at hr
    · next hh => cases hr; exact va_alen hx hb hK hP _ 0 (am_ws_get hh) t0 rfl hd (k _ _ _ hL hP hD hS)
    · cases hr
  · cases hr
end AMH

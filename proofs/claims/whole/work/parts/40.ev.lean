/-! Going through a method: rules for its stretches. K: launch, where the places lie, classes' numbers, tables, what may be written, what is carried. -/
abbrev cx_K : Type := Launch × (Nat → Nat) × (Nat → ClassId) × va_G × (Nat → Prop) × List (ClassId × FieldType) × (State → Prop)
def cx_ok (K : cx_K) : Prop := K.2.2.2.2.2.1[0]? = some (K.2.2.1 0, .int) ∧ K.2.2.2.2.2.1[1]? = some (K.2.2.1 1, .boolean) ∧ K.2.2.2.2.2.1[2]? = some (K.2.2.1 2, .long) ∧ am_XX K.2.2.2.2.1 nm_Tn K.2.2.2.2.2.2 ∧ ∀ h : List va_E, h.length ≤ 1000000 → va_D K.2.2.2.2.1 (am_ws K.2.1 K.2.2.1 h)
/-- the method y, called with As over the cells h, ends with o over the cells h', g cells thrown away -/
def Ct (K : cx_K) (y : Nat) (As : List Value) (h : List va_E) (o : am_O) (h' : List va_E) (g : Nat) : Prop :=
  ax_Met K.1 (nd_mt y).1 (am_wy nm_Ts nd_mt y) (am_rm nd_fr nd_lo y g) (am_Pc K.2.2.2.1 nd_cl K.2.2.2.2.2.1 K.2.1 K.2.2.1 K.2.2.2.2.1 K.2.2.2.2.2.2 As h) (am_Qx K.2.2.2.1 nd_cl K.2.1 K.2.2.1 K.2.2.2.2.1 o h') g (6 * g) K.2.2.2.2.1 ∧ va_D K.2.2.2.2.1 (am_ws K.2.1 K.2.2.1 h')
/-- a method's tables: instructions, fields, constants, calls, exceptions, the kind of its answer -/
abbrev ev_M : Type := (Nat → Option (Instr × Nat)) × (Nat → Option (Nat × Nat × Nat)) × (Nat → Option Value) × (Nat → Option (Nat × Nat × Nat × Nat)) × (Nat × Nat → Option String) × Option FieldType
def Ev (K : cx_K) (M : ev_M) (S : am_S) (g : Nat) (o : am_O) (h' : List va_E) (g' : Nat) : Prop := ∃ n, am_E M.1 M.2.1 M.2.2.1 M.2.2.2.1 M.2.2.2.2.1 M.2.2.2.2.2 (Ct K) n S g o h' g'
theorem Ct_of {K : cx_K} {x : Nat} {ins : Nat → Option (Instr × Nat)} {fld : Nat → Option (Nat × Nat × Nat)} {cst : Nat → Option Value} {site : Nat → Option (Nat × Nat × Nat × Nat)} {rt : Option FieldType} {mL : Nat} {As : List Value} {h h' : List va_E} {o : am_O} {g' : Nat} (hK : cx_ok K) (hok : am_ok nm_Ts nm_Tn nd_cl nd_mt nd_fr nd_lo x ins fld cst site) (hm : (nd_mt x).2.2.1 = mL) (hr : (nd_mt x).2.2.2 = rt) (hn : (am_ent As).length ≤ mL) (hl : h'.length ≤ 1000000)
    (ev : Ev K (ins, fld, cst, site, fun _ => none, rt) (0, am_entry As mL, [], h) 0 o h' g') : Ct K x As h o h' g' := by
  subst hm
  subst hr
  obtain ⟨t0, t1, t2, hX, hD⟩ := hK
  obtain ⟨n, hE⟩ := ev
  exact ⟨am_meets hok nm_good t0 t1 t2 hX (fun y As h o1 h1 g1 hc => hc) hn hE, hD h' hl⟩
section EV
variable {K : cx_K} {M : ev_M} {pc g : Nat} {L : List (Option Value)} {st : List Value} {h : List va_E} {o : am_O} {h' : List va_E} {g' : Nat}
theorem Ev_n {S S' : am_S} (hn : am_n M.1 M.2.1 M.2.2.1 S = some S') (ev : Ev K M S' g o h' g') : Ev K M S g o h' g' := by
  obtain ⟨n, hE⟩ := ev
  exact ⟨n + 1, Or.inl ⟨S', hn, hE⟩⟩
/-- so many steps that touch no cell -/
def am_ps (ins : Nat → Option (Instr × Nat)) : Nat → am_cfg → Option am_cfg
  | 0, c => some c
  | k + 1, c => match ins c.1 with
    | none => none
    | some (i, n) => match am_p i n c.1 c.2.1 c.2.2 with
      | none => none
      | some c' => am_ps ins k c'
theorem Ev_p (k : Nat) {c' : am_cfg} (hp : am_ps M.1 k (pc, L, st) = some c') (ev : Ev K M (c'.1, c'.2.1, c'.2.2, h) g o h' g') : Ev K M (pc, L, st, h) g o h' g' := by
  induction k generalizing pc L st with
  | zero => cases hp; exact ev
  | succ k ih =>
    unfold am_ps at hp
    split at hp
    · cases hp
    · next i n hi =>
      split at hp
      · cases hp
      · next c1 h1 =>
        refine Ev_n (S' := (c1.1, c1.2.1, c1.2.2, h)) ?_ (ih hp)
        have hi' : M.1 pc = some (i, n) := hi
        have h1' : am_p i n pc L st = some c1 := h1
        unfold am_n
        simp only [hi', h1']
/-- a branch -/
theorem Ev_b {b : Prop} [Decidable b] {c1 c2 : am_cfg} {i : Instr} {n : Nat} (hi : M.1 pc = some (i, n)) (hp : am_p i n pc L st = if b then some c1 else some c2) (e1 : b → Ev K M (c1.1, c1.2.1, c1.2.2, h) g o h' g') (e2 : ¬ b → Ev K M (c2.1, c2.2.1, c2.2.2, h) g o h' g') : Ev K M (pc, L, st, h) g o h' g' := by
  by_cases hb : b
  · rw [if_pos hb] at hp
    refine Ev_n ?_ (e1 hb)
    unfold am_n
    simp only [hi, hp]
  · rw [if_neg hb] at hp
    refine Ev_n ?_ (e2 hb)
    unfold am_n
    simp only [hi, hp]
theorem Ev_get {ix ci f k kd : Nat} {fs : List Value} {v : Value} (hi : M.1 pc = some (.getfield ix, 3)) (hf : M.2.1 ix = some (ci, f, kd)) (hh : h[k]? = some (.inr (ci, fs))) (hv : fs[f]? = some v) (ev : Ev K M (pc + 3, L, v :: st, h) g o h' g') : Ev K M (pc, L, .ref k :: st, h) g o h' g' := by
  refine Ev_n ?_ ev
  unfold am_n
  simp only [hi]
  have e1 : am_p (.getfield ix) 3 pc L (.ref k :: st) = none := rfl
  simp only [e1, am_hA, hf, hh, hv, if_true]
theorem Ev_put {ix ci f k kd : Nat} {fs : List Value} {v : Value} (hi : M.1 pc = some (.putfield ix, 3)) (hf : M.2.1 ix = some (ci, f, kd)) (hh : h[k]? = some (.inr (ci, fs))) (hl : f < fs.length) (hfit : am_fit kd v = true) (ev : Ev K M (pc + 3, L, st, h.set k (.inr (ci, fs.set f v))) g o h' g') : Ev K M (pc, L, v :: .ref k :: st, h) g o h' g' := by
  refine Ev_n ?_ ev
  unfold am_n
  simp only [hi]
  have e1 : am_p (.putfield ix) 3 pc L (v :: .ref k :: st) = none := rfl
  simp only [e1, am_hA, hf, hh, hl, hfit, and_self, if_true]
theorem Ev_ild {k n : Nat} {j : Int32} {f : Nat → Int32} (hi : M.1 pc = some (.iaload, 1)) (hh : h[k]? = some (.inl (0, n, .inl f))) (hin : ¬ (j < 0 ∨ n ≤ j.toNatClampNeg)) (ev : Ev K M (pc + 1, L, .int (f j.toNatClampNeg) :: st, h) g o h' g') : Ev K M (pc, L, .int j :: .ref k :: st, h) g o h' g' := by
  refine Ev_n ?_ ev
  unfold am_n
  simp only [hi]
  have e1 : am_p .iaload 1 pc L (.int j :: .ref k :: st) = none := rfl
  have e2 : am_hA M.2.1 .iaload 1 pc L (.int j :: .ref k :: st) h = none := rfl
  simp only [e1, e2, am_hB, hh, hin, not_false_eq_true, if_true]
theorem Ev_ist {k n : Nat} {j x : Int32} {f : Nat → Int32} (hi : M.1 pc = some (.iastore, 1)) (hh : h[k]? = some (.inl (0, n, .inl f))) (hin : ¬ (j < 0 ∨ n ≤ j.toNatClampNeg)) (ev : Ev K M (pc + 1, L, st, h.set k (.inl (0, n, .inl (upd f j.toNatClampNeg x)))) g o h' g') : Ev K M (pc, L, .int x :: .int j :: .ref k :: st, h) g o h' g' := by
  refine Ev_n ?_ ev
  unfold am_n
  simp only [hi]
  have e1 : am_p .iastore 1 pc L (.int x :: .int j :: .ref k :: st) = none := rfl
  have e2 : am_hA M.2.1 .iastore 1 pc L (.int x :: .int j :: .ref k :: st) h = none := rfl
  simp only [e1, e2, am_hB, hh, hin, not_false_eq_true, if_true]
theorem Ev_len {k n : Nat} {f : Nat → Int32} (hi : M.1 pc = some (.arraylength, 1)) (hh : h[k]? = some (.inl (0, n, .inl f))) (ev : Ev K M (pc + 1, L, .int (nI n) :: st, h) g o h' g') : Ev K M (pc, L, .ref k :: st, h) g o h' g' := by
  refine Ev_n (S' := (pc + 1, L, .int (nI n) :: st, h)) ?_ ev
  unfold am_n
  simp only [hi]
  have e1 : am_p .arraylength 1 pc L (.ref k :: st) = none := rfl
  have e2 : am_hA M.2.1 .arraylength 1 pc L (.ref k :: st) h = none := rfl
  simp only [e1, e2, am_hB, hh]
  rfl
theorem Ev_w {L' : List (Option Value)} (hl : am_le L' L) (ev : Ev K M (pc, L', st, h) g o h' g') : Ev K M (pc, L, st, h) g o h' g' := by
  obtain ⟨n, hE⟩ := ev
  exact ⟨n + 1, Or.inr (Or.inl ⟨L', hl, hE⟩)⟩
theorem Ev_call {ix kd y k ci g1 : Nat} {v : Option Value} {h1 : List va_E} (hs : am_site M.1 M.2.2.2.1 (pc, L, st, h) = some (ix, kd, y, k, ci)) (hk : k ≤ st.length) (hw : ((st.drop k).map fun v => v.category).sum ≤ 8) (hc : Ct K y (st.take k).reverse h (.inl v) h1 g1) (ev : Ev K M (pc + 3, L, v.toList ++ st.drop k, h1) (g + g1) o h' g') : Ev K M (pc, L, st, h) g o h' g' := by
  obtain ⟨n, hE⟩ := ev
  exact ⟨n + 1, Or.inr (Or.inr (Or.inl ⟨ix, kd, y, k, ci, v, h1, g1, hs, hk, hw, hc, hE⟩))⟩
theorem Ev_callx {ix kd y k ci g1 : Nat} {E : String} {h1 : List va_E} (hs : am_site M.1 M.2.2.2.1 (pc, L, st, h) = some (ix, kd, y, k, ci)) (hk : k ≤ st.length) (hw : ((st.drop k).map fun v => v.category).sum ≤ 8) (hc : Ct K y (st.take k).reverse h (.inr E) h1 g1) : Ev K M (pc, L, st, h) g (.inr E) h1 (g + g1) :=
  ⟨1, Or.inr (Or.inr (Or.inr (Or.inl ⟨ix, kd, y, k, ci, E, h1, g1, hs, hk, hw, hc, rfl, rfl, rfl⟩)))⟩
theorem Ev_r {v : Option Value} (hr : am_ret M.1 M.2.2.2.2.2 (pc, L, st, h) = some v) : Ev K M (pc, L, st, h) g (.inl v) h g := ⟨1, Or.inr (Or.inr (Or.inr (Or.inr (Or.inl ⟨v, hr, rfl, rfl, rfl⟩))))⟩
theorem Ev_thr {E : String} (hr : am_thr M.1 M.2.2.2.2.1 (pc, L, st, h) = some E) : Ev K M (pc, L, st, h) g (.inr E) h (g + 1) := ⟨1, Or.inr (Or.inr (Or.inr (Or.inr (Or.inr ⟨E, hr, rfl, rfl, rfl⟩))))⟩
end EV

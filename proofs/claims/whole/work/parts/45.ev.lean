/-! Going through a method: rules for its stretches. -/
/-- a method's tables: instructions, fields, constants, calls, exceptions, the kind of its answer -/
abbrev ev_M : Type := (Nat → Option (Instr × Nat)) × (Nat → Option (Nat × Nat × Nat)) × (Nat → Option Value) × (Nat → Option (Nat × Nat × Nat × Nat)) × (Nat × Nat → Option String) × Option FieldType
def Ev (K : cx_K) (M : ev_M) (S : am_S) (g : Nat) (o : am_O) (h' : List va_E) (g' : Nat) : Prop := ∃ n, am_E M.1 M.2.1 M.2.2.1 M.2.2.2.1 M.2.2.2.2.1 M.2.2.2.2.2 (Ct K) n S g o h' g'
theorem Ct_of {K : cx_K} {x : Nat} {ins : Nat → Option (Instr × Nat)} {fld : Nat → Option (Nat × Nat × Nat)} {cst : Nat → Option Value} {site : Nat → Option (Nat × Nat × Nat × Nat)} {rt : Option FieldType} {mL : Nat} {As : List Value} {h h' : List va_E} {o : am_O} {g' : Nat} (hK : Kok K) (hok : am_ok nm_Ts nm_Tn nd_cl nd_mt nd_fr nd_lo x ins fld cst site) (hm : (nd_mt x).2.2.1 = mL) (hr : (nd_mt x).2.2.2 = rt) (hn : (am_ent As).length ≤ mL) (hl : h'.length ≤ 1000000)
    (ev : Ev K (ins, fld, cst, site, fun _ => none, rt) (0, am_entry As mL, [], h) 0 o h' g') : Ct K x As h o h' g' := by
  subst hm
  subst hr
  have t3 := cx_t3 hK
  obtain ⟨t0, t1, t2, -, -, hX, -, hD, -⟩ := hK
  obtain ⟨n, hE⟩ := ev
  exact ⟨am_meets hok nm_good t0 t1 t2 t3 hX (fun y As h o1 h1 g1 hc => hc) hn hE, hD h' hl⟩
/-- a method that throws something itself -/
theorem Ct_ofX {K : cx_K} {x : Nat} {ins : Nat → Option (Instr × Nat)} {fld : Nat → Option (Nat × Nat × Nat)} {cst : Nat → Option Value} {site : Nat → Option (Nat × Nat × Nat × Nat)} {exc : Nat × Nat → Option String} {rt : Option FieldType} {mL : Nat} {As : List Value} {h h' : List va_E} {o : am_O} {g' : Nat} (hK : Kok K) (hok : am_ok nm_Ts nm_Tn nd_cl nd_mt nd_fr nd_lo x ins fld cst site) (hXw : am_Xw (nd_mt x).1.cls nm_Ts nm_Tn (nd_fr x) (nd_lo x) exc) (hm : (nd_mt x).2.2.1 = mL) (hr : (nd_mt x).2.2.2 = rt) (hn : (am_ent As).length ≤ mL) (hl : h'.length ≤ 1000000)
    (ev : Ev K (ins, fld, cst, site, exc, rt) (0, am_entry As mL, [], h) 0 o h' g') : Ct K x As h o h' g' := by
  subst hm
  subst hr
  have t3 := cx_t3 hK
  obtain ⟨t0, t1, t2, -, -, hX, -, hD, htr⟩ := hK
  obtain ⟨n, hE⟩ := ev
  exact ⟨am_meetsX hok hXw htr nm_good t0 t1 t2 t3 hX (fun y As h o1 h1 g1 hc => hc) hn hE, hD h' hl⟩
section EV
variable {K : cx_K} {M : ev_M} {pc g : Nat} {L : List (Option Value)} {st : List Value} {h : List va_E} {o : am_O} {h' : List va_E} {g' : Nat}
theorem Ev_n {S S' : am_S} (hn : am_n M.1 M.2.1 M.2.2.1 S = some S') (ev : Ev K M S' g o h' g') : Ev K M S g o h' g' := by
  obtain ⟨n, hE⟩ := ev
  exact ⟨n + 1, Or.inl ⟨S', hn, hE⟩⟩
theorem Ev_p (k : Nat) {c' : am_cfg} (hp : am_ps M.1 k (pc, L, st) = some c') (ev : Ev K M (c'.1, c'.2.1, c'.2.2, h) g o h' g') : Ev K M (pc, L, st, h) g o h' g' := by
  induction k generalizing pc L st with
  | zero => cases hp; exact ev
  | succ k ih =>
    unfold am_ps at hp
    split at hp
    · cases hp
    · next i n hi =>
      split at hp
      · cases hp
      · next c1 h1 =>
        refine Ev_n (S' := (c1.1, c1.2.1, c1.2.2, h)) ?_ (ih hp)
        have hi' : M.1 pc = some (i, n) := hi
        have h1' : am_p i n pc L st = some c1 := h1
        unfold am_n
        simp only [hi', h1']
/-- a branch -/
theorem Ev_b {b : Prop} [Decidable b] {c1 c2 : am_cfg} {i : Instr} {n : Nat} (hi : M.1 pc = some (i, n)) (hp : am_p i n pc L st = if b then some c1 else some c2) (e1 : b → Ev K M (c1.1, c1.2.1, c1.2.2, h) g o h' g') (e2 : ¬ b → Ev K M (c2.1, c2.2.1, c2.2.2, h) g o h' g') : Ev K M (pc, L, st, h) g o h' g' := by
  by_cases hb : b
  · rw [if_pos hb] at hp
    refine Ev_n ?_ (e1 hb)
    unfold am_n
    simp only [hi, hp]
  · rw [if_neg hb] at hp
    refine Ev_n ?_ (e2 hb)
    unfold am_n
    simp only [hi, hp]
theorem Ev_get {ix ci f k kd : Nat} {fs : List Value} {v : Value} (hi : M.1 pc = some (.getfield ix, 3)) (hf : M.2.1 ix = some (ci, f, kd)) (hh : h[k]? = some (.inr (ci, fs))) (hv : fs[f]? = some v) (ev : Ev K M (pc + 3, L, v :: st, h) g o h' g') : Ev K M (pc, L, .ref k :: st, h) g o h' g' := by
  refine Ev_n ?_ ev
  unfold am_n
  simp only [hi]
  have e1 : am_p (.getfield ix) 3 pc L (.ref k :: st) = none := rfl
  simp only [e1, am_hA, hf, hh, hv, if_true]
theorem Ev_put {ix ci f k kd : Nat} {fs : List Value} {v : Value} (hi : M.1 pc = some (.putfield ix, 3)) (hf : M.2.1 ix = some (ci, f, kd)) (hh : h[k]? = some (.inr (ci, fs))) (hl : f < fs.length) (hfit : am_fit kd v = true) (ev : Ev K M (pc + 3, L, st, h.set k (.inr (ci, fs.set f v))) g o h' g') : Ev K M (pc, L, v :: .ref k :: st, h) g o h' g' := by
  refine Ev_n ?_ ev
  unfold am_n
  simp only [hi]
  have e1 : am_p (.putfield ix) 3 pc L (v :: .ref k :: st) = none := rfl
  simp only [e1, am_hA, hf, hh, hl, hfit, and_self, if_true]
theorem Ev_ild {k n : Nat} {j : Int32} {f : Nat → Int32} (hi : M.1 pc = some (.iaload, 1)) (hh : h[k]? = some (.inl (0, n, .inl f))) (hin : ¬ (j < 0 ∨ n ≤ j.toNatClampNeg)) (ev : Ev K M (pc + 1, L, .int (f j.toNatClampNeg) :: st, h) g o h' g') : Ev K M (pc, L, .int j :: .ref k :: st, h) g o h' g' := by
  refine Ev_n ?_ ev
  unfold am_n
  simp only [hi]
  have e1 : am_p .iaload 1 pc L (.int j :: .ref k :: st) = none := rfl
  have e2 : am_hA M.2.1 .iaload 1 pc L (.int j :: .ref k :: st) h = none := rfl
  simp only [e1, e2, am_hB, hh, hin, not_false_eq_true, if_true]
theorem Ev_ist {k n : Nat} {j x : Int32} {f : Nat → Int32} (hi : M.1 pc = some (.iastore, 1)) (hh : h[k]? = some (.inl (0, n, .inl f))) (hin : ¬ (j < 0 ∨ n ≤ j.toNatClampNeg)) (ev : Ev K M (pc + 1, L, st, h.set k (.inl (0, n, .inl (upd f j.toNatClampNeg x)))) g o h' g') : Ev K M (pc, L, .int x :: .int j :: .ref k :: st, h) g o h' g' := by
  refine Ev_n ?_ ev
  unfold am_n
  simp only [hi]
  have e1 : am_p .iastore 1 pc L (.int x :: .int j :: .ref k :: st) = none := rfl
  have e2 : am_hA M.2.1 .iastore 1 pc L (.int x :: .int j :: .ref k :: st) h = none := rfl
  simp only [e1, e2, am_hB, hh, hin, not_false_eq_true, if_true]
theorem Ev_len {k n : Nat} {f : Nat → Int32} (hi : M.1 pc = some (.arraylength, 1)) (hh : h[k]? = some (.inl (0, n, .inl f))) (ev : Ev K M (pc + 1, L, .int (nI n) :: st, h) g o h' g') : Ev K M (pc, L, .ref k :: st, h) g o h' g' := by
  refine Ev_n (S' := (pc + 1, L, .int (nI n) :: st, h)) ?_ ev
  unfold am_n
  simp only [hi]
  have e1 : am_p .arraylength 1 pc L (.ref k :: st) = none := rfl
  have e2 : am_hA M.2.1 .arraylength 1 pc L (.ref k :: st) h = none := rfl
  simp only [e1, e2, am_hB, hh]
  rfl
theorem Ev_w {L' : List (Option Value)} (hl : am_le L' L) (ev : Ev K M (pc, L', st, h) g o h' g') : Ev K M (pc, L, st, h) g o h' g' := by
  obtain ⟨n, hE⟩ := ev
  exact ⟨n + 1, Or.inr (Or.inl ⟨L', hl, hE⟩)⟩
theorem Ev_call {ix kd y k ci g1 : Nat} {v : Option Value} {h1 : List va_E} (hs : am_site M.1 M.2.2.2.1 (pc, L, st, h) = some (ix, kd, y, k, ci)) (hk : k ≤ st.length) (hw : ((st.drop k).map fun v => v.category).sum ≤ 8) (hc : Ct K y (st.take k).reverse h (.inl v) h1 g1) (ev : Ev K M (pc + 3, L, v.toList ++ st.drop k, h1) (g + g1) o h' g') : Ev K M (pc, L, st, h) g o h' g' := by
  obtain ⟨n, hE⟩ := ev
  exact ⟨n + 1, Or.inr (Or.inr (Or.inl ⟨ix, kd, y, k, ci, v, h1, g1, hs, hk, hw, hc, hE⟩))⟩
theorem Ev_callx {ix kd y k ci g1 : Nat} {E : String} {h1 : List va_E} (hs : am_site M.1 M.2.2.2.1 (pc, L, st, h) = some (ix, kd, y, k, ci)) (hk : k ≤ st.length) (hw : ((st.drop k).map fun v => v.category).sum ≤ 8) (hc : Ct K y (st.take k).reverse h (.inr E) h1 g1) : Ev K M (pc, L, st, h) g (.inr E) h1 (g + g1) :=
  ⟨1, Or.inr (Or.inr (Or.inr (Or.inl ⟨ix, kd, y, k, ci, E, h1, g1, hs, hk, hw, hc, rfl, rfl, rfl⟩)))⟩
theorem Ev_r {v : Option Value} (hr : am_ret M.1 M.2.2.2.2.2 (pc, L, st, h) = some v) : Ev K M (pc, L, st, h) g (.inl v) h g := ⟨1, Or.inr (Or.inr (Or.inr (Or.inr (Or.inl ⟨v, hr, rfl, rfl, rfl⟩))))⟩
theorem Ev_thr {E : String} (hr : am_thr M.1 M.2.2.2.2.1 (pc, L, st, h) = some E) : Ev K M (pc, L, st, h) g (.inr E) h (g + 1) := ⟨1, Or.inr (Or.inr (Or.inr (Or.inr (Or.inr ⟨E, hr, rfl, rfl, rfl⟩))))⟩
end EV
/-! The machine as a program, for states that are known. -/
def am_l (call : Nat → List Value → List va_E → Option (am_O × List va_E × Nat)) (ins : Nat → Option (Instr × Nat)) (fld : Nat → Option (Nat × Nat × Nat)) (cst : Nat → Option Value) (site : Nat → Option (Nat × Nat × Nat × Nat)) (exc : Nat × Nat → Option String) (rt : Option FieldType) : Nat → am_S → Nat → Option (am_O × List va_E × Nat)
  | 0, _, _ => none
  | n + 1, S, g => match am_n ins fld cst S with
    | some S' => am_l call ins fld cst site exc rt n S' g
    | none => match am_site ins site S with
      | some (_, _, y, k, _) => if k ≤ S.2.2.1.length ∧ ((S.2.2.1.drop k).map fun v => v.category).sum ≤ 8 then (match call y (S.2.2.1.take k).reverse S.2.2.2 with
        | some (.inl v, h1, g1) => am_l call ins fld cst site exc rt n (S.1 + 3, S.2.1, v.toList ++ S.2.2.1.drop k, h1) (g + g1)
        | some (.inr E, h1, g1) => some (.inr E, h1, g + g1)
        | none => none) else none
      | none => match am_ret ins rt S with
        | some v => some (.inl v, S.2.2.2, g)
        | none => match am_thr ins exc S with
          | some E => some (.inr E, S.2.2.2, g + 1)
          | none => none
theorem am_l_ok {call : Nat → List Value → List va_E → Option (am_O × List va_E × Nat)} {ins : Nat → Option (Instr × Nat)} {fld : Nat → Option (Nat × Nat × Nat)} {cst : Nat → Option Value} {site : Nat → Option (Nat × Nat × Nat × Nat)} {exc : Nat × Nat → Option String} {rt : Option FieldType} {Cr : Nat → List Value → List va_E → am_O → List va_E → Nat → Prop}
    (hc : ∀ y As h o h1 g1, call y As h = some (o, h1, g1) → Cr y As h o h1 g1) {o : am_O} {h' : List va_E} {g' : Nat} : ∀ n S g, am_l call ins fld cst site exc rt n S g = some (o, h', g') → am_E ins fld cst site exc rt Cr n S g o h' g' := by
  intro n
  induction n with
  | zero => intro S g h; cases h
  | succ n ih =>
    intro S g h
    unfold am_l at h
    split at h
    · next S' hS => exact Or.inl ⟨S', hS, ih _ _ h⟩
    · split at h
      · next ix kd y k ci hs =>
        split at h
        · next hk =>
          split at h
          · next v h1 g1 hw => exact Or.inr (Or.inr (Or.inl ⟨ix, kd, y, k, ci, v, h1, g1, hs, hk.1, hk.2, hc _ _ _ _ _ _ hw, ih _ _ h⟩))
          · next E h1 g1 hw =>
            cases h
            exact Or.inr (Or.inr (Or.inr (Or.inl ⟨ix, kd, y, k, ci, _, _, _, hs, hk.1, hk.2, hc _ _ _ _ _ _ hw, rfl, rfl, rfl⟩)))
          · cases h
        · cases h
      · split at h
        · next v hv => cases h; exact Or.inr (Or.inr (Or.inr (Or.inr (Or.inl ⟨v, hv, rfl, rfl, rfl⟩))))
        · split at h
          · next E hE => cases h; exact Or.inr (Or.inr (Or.inr (Or.inr (Or.inr ⟨E, hE, rfl, rfl, rfl⟩))))
          · cases h

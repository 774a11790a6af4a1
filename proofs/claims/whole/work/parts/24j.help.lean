/-! The law's helpers: the class's method is called; its answer is laid down, or its exception turned into a number. -/
/-- C is no T -/
def sx_na (C T : String) (U : State) : Prop := ∃ c t, U.vm.findClass C = some c ∧ U.vm.findClass T = some t ∧ U.vm.assignable c t = false
theorem sx_na_of {C T : String} {s : State} {a : Array Value} (h : (Cond.not (.castable C T)).before a s = true) : sx_na C T s := by
  simp only [Cond.before, Cond.holds, Cond.value] at h
  cases hc : s.vm.findClass C with
  | none => simp [hc] at h
  | some c =>
    cases ht : s.vm.findClass T with
    | none => simp [hc, ht] at h
    | some t =>
      simp [hc, ht] at h
      exact ⟨c, t, hc, ht, h⟩
theorem sx_na_mv {C T : String} {s U : State} (hvm : s.vm.Alike U.vm) (h : sx_na C T s) : sx_na C T U := by
  obtain ⟨c, t, h1, h2, h3⟩ := h
  exact ⟨c, t, (hvm.findClass C none).trans h1, (hvm.findClass T none).trans h2, by rw [hvm.assignable]; exact h3⟩
def hx_E (k : Nat) : String := match k with
  | 0 => "java/lang/IllegalArgumentException"
  | 1 => "java/lang/IndexOutOfBoundsException"
  | 2 => "java/lang/IllegalStateException"
  | _ => "java/lang/UnsupportedOperationException"
/-- of the four exceptions none is another's kind, as far as the helpers ask -/
def hx_pairs : List (String × String) := [(hx_E 1, hx_E 0), (hx_E 0, hx_E 2), (hx_E 2, hx_E 0), (hx_E 3, hx_E 0), (hx_E 3, hx_E 2)]
def hx_no (K : cx_K) : Prop := ∀ U, K.2.2.2.2.2.2.1 U → ∀ q ∈ hx_pairs, sx_na q.1 q.2 U
/-- which handler takes the exception E thrown at pc: the rows with the names of their classes -/
def hx_rows (E : String) (pc : Nat) : List ((Nat × Nat × Nat × Nat) × String) → Nat → Prop
  | [], _ => False
  | (x, T) :: r, to => x.1 ≤ pc ∧ pc < x.2.1 ∧ x.2.2.2 ≠ 0 ∧ Cond.classLink R_law x.2.2.2 T ∈ nm_Ts ∧ ((E = T ∧ Cond.castable E E ∈ nm_Tn ∧ to = x.2.2.1) ∨ ((E, T) ∈ hx_pairs ∧ hx_rows E pc r to))
theorem hx_rows_ok {l : Launch} {e : Env} {s : State} {a : Array Value} {d cE : ClassId} {E : String} {pc to : Nat} (he : l.admits e) (hd : s.vm.findClass R_law = some d) (hE : s.vm.findClass E = some cE) (hts : ∀ w ∈ nm_Ts, w.before a s = true) (htn : ∀ w ∈ nm_Tn, w.before a s = true) (hno : ∀ q ∈ hx_pairs, sx_na q.1 q.2 s) :
    ∀ (tb : List ExceptionTableEntry) (rs : List ((Nat × Nat × Nat × Nat) × String)), tb.map (fun h => (h.startPc, h.endPc, h.handlerPc, h.catchType)) = rs.map (fun q => q.1) → hx_rows E pc rs to → ax_rows e.platform s d pc cE tb to := by
  have hpl : e.platform.magicAccessors = ({} : Platform).magicAccessors := by rw [he.platform]
  intro tb
  induction tb with
  | nil =>
    intro rs h1 h2
    cases rs with
    | nil => exact h2
    | cons x r => cases h1
  | cons x t ih =>
    intro rs h1 h2
    cases rs with
    | nil => cases h1
    | cons y r =>
      obtain ⟨y, T⟩ := y
      simp only [List.map_cons, List.cons.injEq] at h1
      obtain ⟨rfl, h1⟩ := h1
      obtain ⟨g1, g2, g3, g4, g5⟩ := h2
      obtain ⟨k, hk, hl⟩ := Cond.classLink_spec hd (hts _ g4) e.platform hpl
      refine ⟨by simp only [covers, Bool.and_eq_true, decide_eq_true_eq]; exact ⟨g1, g2⟩, g3, k, hl, ?_⟩
      rcases g5 with ⟨rfl, g6, g7⟩ | ⟨g6, g7⟩
      · obtain ⟨c1, t1, f1, f2, f3⟩ := Cond.castable_spec (htn _ g6)
        rw [hE] at f1
        rw [hk] at f2
        cases f1
        cases f2
        exact Or.inl ⟨f3, g7⟩
      · obtain ⟨c1, t1, f1, f2, f3⟩ := hno _ g6
        simp only at f1 f2
        rw [hE] at f1
        rw [hk] at f2
        cases f1
        cases f2
        exact Or.inr ⟨f3, ih r h1 g7⟩
section HX
variable {K : cx_K} {y : MethodName} {bytes : ByteArray} {maxL : Nat} {hh : List (Nat × Nat × Nat × Nat)} {LI : List (Nat × Instr × Nat)} {LS : List nm_S} {As : List Value} {h h1 : List va_E}
/-- the way to the call, and the call -/
theorem hx_go (hK : Kok K) (hyc : y.cls = R_law) (hI : am_ic bytes LI = true) (hS : LS.all (nm_schk nd_ct nd_ml R_law) = true) (hn : (am_ent As).length ≤ maxL) {n0 : Nat} {c1 : am_cfg} (h0 : am_ps (am_in LI) n0 (0, am_entry As maxL, []) = some c1) {ix kd yM k ci g : Nat} {o : am_O} (hs : am_site (am_in LI) (am_sl nd_ml LS) (c1.1, c1.2.1, c1.2.2, h) = some (ix, kd, yM, k, ci)) (hsl : am_sl nd_ml LS ix = some (kd, yM, k, ci)) (hk : k ≤ c1.2.2.length) (hw8 : ((c1.2.2.drop k).map fun v => v.category).sum ≤ 8) (hrm : nd_fr yM + 1 ≤ 13 ∧ 8 + ((nd_mt yM).2.2.1 + 11) + nd_lo yM ≤ 515 - maxL) (hc : Ct K yM (c1.2.2.take k).reverse h o h1 g) {rk : Int32} {h' : List va_E} (hD' : va_D K.2.2.2.2.1 (am_ws K.2.1 K.2.2.1 h'))
    (kr : ∀ (p : Program) (e : Env) (s : State) (m : MethodId) (args : Array Value) (below : List Frame) (meth : Method) (c : Code), p.tables.exec = Jvm.exec → c.code = bytes → meth.sig.returnType = some .int → meth.locks = false → s.vm.findClass R_law = some m.cls → (∀ w ∈ nm_Ts, w.before args s = true) → va_K K.2.2.2.1 nd_cl K.2.2.2.2.2.1 s → K.2.2.2.2.2.2.1 s → c.exceptionTable.toList.map (fun h => (h.startPc, h.endPc, h.handlerPc, h.catchType)) = hh →
      (∀ v, o = .inl v → ∀ ls H locs, am_at K.2.1 K.2.2.1 K.2.2.2.1 nd_cl K.2.2.2.2.1 s.heap maxL (c1.1 + 3, c1.2.1, v.toList ++ c1.2.2.drop k, h1) ls H locs → W p K.1 e { frames := 13, cells := g, slots := 6 * g, locals := 515 - maxL } s m args below meth c H locs g (6 * g) (ax_E below (am_Qx K.2.2.2.1 nd_cl K.2.1 K.2.2.1 K.2.2.2.2.1 (.inl (some (.int rk))) h') args s g (6 * g) K.2.2.2.2.1) (F0 m (c1.1 + 3) ls ((v.toList ++ c1.2.2.drop k).map (am_v K.2.1)))) ∧
      (∀ E, o = .inr E → ∀ (q : Addr) (ce : Cell) ls H locs, am_has K.2.1 ls maxL c1.2.1 → va_P K.2.2.2.1 nd_cl (am_ws K.2.1 K.2.2.1 h1) H → va_S K.2.2.2.2.1 s.heap H locs → H[q]? = some ce → ce.vm = .none → s.vm.findClass E = some ce.cls → ax_T p K.1 e { frames := 13, cells := g, slots := 6 * g, locals := 515 - maxL } s m args below meth c H locs g (6 * g) (ax_E below (am_Qx K.2.2.2.1 nd_cl K.2.1 K.2.2.1 K.2.2.2.2.1 (.inl (some (.int rk))) h') args s g (6 * g) K.2.2.2.2.1) (F0 m c1.1 ls ((c1.2.2.drop k).map (am_v K.2.1))) q)) :
    Hc K y bytes maxL hh As h rk h' g := by
  have t3 := cx_t3 hK
  obtain ⟨t0, t1, t2, t33, t44, ⟨x1, x2, x3⟩, had, hD9, -⟩ := hK
  refine ⟨?_, hD'⟩
  refine ax_ofWH (cc := bytes) (maxL := maxL) (ret := some .int) (hh := hh) (by rw [hyc]; decide +kernel) rfl ?_
  intro p e s m args below meth c s₁ B hml hht hv
  obtain ⟨rfl, hP, hD, hKs, hXs⟩ := hv
  have hts0 := atoms_spec (ws := Cond.codeWith y bytes maxL (some .int) hh :: nm_Ts) B.pre
  have hts : ∀ w ∈ nm_Ts, w.before ((As.map (am_v K.2.1)).toArray) s = true := fun w hw => hts0 w (List.mem_cons_of_mem _ hw)
  have hown : s.vm.findClass R_law = some m.cls := by rw [← hyc]; exact findClass_of_methodNamed B.named
  have hl := lv_entry (As.map (am_v K.2.1)) (n := maxL) (by rw [am_ent_len]; exact hn)
  rw [lg_entry_eq]
  generalize (lg_sl (As.map (am_v K.2.1)) ++ List.replicate (maxL - (lg_sl (As.map (am_v K.2.1))).length) Slot.unset).toArray = ls at hl ⊢
  have hL := am_has_entry hn hl
  have hins := am_in_ok hI
  obtain ⟨kr1, kr2⟩ := kr p e s m _ below meth c B.exec B.bytes B.returns B.notSynchronized hown hts hKs hXs hht
  have hgo : ∀ (n : Nat) (c0 : am_cfg) (ls : Array Slot), am_ps (am_in LI) n c0 = some c1 → am_has K.2.1 ls maxL c0.2.1 → W p K.1 e { frames := 13, cells := g, slots := 6 * g, locals := 515 - maxL } s m (As.map (am_v K.2.1)).toArray below meth c s.heap [] 0 0 (ax_E below (am_Qx K.2.2.2.1 nd_cl K.2.1 K.2.2.1 K.2.2.2.2.1 (.inl (some (.int rk))) h') (As.map (am_v K.2.1)).toArray s g (6 * g) K.2.2.2.2.1) (F0 m c0.1 ls (c0.2.2.map (am_v K.2.1))) := by
    intro n
    induction n with
    | zero =>
      intro c0 ls hp hL0
      cases hp
      refine am_call_ok (S := (c1.1, c1.2.1, c1.2.2, h)) (own := R_law) (nL := maxL) (Ts := nm_Ts) (Tn := nm_Tn) (XX := K.2.2.2.2.2.2.1) (mt := nd_mt) (rm := am_rm nd_fr nd_lo yM g) (mc := g) (ms := 6 * g) B.exec B.bytes hml hown hts nm_good (fun w hw => x3 s hXs w hw _) hKs hins (nm_sok hS) x1 (fun U _ hW hF => x2 s U hXs hW hF) ⟨hL0, hP, hD, va_S.rf⟩ hs hk hw8 hc.1 rfl rfl hrm.1 hrm.2 (by show 0 + g ≤ g; omega) (by show 0 + 6 * g ≤ 6 * g; omega) hc.2 ?_ ?_
      · intro v hv H1 locs1 h2
        rw [Nat.zero_add, Nat.zero_add]
        exact kr1 v hv ls H1 locs1 h2
      · intro E hE q ce H1 locs1 a1 a2 a3 a4 a5
        rw [Nat.zero_add, Nat.zero_add]
        exact kr2 E hE q ce ls H1 locs1 hL0 a1 a2 a3 a4 a5
    | succ n ih =>
      intro c0 ls hp hL0
      unfold am_ps at hp
      split at hp
      · cases hp
      · next i w hi =>
        split at hp
        · cases hp
        · next c2 h2 => exact am_p_ok B.exec B.bytes hL0 (hins _ _ _ hi) h2 (fun ls' hL' => ih c2 ls' hp hL')
  exact hgo n0 (0, am_entry As maxL, []) ls h0 hL
end HX

/-! String constants on the machine: the walk of a method said outright (Eu), so that steps beside the abstract machine's own can be taken in it: ldc of a String, calls of String's methods. -/
abbrev eu_m : Type := MethodName × ByteArray × Nat × Option FieldType
/-- where a walk stands: the method's class, bytes, tables, what is carried -/
def eu_C (K : cx_K) (mm : eu_m) (p : Program) (s : State) (m : MethodId) (args : Array Value) (meth : Method) (c : Code) : Prop :=
  p.tables.exec = Jvm.exec ∧ c.code = mm.2.1 ∧ c.maxLocals = mm.2.2.1 ∧ s.vm.findClass mm.1.cls = some m.cls ∧ (∀ w ∈ nm_Ts, w.before args s = true) ∧ va_K K.2.2.2.1 nd_cl K.2.2.2.2.2.1 s ∧ K.2.2.2.2.2.2.1 s ∧ meth.sig.returnType = mm.2.2.2 ∧ meth.locks = false ∧ c.exceptionTable.isEmpty = true ∧ meth.name = mm.1.name
/-- from S the method comes to its end o over the cells h' -/
def Eu (K : cx_K) (mm : eu_m) (R : Room) (S : am_S) (o : am_O) (h' : List va_E) : Prop :=
  ∀ (p : Program) (e : Env) (s : State) (m : MethodId) (args : Array Value) (below : List Frame) (meth : Method) (c : Code), eu_C K mm p s m args meth c → ∀ (ls : Array Slot) (H : Heap) (locs : List Loc), am_at K.2.1 K.2.2.1 K.2.2.2.1 nd_cl K.2.2.2.2.1 s.heap mm.2.2.1 S ls H locs →
    W p K.1 e R s m args below meth c H locs 0 0 (ax_E below (am_Qx K.2.2.2.1 nd_cl K.2.1 K.2.2.1 K.2.2.2.2.1 o h') args s 0 0 K.2.2.2.2.1) (F0 m S.1 ls (S.2.2.1.map (am_v K.2.1)))
/-- a method's promise, nothing thrown away -/
def Cu (K : cx_K) (mm : eu_m) (R : Room) (As : List Value) (h : List va_E) (o : am_O) (h' : List va_E) : Prop :=
  ax_Met K.1 mm.1 (Cond.code mm.1 mm.2.1 mm.2.2.1 mm.2.2.2 :: nm_Ts) R (am_Pc K.2.2.2.1 nd_cl K.2.2.2.2.2.1 K.2.1 K.2.2.1 K.2.2.2.2.1 K.2.2.2.2.2.2.1 As h) (am_Qx K.2.2.2.1 nd_cl K.2.1 K.2.2.1 K.2.2.2.2.1 o h') 0 0 K.2.2.2.2.1 ∧ va_D K.2.2.2.2.1 (am_ws K.2.1 K.2.2.1 h')
theorem Cu_of {K : cx_K} {mm : eu_m} {R : Room} {As : List Value} {h h' : List va_E} {o : am_O} (hK : Kok K) (hpl : plainName mm.1.cls = true) (hn : (am_ent As).length ≤ mm.2.2.1) (hl : h'.length ≤ 1000000) (ev : Eu K mm R (0, am_entry As mm.2.2.1, [], h) o h') : Cu K mm R As h o h' := by
  obtain ⟨t0, t1, t2, -, -, hX, -, hD9, -⟩ := hK
  refine ⟨ax_ofW (cc := mm.2.1) (maxL := mm.2.2.1) (ret := mm.2.2.2) hpl rfl ?_, hD9 h' hl⟩
  intro p e s m args below meth c s₁ B hml hnh hv
  obtain ⟨rfl, hP, hD, hKK, hXs⟩ := hv
  have hts0 := atoms_spec (ws := Cond.code mm.1 mm.2.1 mm.2.2.1 mm.2.2.2 :: nm_Ts) B.pre
  have hts : ∀ w ∈ nm_Ts, w.before ((As.map (am_v K.2.1)).toArray) s = true := fun w hw => hts0 w (List.mem_cons_of_mem _ hw)
  have hown : s.vm.findClass mm.1.cls = some m.cls := findClass_of_methodNamed B.named
  have hnm : meth.name = mm.1.name := (name_of_methodNamed B.named B.method).1
  have hl := lv_entry (As.map (am_v K.2.1)) (n := mm.2.2.1) (by rw [am_ent_len]; exact hn)
  rw [lg_entry_eq]
  generalize (lg_sl (As.map (am_v K.2.1)) ++ List.replicate (mm.2.2.1 - (lg_sl (As.map (am_v K.2.1))).length) Slot.unset).toArray = ls at hl ⊢
  have hL := am_has_entry hn hl
  exact ev p e s m _ below meth c ⟨B.exec, B.bytes, hml, hown, hts, hKK, hXs, B.returns, B.notSynchronized, hnh, hnm⟩ ls s.heap [] ⟨hL, hP, hD, va_S.rf⟩
/-- the String constants: where they stand, what they say -/
def js_ix : List Nat := [81, 87, 92, 98, 103, 105, 107, 109, 129, 137, 139]
def js_tx : List String := ["<t/>", "<t>", "</t>", "<s n=\"", "\" b=\"", "\" z=\"", "\" k=\"", "\"/>", "dpxli", " y=\"", "</"]
def js_b : List (List Int32) := [[60, 116, 47, 62], [60, 116, 62], [60, 47, 116, 62], [60, 115, 32, 110, 61, 34], [34, 32, 98, 61, 34], [34, 32, 122, 61, 34], [34, 32, 107, 61, 34], [34, 47, 62], [100, 112, 120, 108, 105], [32, 121, 61, 34], [60, 47]]
def js_len : List Nat := [4, 3, 4, 6, 5, 5, 5, 3, 5, 4, 2]
/-- the String constants lie at the places from 2000000 on, their letters from 3000000 on -/
def hx_st (K : cx_K) : Prop := ∀ U : State, K.2.2.2.2.2.2.1 U →
  (∀ i : Nat, i < 11 → vk_R "PaperParcels$Emitter" (js_ix.getD i 0) (js_tx.getD i "") (K.2.1 (2000000 + i)) U) ∧
  vk_S 11 js_len js_b (fun i => K.2.1 (2000000 + i)) (fun i => K.2.1 (3000000 + i)) K.2.2.2.2.1 U U.heap ∧
  va_Z "java/lang/String" "COMPACT_STRINGS" "Z" (.int 1) K.2.2.2.2.1 U U.heap ∧
  ∃ w : Value, (w = .null ∨ w = .ref 4000000) ∧ va_Z "jdk/internal/util/Preconditions" "SIOOBE_FORMATTER" "Ljava/util/function/BiFunction;" (am_v K.2.1 w) K.2.2.2.2.1 U U.heap
section EU
variable {K : cx_K} {mm : eu_m} {R : Room} {pc : Nat} {L : List (Option Value)} {st rest : List Value} {h h1 h' : List va_E} {o : am_O}
theorem Eu_p {LI : List (Nat × Instr × Nat)} (hI : am_ic mm.2.1 LI = true) (k : Nat) {c' : am_cfg} (hp : am_ps (am_in LI) k (pc, L, st) = some c') (ev : Eu K mm R (c'.1, c'.2.1, c'.2.2, h) o h') : Eu K mm R (pc, L, st, h) o h' := by
  induction k generalizing pc L st with
  | zero => cases hp; exact ev
  | succ k ih =>
    unfold am_ps at hp
    split at hp
    · cases hp
    · next i n hi =>
      split at hp
      · cases hp
      · next c1 h2 =>
        have ev1 := ih hp
        intro p e s m args below meth c hC ls H locs hat
        obtain ⟨hL, hP, hD, hS⟩ := hat
        exact am_p_ok hC.1 hC.2.1 hL (am_in_ok hI _ _ _ hi) h2 (fun ls' hL' => ev1 p e s m args below meth c hC ls' H locs ⟨hL', hP, hD, hS⟩)
theorem eu_K {p : Program} {e : Env} {s : State} {m : MethodId} {args : Array Value} {below : List Frame} {meth : Method} {c : Code} {ls : Array Slot} {H : Heap} {locs : List Loc} {v : Option Value} {a : Array Value} (hC : eu_C K mm p s m args meth c) (hat : am_at K.2.1 K.2.2.1 K.2.2.2.1 nd_cl K.2.2.2.2.1 s.heap mm.2.2.1 (pc, L, st, h) ls H locs) (hD1 : va_D K.2.2.2.2.1 (am_ws K.2.1 K.2.2.1 h1)) (ev : Eu K mm R (pc + 3, L, v.toList ++ rest, h1) o h') :
    ax_K p K.1 e R s m args below meth c H locs 0 0 (ax_E below (am_Qx K.2.2.2.1 nd_cl K.2.1 K.2.2.1 K.2.2.2.2.1 o h') args s 0 0 K.2.2.2.2.1) (am_Qx K.2.2.2.1 nd_cl K.2.1 K.2.2.1 K.2.2.2.2.1 (.inl v) h1) 0 0 K.2.2.2.2.1 pc ls (rest.map (am_v K.2.1)) a := by
  obtain ⟨hL, hP, hD, hS⟩ := hat
  have hS1 : ∀ (st t : State) (H1 : Heap) (L : List Loc), st.heap = H → va_F K.2.2.2.2.1 st t → t.heap = H1 → (∀ q ∈ L, K.2.2.2.2.1 q.base) → va_S K.2.2.2.2.1 s.heap H1 (locs ++ L) := fun st t H1 L e1 hF e2 hL1 => by
    obtain ⟨f1, f2⟩ := hF
    rw [e1, e2] at f1 f2
    refine ⟨Nat.le_trans hS.1 f1, fun q g1 g2 => (f2 q (Nat.lt_of_lt_of_le g1 hS.1) g2).trans (hS.2.1 q g1 g2), fun q hq => ?_⟩
    rcases List.mem_append.mp hq with h | h
    · exact hS.2.2 q h
    · exact hL1 q h
  refine ⟨fun v' st t H1 L1 e1 hW0 hq e2 hL1 => ?_, fun q st t H1 L1 e1 hW0 hq e2 hL1 => ?_⟩
  · obtain ⟨q1, q2, q3⟩ := hq
    cases q1
    have e3 : (v.map (am_v K.2.1)).toList ++ rest.map (am_v K.2.1) = (v.toList ++ rest).map (am_v K.2.1) := by cases v <;> simp
    rw [e3]
    exact ev p e s m args below meth c hC ls H1 _ ⟨hL, by rw [← e2]; exact q2, hD1, hS1 st t H1 L1 e1 q3 e2 hL1⟩
  · obtain ⟨q1, q2, q3⟩ := hq
    cases q1
/-- the words of a method of the JDK -/
def js_W (y : eu_m) (n : Nat) : Prop := Cond.code y.1 y.2.1 y.2.2.1 y.2.2.2 ∈ nm_Ts ∧ Cond.initialized y.1.cls ∈ nm_Ts ∧ (y.1.cls ≠ "java/lang/invoke/MethodHandle" ∧ y.1.cls ≠ "java/lang/invoke/VarHandle") ∧ (parseMethodDescriptor y.1.desc).map (fun d => d.parameters.length) = some n
theorem eu_ax {p : Program} {s : State} {m : MethodId} {args : Array Value} {meth : Method} {c : Code} {y : eu_m} {Ry : Room} {n : Nat} (hC : eu_C K mm p s m args meth c) (hw : js_W y n) (hfr : Ry.frames + 1 ≤ R.frames) (hlo : 8 + (y.2.2.1 + 11) + Ry.locals ≤ R.locals) : ax_C R s args y.1 y.2.1 y.2.2.1 y.2.2.2 (Cond.code y.1 y.2.1 y.2.2.1 y.2.2.2 :: nm_Ts) Ry n := by
  obtain ⟨w1, w2, w3, w4⟩ := hw
  have hts := hC.2.2.2.2.1
  refine ⟨fun w hw a' U hW => ?_, List.mem_cons_self, hts _ w1, hts _ w2, w3, fun sig h => ?_, hfr, hlo⟩
  · have hin : w ∈ nm_Ts := by
      rcases List.mem_cons.mp hw with rfl | hw
      · exact w1
      · exact hw
    exact word_at hW (good_of_word (nm_good w hin)) (hts w hin)
  · rw [h] at w4
    exact (Option.some.inj w4).symm
theorem eu_cat {ad : Nat → Nat} (h8 : (rest.map fun v => v.category).sum ≤ 8) : ((rest.map (am_v ad)).map fun v => v.category).sum ≤ 8 := by
  rw [List.map_map]
  have e1 : ((fun v => v.category) ∘ am_v ad) = fun v : Value => v.category := funext fun v => am_cat ad v
  rw [e1]
  exact h8
/-- a call on a String constant -/
theorem Eu_V {y : eu_m} {Ry : Room} {As : List Value} {v : Option Value} {n ix i : Nat} (hK : Kok K) (hst : hx_st K) (hi : i < 11) (hdg : decode mm.2.1 pc = .ok (.invokevirtual ix, 3)) (hw : js_W y n) (hln : Cond.methodLink mm.1.cls ix y.1 ∈ nm_Ts) (hin : Cond.instanceMethod y.1 ∈ nm_Ts) (hsel : Cond.selects "java/lang/String" y.1 y.1 ∈ nm_Ts) (hR : (Ry.frames + 1 ≤ R.frames ∧ 8 + (y.2.2.1 + 11) + Ry.locals ≤ R.locals) ∧ Ry.cells = 0 ∧ Ry.slots = 0) (hn : As.length = n) (h8 : (rest.map fun v => v.category).sum ≤ 8) (hc : Cu K y Ry (.ref (2000000 + i) :: As) h (.inl v) h1) (ev : Eu K mm R (pc + 3, L, v.toList ++ rest, h1) o h') : Eu K mm R (pc, L, As.reverse ++ .ref (2000000 + i) :: rest, h) o h' := by
  intro p e s m args below meth c hC ls H locs hat
  have hat0 := hat
  obtain ⟨hx, hb, hml, hown, hts, hKK, hXs, hret, hlk, hnh, hnm⟩ := id hC
  obtain ⟨hL, hP, hD, hS⟩ := hat
  obtain ⟨-, -, -, -, -, ⟨x1, x2, x3⟩, -, hD9, -⟩ := hK
  have hSt := (hst s hXs).2.1
  have hrc : ∃ cell : Cell, H[K.2.1 (2000000 + i)]? = some cell ∧ cell.vm.isStatics = false ∧ s.vm.findClass "java/lang/String" = some cell.cls := vk_recv (i := i) hSt hi hS
  have e0 : (As.reverse ++ Value.ref (2000000 + i) :: rest).map (am_v K.2.1) = (As.map (am_v K.2.1)).reverse ++ .ref (K.2.1 (2000000 + i)) :: rest.map (am_v K.2.1) := by simp [am_v]
  show W _ _ _ _ _ _ _ _ _ _ _ _ _ _ _ (F0 m pc ls ((As.reverse ++ Value.ref (2000000 + i) :: rest).map (am_v K.2.1)))
  rw [e0]
  exact ax_V hx hb hown (hL.1.trans hml.symm) hc.1 (eu_ax hC hw hR.1.1 hR.1.2) hR.2.1 hR.2.2 (hts _ hln) (hts _ hin) (hts _ hsel) hrc (Nat.zero_le _) (Nat.zero_le _) (by rw [List.length_map]; exact hn) (eu_cat h8) (am_Pc_blind x1) (fun U hU hW => ⟨rfl, by rw [hU]; exact hP, hD, va_K.moved hW.alike hKK, x2 s U hXs hW (hS.F hU)⟩) hdg (eu_K hC hat0 hc.2 ev)
/-- a static call -/
theorem Eu_S {y : eu_m} {Ry : Room} {As : List Value} {v : Option Value} {n ix : Nat} (hK : Kok K) (hdg : decode mm.2.1 pc = .ok (.invokestatic ix, 3)) (hw : js_W y n) (hln : Cond.methodLink mm.1.cls ix y.1 ∈ nm_Ts) (hsta : Cond.static y.1 ∈ nm_Ts) (hR : (Ry.frames + 1 ≤ R.frames ∧ 8 + (y.2.2.1 + 11) + Ry.locals ≤ R.locals) ∧ Ry.cells = 0 ∧ Ry.slots = 0) (hn : As.length = n) (h8 : (rest.map fun v => v.category).sum ≤ 8) (hc : Cu K y Ry As h (.inl v) h1) (ev : Eu K mm R (pc + 3, L, v.toList ++ rest, h1) o h') : Eu K mm R (pc, L, As.reverse ++ rest, h) o h' := by
  intro p e s m args below meth c hC ls H locs hat
  have hat0 := hat
  obtain ⟨hx, hb, hml, hown, hts, hKK, hXs, hret, hlk, hnh, hnm⟩ := id hC
  obtain ⟨hL, hP, hD, hS⟩ := hat
  obtain ⟨-, -, -, -, -, ⟨x1, x2, x3⟩, -, hD9, -⟩ := hK
  have e0 : (As.reverse ++ rest).map (am_v K.2.1) = (As.map (am_v K.2.1)).reverse ++ rest.map (am_v K.2.1) := by simp
  show W _ _ _ _ _ _ _ _ _ _ _ _ _ _ _ (F0 m pc ls ((As.reverse ++ rest).map (am_v K.2.1)))
  rw [e0]
  exact ax_S hx hb hown (hL.1.trans hml.symm) hc.1 (eu_ax hC hw hR.1.1 hR.1.2) hR.2.1 hR.2.2 (hts _ hln) (hts _ hsta) (Nat.zero_le _) (Nat.zero_le _) (by rw [List.length_map]; exact hn) (eu_cat h8) (am_Pc_blind x1) (fun U hU hW => ⟨rfl, by rw [hU]; exact hP, hD, va_K.moved hW.alike hKK, x2 s U hXs hW (hS.F hU)⟩) hdg (eu_K hC hat0 hc.2 ev)
/-- a String constant -/
theorem Eu_ldc {i ix : Nat} (hst : hx_st K) (hi : i < 11) (hix : js_ix.getD i 0 = ix) (hcl : mm.1.cls = "PaperParcels$Emitter") (hdg : decode mm.2.1 pc = .ok (.ldc ix, 2)) (ev : Eu K mm R (pc + 2, L, .ref (2000000 + i) :: st, h) o h') : Eu K mm R (pc, L, st, h) o h' := by
  intro p e s m args below meth c hC ls H locs hat
  have hown := hC.2.2.2.1
  rw [hcl] at hown
  have hZ := (hst s hC.2.2.2.2.2.2.1).1 i hi
  rw [hix] at hZ
  exact va_ldcS hC.1 hC.2.1 hown hZ hdg (ev p e s m args below meth c hC ls H locs hat)
/-- a field of a String constant -/
theorem Eu_gv {i ix : Nat} (hst : hx_st K) (hi : i < 11) (hln : Cond.fieldLink mm.1.cls ix "java/lang/String" "value" "[B" ∈ nm_Ts) (hdg : decode mm.2.1 pc = .ok (.getfield ix, 3)) (ev : Eu K mm R (pc + 3, L, .ref (3000000 + i) :: st, h) o h') : Eu K mm R (pc, L, .ref (2000000 + i) :: st, h) o h' := by
  intro p e s m args below meth c hC ls H locs hat
  have hSt := (hst s hC.2.2.2.2.2.2.1).2.1
  exact vk_getf hC.1 hC.2.1 (hSt.1 i hi).2.2.1 hat.2.2.2 hC.2.2.2.1 (hC.2.2.2.2.1 _ hln) (fun x q => q) hdg (ev p e s m args below meth c hC ls H locs hat)
theorem Eu_gc {i ix : Nat} (hst : hx_st K) (hi : i < 11) (hln : Cond.fieldLink mm.1.cls ix "java/lang/String" "coder" "B" ∈ nm_Ts) (hdg : decode mm.2.1 pc = .ok (.getfield ix, 3)) (ev : Eu K mm R (pc + 3, L, .int 0 :: st, h) o h') : Eu K mm R (pc, L, .ref (2000000 + i) :: st, h) o h' := by
  intro p e s m args below meth c hC ls H locs hat
  have hSt := (hst s hC.2.2.2.2.2.2.1).2.1
  exact vk_getf hC.1 hC.2.1 (hSt.1 i hi).2.1 hat.2.2.2 hC.2.2.2.1 (hC.2.2.2.2.1 _ hln) (fun x q => q) hdg (ev p e s m args below meth c hC ls H locs hat)
theorem Eu_tl {i : Nat} (hst : hx_st K) (hi : i < 11) (hdg : decode mm.2.1 pc = .ok (.arraylength, 1)) (ev : Eu K mm R (pc + 1, L, .int (nI (js_len.getD i 0)) :: st, h) o h') : Eu K mm R (pc, L, .ref (3000000 + i) :: st, h) o h' := by
  intro p e s m args below meth c hC ls H locs hat
  have hSt := (hst s hC.2.2.2.2.2.2.1).2.1
  exact va_tlen hC.1 hC.2.1 (hSt.1 i hi).2.2.2 hat.2.2.2 rfl hdg (ev p e s m args below meth c hC ls H locs hat)
theorem Eu_tb {i : Nat} {j : Int32} (hst : hx_st K) (hi : i < 11) (hin : vp_in j (js_len.getD i 0)) (hdg : decode mm.2.1 pc = .ok (.baload, 1)) (ev : Eu K mm R (pc + 1, L, .int ((js_b.getD i []).getD j.toNatClampNeg 0) :: st, h) o h') : Eu K mm R (pc, L, .int j :: .ref (3000000 + i) :: st, h) o h' := by
  intro p e s m args below meth c hC ls H locs hat
  have hSt := (hst s hC.2.2.2.2.2.2.1).2.1
  exact va_tb hC.1 hC.2.1 (hSt.1 i hi).2.2.2 hat.2.2.2 hin rfl hdg (ev p e s m args below meth c hC ls H locs hat)
/-- static fields -/
theorem Eu_cs {ix : Nat} (hst : hx_st K) (hln : Cond.fieldLink mm.1.cls ix "java/lang/String" "COMPACT_STRINGS" "Z" ∈ nm_Ts) (hdg : decode mm.2.1 pc = .ok (.getstatic ix, 3)) (ev : Eu K mm R (pc + 3, L, .int 1 :: st, h) o h') : Eu K mm R (pc, L, st, h) o h' := by
  intro p e s m args below meth c hC ls H locs hat
  exact va_gets hC.1 hC.2.1 (hst s hC.2.2.2.2.2.2.1).2.2.1 hat.2.2.2 hC.2.2.2.1 (hC.2.2.2.2.1 _ hln) (fun x q => q) hdg (ev p e s m args below meth c hC ls H locs hat)
theorem Eu_sf {ix : Nat} (hst : hx_st K) (hln : Cond.fieldLink mm.1.cls ix "jdk/internal/util/Preconditions" "SIOOBE_FORMATTER" "Ljava/util/function/BiFunction;" ∈ nm_Ts) (hdg : decode mm.2.1 pc = .ok (.getstatic ix, 3)) (ev : ∀ w : Value, (w = .null ∨ w = .ref 4000000) → Eu K mm R (pc + 3, L, w :: st, h) o h') : Eu K mm R (pc, L, st, h) o h' := by
  intro p e s m args below meth c hC ls H locs hat
  obtain ⟨w, hw, hZ⟩ := (hst s hC.2.2.2.2.2.2.1).2.2.2
  exact va_gets hC.1 hC.2.1 hZ hat.2.2.2 hC.2.2.2.1 (hC.2.2.2.2.1 _ hln) (fun x q => q) hdg (ev w hw p e s m args below meth c hC ls H locs hat)
theorem Eu_i2c {x v : Int32} (hv : (x.toUInt32 % 65536).toInt32 = v) (hdg : decode mm.2.1 pc = .ok (.i2c, 1)) (ev : Eu K mm R (pc + 1, L, .int v :: st, h) o h') : Eu K mm R (pc, L, .int x :: st, h) o h' := by
  intro p e s m args below meth c hC ls H locs hat
  exact lv_i2c hC.1 hC.2.1 hdg hv (ev p e s m args below meth c hC ls H locs hat)
/-- the ends -/
theorem Eu_rz {ty : FieldType} {x : Int32} (hdg : decode mm.2.1 pc = .ok (.ireturn, 1)) (hty : mm.2.2.2 = some ty) (hn : narrow ty (.int x) = .int x) : Eu K mm R (pc, L, [.int x], h) (.inl (some (.int x))) h := by
  intro p e s m args below meth c hC ls H locs hat
  obtain ⟨hx, hb, hml, hown, hts, hKK, hXs, hret, hlk, hnh, hnm⟩ := hC
  obtain ⟨hL, hP, hD, hS⟩ := hat
  exact ax_ret (W.zret (ty := ty) hx hb (hret.trans hty) hn (fun t ht _ => ⟨rfl, by rw [ht]; exact hP, hS.F ht⟩) (fun q hq => hS.2.2 q hq) hdg)
theorem Eu_rv (hdg : decode mm.2.1 pc = .ok (.return_, 1)) (hty : mm.2.2.2 = none) : Eu K mm R (pc, L, [], h) (.inl none) h := by
  intro p e s m args below meth c hC ls H locs hat
  obtain ⟨hx, hb, hml, hown, hts, hKK, hXs, hret, hlk, hnh, hnm⟩ := hC
  obtain ⟨hL, hP, hD, hS⟩ := hat
  exact ax_ret (W.vret hx hb (hret.trans hty) (fun t ht _ => ⟨rfl, by rw [ht]; exact hP, hS.F ht⟩) (fun q hq => hS.2.2 q hq) hdg)
end EU
/-! String's methods. -/
def js_cod : eu_m := (⟨"java/lang/String", "coder", "()B"⟩, prog_21_method_152_code, 1, some .byte)
def js_lat : eu_m := (⟨"java/lang/String", "isLatin1", "()Z"⟩, prog_21_method_154_code, 1, some .boolean)
def js_lng : eu_m := (⟨"java/lang/String", "length", "()I"⟩, prog_21_method_54_code, 1, some .int)
def js_pci : eu_m := (⟨"jdk/internal/util/Preconditions", "checkIndex", "(IILjava/util/function/BiFunction;)I"⟩, prog_27_method_11_code, 3, some .int)
def js_sci : eu_m := (⟨"java/lang/String", "checkIndex", "(II)V"⟩, prog_21_method_155_code, 2, none)
def js_lch : eu_m := (⟨"java/lang/StringLatin1", "charAt", "([BI)C"⟩, prog_22_method_2_code, 2, some .char)
def js_chr : eu_m := (⟨"java/lang/String", "charAt", "(I)C"⟩, prog_21_method_56_code, 2, some .char)
def js_rm (f lo : Nat) : Room := { frames := f, cells := 0, slots := 0, locals := lo }
theorem js_Wc : js_W js_cod 0 := ⟨nm_in (i := 1095) (by decide +kernel) rfl, nm_in (i := 137) (by decide +kernel) rfl, ⟨by decide +kernel, by decide +kernel⟩, by decide +kernel⟩
theorem js_Wt : js_W js_lat 0 := ⟨nm_in (i := 1105) (by decide +kernel) rfl, nm_in (i := 137) (by decide +kernel) rfl, ⟨by decide +kernel, by decide +kernel⟩, by decide +kernel⟩
theorem js_Wl : js_W js_lng 0 := ⟨nm_in (i := 1091) (by decide +kernel) rfl, nm_in (i := 137) (by decide +kernel) rfl, ⟨by decide +kernel, by decide +kernel⟩, by decide +kernel⟩
theorem js_Wp : js_W js_pci 3 := ⟨nm_in (i := 1116) (by decide +kernel) rfl, nm_in (i := 139) (by decide +kernel) rfl, ⟨by decide +kernel, by decide +kernel⟩, by decide +kernel⟩
theorem js_Ws : js_W js_sci 2 := ⟨nm_in (i := 1111) (by decide +kernel) rfl, nm_in (i := 137) (by decide +kernel) rfl, ⟨by decide +kernel, by decide +kernel⟩, by decide +kernel⟩
theorem js_Wh : js_W js_lch 2 := ⟨nm_in (i := 1108) (by decide +kernel) rfl, nm_in (i := 138) (by decide +kernel) rfl, ⟨by decide +kernel, by decide +kernel⟩, by decide +kernel⟩
theorem js_Wr : js_W js_chr 1 := ⟨nm_in (i := 1101) (by decide +kernel) rfl, nm_in (i := 137) (by decide +kernel) rfl, ⟨by decide +kernel, by decide +kernel⟩, by decide +kernel⟩
def js_Ic : List (Nat × Instr × Nat) := [(0, .getstatic 38, 3), (3, .ifCond .eq 10, 3), (6, .aload_n 0, 1), (7, .getfield 15, 3), (10, .goto 4, 3), (13, .iconst 1, 1), (14, .ireturn, 1)]
theorem js_Ic_ok : am_ic js_cod.2.1 js_Ic = true := by decide +kernel
def js_It : List (Nat × Instr × Nat) := [(0, .getstatic 38, 3), (3, .ifCond .eq 14, 3), (6, .aload_n 0, 1), (7, .getfield 15, 3), (10, .ifCond .ne 7, 3), (13, .iconst 1, 1), (14, .goto 4, 3), (17, .iconst 0, 1), (18, .ireturn, 1)]
theorem js_It_ok : am_ic js_lat.2.1 js_It = true := by decide +kernel
def js_Il : List (Nat × Instr × Nat) := [(0, .aload_n 0, 1), (1, .getfield 9, 3), (4, .arraylength, 1), (5, .aload_n 0, 1), (6, .invokevirtual 335, 3), (9, .ishr, 1), (10, .ireturn, 1)]
theorem js_Il_ok : am_ic js_lng.2.1 js_Il = true := by decide +kernel
def js_Ip : List (Nat × Instr × Nat) := [(0, .iload_n 0, 1), (1, .ifCond .lt 8, 3), (4, .iload_n 0, 1), (5, .iload_n 1, 1), (6, .if_icmp .lt 10, 3), (16, .iload_n 0, 1), (17, .ireturn, 1)]
theorem js_Ip_ok : am_ic js_pci.2.1 js_Ip = true := by decide +kernel
def js_Is : List (Nat × Instr × Nat) := [(0, .iload_n 0, 1), (1, .iload_n 1, 1), (2, .getstatic 1053, 3), (5, .invokestatic 1059, 3), (8, .pop, 1), (9, .return_, 1)]
theorem js_Is_ok : am_ic js_sci.2.1 js_Is = true := by decide +kernel
def js_Ih : List (Nat × Instr × Nat) := [(0, .iload_n 1, 1), (1, .aload_n 0, 1), (2, .arraylength, 1), (3, .invokestatic 9, 3), (6, .aload_n 0, 1), (7, .iload_n 1, 1), (8, .baload, 1), (9, .sipush 255, 3), (12, .iand, 1), (13, .i2c, 1), (14, .ireturn, 1)]
theorem js_Ih_ok : am_ic js_lch.2.1 js_Ih = true := by decide +kernel
def js_Ir : List (Nat × Instr × Nat) := [(0, .aload_n 0, 1), (1, .invokevirtual 492, 3), (4, .ifCond .eq 12, 3), (7, .aload_n 0, 1), (8, .getfield 9, 3), (11, .iload_n 1, 1), (12, .invokestatic 495, 3), (15, .ireturn, 1)]
theorem js_Ir_ok : am_ic js_chr.2.1 js_Ir = true := by decide +kernel
theorem js_l6 : ∀ i, i < 11 → js_len.getD i 0 = (js_b.getD i []).length ∧ js_len.getD i 0 ≤ 6 := by decide
section JS
variable {K : cx_K} {h : List va_E} {i : Nat}
theorem js_cod_ok (hK : Kok K) (hst : hx_st K) (hi : i < 11) (hl : h.length ≤ 1000000) : Cu K js_cod (js_rm 0 0) [.ref (2000000 + i)] h (.inl (some (.int 0))) h := by
  refine Cu_of hK (by decide +kernel) (Nat.le_refl _) hl ?_
  refine Eu_cs hst (nm_in (i := 1096) (by decide +kernel) rfl) (am_in_ok js_Ic_ok 0 _ _ rfl) ?_
  refine Eu_p js_Ic_ok 2 (c' := (7, [some (.ref (2000000 + i))], [.ref (2000000 + i)])) rfl ?_
  refine Eu_gc hst hi (nm_in (i := 1787) (by decide +kernel) rfl) (am_in_ok js_Ic_ok 7 _ _ rfl) ?_
  refine Eu_p js_Ic_ok 1 (c' := (14, [some (.ref (2000000 + i))], [.int 0])) rfl ?_
  exact Eu_rz (am_in_ok js_Ic_ok 14 _ _ rfl) rfl rfl
theorem js_lat_ok (hK : Kok K) (hst : hx_st K) (hi : i < 11) (hl : h.length ≤ 1000000) : Cu K js_lat (js_rm 0 0) [.ref (2000000 + i)] h (.inl (some (.int 1))) h := by
  refine Cu_of hK (by decide +kernel) (Nat.le_refl _) hl ?_
  refine Eu_cs hst (nm_in (i := 1096) (by decide +kernel) rfl) (am_in_ok js_It_ok 0 _ _ rfl) ?_
  refine Eu_p js_It_ok 2 (c' := (7, [some (.ref (2000000 + i))], [.ref (2000000 + i)])) rfl ?_
  refine Eu_gc hst hi (nm_in (i := 1787) (by decide +kernel) rfl) (am_in_ok js_It_ok 7 _ _ rfl) ?_
  refine Eu_p js_It_ok 3 (c' := (18, [some (.ref (2000000 + i))], [.int 1])) rfl ?_
  exact Eu_rz (am_in_ok js_It_ok 18 _ _ rfl) rfl rfl
theorem js_lng_ok (hK : Kok K) (hst : hx_st K) (hi : i < 11) (hl : h.length ≤ 1000000) : Cu K js_lng (js_rm 1 20) [.ref (2000000 + i)] h (.inl (some (.int (nI (js_len.getD i 0))))) h := by
  refine Cu_of hK (by decide +kernel) (Nat.le_refl _) hl ?_
  refine Eu_p js_Il_ok 1 (c' := (1, [some (.ref (2000000 + i))], [.ref (2000000 + i)])) rfl ?_
  refine Eu_gv hst hi (nm_in (i := 1786) (by decide +kernel) rfl) (am_in_ok js_Il_ok 1 _ _ rfl) ?_
  refine Eu_tl hst hi (am_in_ok js_Il_ok 4 _ _ rfl) ?_
  refine Eu_p js_Il_ok 1 (c' := (6, [some (.ref (2000000 + i))], [.ref (2000000 + i), .int (nI (js_len.getD i 0))])) rfl ?_
  refine Eu_V (As := []) (rest := [.int (nI (js_len.getD i 0))]) hK hst hi (am_in_ok js_Il_ok 6 _ _ rfl) js_Wc (nm_in (i := 1092) (by decide +kernel) rfl) (nm_in (i := 1093) (by decide +kernel) rfl) (nm_in (i := 1094) (by decide +kernel) rfl) (Ry := js_rm 0 0) ⟨⟨Nat.le_of_ble_eq_true rfl, Nat.le_of_ble_eq_true rfl⟩, rfl, rfl⟩ rfl (Nat.le_of_ble_eq_true rfl) (js_cod_ok hK hst hi hl) ?_
  refine Eu_p js_Il_ok 1 (c' := (10, [some (.ref (2000000 + i))], [.int (nI (js_len.getD i 0) >>> ((0 : Int32) &&& 31))])) rfl ?_
  have e : nI (js_len.getD i 0) >>> ((0 : Int32) &&& 31) = nI (js_len.getD i 0) := (by decide : ∀ i, i < 11 → nI (js_len.getD i 0) >>> ((0 : Int32) &&& 31) = nI (js_len.getD i 0)) i hi
  rw [e]
  exact Eu_rz (am_in_ok js_Il_ok 10 _ _ rfl) rfl rfl
theorem js_pci_ok (hK : Kok K) {j n : Nat} {w : Value} (hj : j < n) (hn : n < 100) (hw : w = .null ∨ w = .ref 4000000) (hl : h.length ≤ 1000000) : Cu K js_pci (js_rm 0 0) [.int (nI j), .int (nI n), w] h (.inl (some (.int (nI j)))) h := by
  have e1 : ¬ nI j < 0 := zn_nn (by omega)
  have e2 : nI j < nI n := (zn_lt (by omega) (by omega)).mpr hj
  rcases hw with rfl | rfl
  · refine Cu_of hK (by decide +kernel) (Nat.le_refl _) hl ?_
    refine Eu_p js_Ip_ok 1 (c' := (1, [some (.int (nI j)), some (.int (nI n)), some .null], [.int (nI j)])) rfl ?_
    refine Eu_p js_Ip_ok 1 (c' := (4, [some (.int (nI j)), some (.int (nI n)), some .null], [])) (show (match (if nI j < 0 then some (9, _, _) else some (4, _, _) : Option am_cfg) with | none => none | some c' => am_ps (am_in js_Ip) 0 c') = _ by rw [if_neg e1]; rfl) ?_
    refine Eu_p js_Ip_ok 2 (c' := (6, [some (.int (nI j)), some (.int (nI n)), some .null], [.int (nI n), .int (nI j)])) rfl ?_
    refine Eu_p js_Ip_ok 1 (c' := (16, [some (.int (nI j)), some (.int (nI n)), some .null], [])) (show (match (if nI j < nI n then some (16, _, _) else some (9, _, _) : Option am_cfg) with | none => none | some c' => am_ps (am_in js_Ip) 0 c') = _ by rw [if_pos e2]; rfl) ?_
    refine Eu_p js_Ip_ok 1 (c' := (17, [some (.int (nI j)), some (.int (nI n)), some .null], [.int (nI j)])) rfl ?_
    exact Eu_rz (am_in_ok js_Ip_ok 17 _ _ rfl) rfl rfl
  · refine Cu_of hK (by decide +kernel) (Nat.le_refl _) hl ?_
    refine Eu_p js_Ip_ok 1 (c' := (1, [some (.int (nI j)), some (.int (nI n)), some (.ref 4000000)], [.int (nI j)])) rfl ?_
    refine Eu_p js_Ip_ok 1 (c' := (4, [some (.int (nI j)), some (.int (nI n)), some (.ref 4000000)], [])) (show (match (if nI j < 0 then some (9, _, _) else some (4, _, _) : Option am_cfg) with | none => none | some c' => am_ps (am_in js_Ip) 0 c') = _ by rw [if_neg e1]; rfl) ?_
    refine Eu_p js_Ip_ok 2 (c' := (6, [some (.int (nI j)), some (.int (nI n)), some (.ref 4000000)], [.int (nI n), .int (nI j)])) rfl ?_
    refine Eu_p js_Ip_ok 1 (c' := (16, [some (.int (nI j)), some (.int (nI n)), some (.ref 4000000)], [])) (show (match (if nI j < nI n then some (16, _, _) else some (9, _, _) : Option am_cfg) with | none => none | some c' => am_ps (am_in js_Ip) 0 c') = _ by rw [if_pos e2]; rfl) ?_
    refine Eu_p js_Ip_ok 1 (c' := (17, [some (.int (nI j)), some (.int (nI n)), some (.ref 4000000)], [.int (nI j)])) rfl ?_
    exact Eu_rz (am_in_ok js_Ip_ok 17 _ _ rfl) rfl rfl
theorem js_sci_ok (hK : Kok K) (hst : hx_st K) {j n : Nat} (hj : j < n) (hn : n < 100) (hl : h.length ≤ 1000000) : Cu K js_sci (js_rm 1 22) [.int (nI j), .int (nI n)] h (.inl none) h := by
  refine Cu_of hK (by decide +kernel) (Nat.le_refl _) hl ?_
  refine Eu_p js_Is_ok 2 (c' := (2, [some (.int (nI j)), some (.int (nI n))], [.int (nI n), .int (nI j)])) rfl ?_
  refine Eu_sf hst (nm_in (i := 1112) (by decide +kernel) rfl) (am_in_ok js_Is_ok 2 _ _ rfl) (fun w hw => ?_)
  refine Eu_S (As := [.int (nI j), .int (nI n), w]) (rest := []) hK (am_in_ok js_Is_ok 5 _ _ rfl) js_Wp (nm_in (i := 1114) (by decide +kernel) rfl) (nm_in (i := 1115) (by decide +kernel) rfl) (Ry := js_rm 0 0) ⟨⟨Nat.le_of_ble_eq_true rfl, Nat.le_of_ble_eq_true rfl⟩, rfl, rfl⟩ rfl (Nat.le_of_ble_eq_true rfl) (js_pci_ok hK hj hn hw hl) ?_
  refine Eu_p js_Is_ok 1 (c' := (9, [some (.int (nI j)), some (.int (nI n))], [])) rfl ?_
  exact Eu_rv (am_in_ok js_Is_ok 9 _ _ rfl) rfl
theorem js_by : ∀ i, i < 11 → ∀ j, j < js_len.getD i 0 → (((js_b.getD i []).getD j 0 &&& 255).toUInt32 % 65536).toInt32 = (js_b.getD i []).getD j 0 ∧ narrow .char (.int ((js_b.getD i []).getD j 0)) = .int ((js_b.getD i []).getD j 0) := by decide +kernel
theorem js_lch_ok (hK : Kok K) (hst : hx_st K) (hi : i < 11) {j : Nat} (hj : j < js_len.getD i 0) (hl : h.length ≤ 1000000) : Cu K js_lch (js_rm 2 43) [.ref (3000000 + i), .int (nI j)] h (.inl (some (.int ((js_b.getD i []).getD j 0)))) h := by
  have h6 := (js_l6 i hi).2
  obtain ⟨b1, b2⟩ := js_by i hi j hj
  refine Cu_of hK (by decide +kernel) (Nat.le_refl _) hl ?_
  refine Eu_p js_Ih_ok 2 (c' := (2, [some (.ref (3000000 + i)), some (.int (nI j))], [.ref (3000000 + i), .int (nI j)])) rfl ?_
  refine Eu_tl hst hi (am_in_ok js_Ih_ok 2 _ _ rfl) ?_
  refine Eu_S (As := [.int (nI j), .int (nI (js_len.getD i 0))]) (rest := []) hK (am_in_ok js_Ih_ok 3 _ _ rfl) js_Ws (nm_in (i := 1109) (by decide +kernel) rfl) (nm_in (i := 1110) (by decide +kernel) rfl) (Ry := js_rm 1 22) ⟨⟨Nat.le_of_ble_eq_true rfl, Nat.le_of_ble_eq_true rfl⟩, rfl, rfl⟩ rfl (Nat.le_of_ble_eq_true rfl) (js_sci_ok hK hst hj (by omega) hl) ?_
  refine Eu_p js_Ih_ok 2 (c' := (8, [some (.ref (3000000 + i)), some (.int (nI j))], [.int (nI j), .ref (3000000 + i)])) rfl ?_
  refine Eu_tb hst hi (fun q => by
    rcases q with q | q
    · exact zn_nn (by omega) q
    · rw [zn_cl (by omega)] at q; omega) (am_in_ok js_Ih_ok 8 _ _ rfl) ?_
  rw [zn_cl (by omega)]
  refine Eu_p js_Ih_ok 2 (c' := (13, [some (.ref (3000000 + i)), some (.int (nI j))], [.int ((js_b.getD i []).getD j 0 &&& 255)])) rfl ?_
  refine Eu_i2c b1 (am_in_ok js_Ih_ok 13 _ _ rfl) ?_
  exact Eu_rz (am_in_ok js_Ih_ok 14 _ _ rfl) rfl b2
theorem js_chr_ok (hK : Kok K) (hst : hx_st K) (hi : i < 11) {j : Nat} (hj : j < js_len.getD i 0) (hl : h.length ≤ 1000000) : Cu K js_chr (js_rm 3 64) [.ref (2000000 + i), .int (nI j)] h (.inl (some (.int ((js_b.getD i []).getD j 0)))) h := by
  obtain ⟨b1, b2⟩ := js_by i hi j hj
  refine Cu_of hK (by decide +kernel) (Nat.le_refl _) hl ?_
  refine Eu_p js_Ir_ok 1 (c' := (1, [some (.ref (2000000 + i)), some (.int (nI j))], [.ref (2000000 + i)])) rfl ?_
  refine Eu_V (As := []) (rest := []) hK hst hi (am_in_ok js_Ir_ok 1 _ _ rfl) js_Wt (nm_in (i := 1102) (by decide +kernel) rfl) (nm_in (i := 1103) (by decide +kernel) rfl) (nm_in (i := 1104) (by decide +kernel) rfl) (Ry := js_rm 0 0) ⟨⟨Nat.le_of_ble_eq_true rfl, Nat.le_of_ble_eq_true rfl⟩, rfl, rfl⟩ rfl (Nat.le_of_ble_eq_true rfl) (js_lat_ok hK hst hi hl) ?_
  refine Eu_p js_Ir_ok 2 (c' := (8, [some (.ref (2000000 + i)), some (.int (nI j))], [.ref (2000000 + i)])) rfl ?_
  refine Eu_gv hst hi (nm_in (i := 1786) (by decide +kernel) rfl) (am_in_ok js_Ir_ok 8 _ _ rfl) ?_
  refine Eu_p js_Ir_ok 1 (c' := (12, [some (.ref (2000000 + i)), some (.int (nI j))], [.int (nI j), .ref (3000000 + i)])) rfl ?_
  refine Eu_S (As := [.ref (3000000 + i), .int (nI j)]) (rest := []) hK (am_in_ok js_Ir_ok 12 _ _ rfl) js_Wh (nm_in (i := 1106) (by decide +kernel) rfl) (nm_in (i := 1107) (by decide +kernel) rfl) (Ry := js_rm 2 43) ⟨⟨Nat.le_of_ble_eq_true rfl, Nat.le_of_ble_eq_true rfl⟩, rfl, rfl⟩ rfl (Nat.le_of_ble_eq_true rfl) (js_lch_ok hK hst hi hj hl) ?_
  exact Eu_rz (am_in_ok js_Ir_ok 15 _ _ rfl) rfl b2
end JS

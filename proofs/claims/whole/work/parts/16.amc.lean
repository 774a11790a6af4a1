/-! Calls by the abstract machine; the whole walk of a method. -/
/-- a method's start: its arguments, the cells, the tables, what else is carried (XX) -/
def am_Pc (D : va_G) (cl : List vw_C) (tys : List (ClassId × FieldType)) (ad : Nat → Nat) (ca : Nat → ClassId) (A : Nat → Prop) (XX : State → Prop) (As : List Value) (h : List va_E) : Array Value → State → Prop := fun v U =>
  v = (As.map (am_v ad)).toArray ∧ va_P D cl (am_ws ad ca h) U.heap ∧ va_D A (am_ws ad ca h) ∧ va_K D cl tys U ∧ XX U
theorem am_Pc_blind {D : va_G} {cl : List vw_C} {tys : List (ClassId × FieldType)} {ad : Nat → Nat} {ca : Nat → ClassId} {A : Nat → Prop} {XX : State → Prop} (hXX : ∀ U g mk a, XX U → XX (U.calling g mk a)) {As : List Value} {h : List va_E} : FrameBlind (am_Pc D cl tys ad ca A XX As h) := by
  intro a U g mk q
  obtain ⟨q0, q1, q2, q3, q4⟩ := q
  exact ⟨q0, q1, q2, va_K.moved (u := U) (U := U.calling g mk a) (Vm.Alike.refl U.vm) q3, hXX _ _ _ _ q4⟩
/-- a method by its number: name, bytes, how many locals, the kind of its answer -/
abbrev am_mt : Type := Nat → MethodName × ByteArray × Nat × Option FieldType
def am_wy (Ts : List Cond) (mt : am_mt) (y : Nat) : List Cond := Cond.code (mt y).1 (mt y).2.1 (mt y).2.2.1 (mt y).2.2.2 :: Ts
/-- what the table of calls rests on -/
def am_Sw (own : String) (Ts Tn : List Cond) (cl : List vw_C) (mt : am_mt) (site : Nat → Option (Nat × Nat × Nat × Nat)) : Prop :=
  ∀ ix kd y k ci, site ix = some (kd, y, k, ci) → Cond.code (mt y).1 (mt y).2.1 (mt y).2.2.1 (mt y).2.2.2 ∈ Ts ∧ Cond.initialized (mt y).1.cls ∈ Ts ∧ ((mt y).1.cls ≠ "java/lang/invoke/MethodHandle" ∧ (mt y).1.cls ≠ "java/lang/invoke/VarHandle") ∧
    (kd = 0 → Cond.methodLink own ix (mt y).1 ∈ Ts ∧ Cond.static (mt y).1 ∈ Ts ∧ (parseMethodDescriptor (mt y).1.desc).map (fun d => d.parameters.length) = some k) ∧
    (kd = 1 → Cond.methodLink own ix (mt y).1 ∈ Ts ∧ Cond.instanceMethod (mt y).1 ∈ Ts ∧ (parseMethodDescriptor (mt y).1.desc).map (fun d => d.parameters.length + 1) = some k ∧ ∃ C T N, cl[ci]? = some (C, T, N) ∧ Cond.selects C (mt y).1 (mt y).1 ∈ Ts) ∧
    (kd = 2 → Cond.methodLink own ix (mt y).1 ∈ Ts ∧ Cond.instanceMethod (mt y).1 ∈ Ts ∧ (parseMethodDescriptor (mt y).1.desc).map (fun d => d.parameters.length + 1) = some k ∧ (mt y).1.name = "<init>" ∧ (mt y).2.2.2 = none) ∧
    (kd = 3 → (∃ host, Cond.methodLinkNest own ix (mt y).1 host ∈ Tn) ∧ Cond.static (mt y).1 ∈ Ts ∧ (parseMethodDescriptor (mt y).1.desc).map (fun d => d.parameters.length) = some k)
/-- the stack that a call takes: the arguments over the rest -/
theorem am_split {st : List Value} {k : Nat} (ad : Nat → Nat) : st.map (am_v ad) = ((st.take k).reverse.map (am_v ad)).reverse ++ (st.drop k).map (am_v ad) := by
  rw [List.map_reverse, List.reverse_reverse, ← List.map_append, List.take_append_drop]
theorem am_rcv_ok {st : List Value} {h : List va_E} {k ci : Nat} (hr : am_rcv st h k ci = true) : ∃ b fs As, (st.take k).reverse = .ref b :: As ∧ As.length + 1 = k ∧ h[b]? = some (.inr (ci, fs)) := by
  unfold am_rcv at hr
  split at hr
  · cases hr
  · next j =>
    split at hr
    · next b hb =>
      split at hr
      · next ci' fs hh =>
        have e1 : ci' = ci := by simpa using hr
        subst e1
        have hj : j < st.length := (List.getElem?_eq_some_iff.mp hb).1
        refine ⟨b, fs, (st.take j).reverse, ?_, by simp; omega, hh⟩
        rw [List.take_succ, hb]
        simp
      · cases hr
    · cases hr
section AMC
variable {p : Program} {l : Launch} {e : Env} {R : Room} {s : State} {m : MethodId} {args : Array Value} {below : List Frame} {meth : Method} {c : Code}
variable {cc : ByteArray} {ad : Nat → Nat} {ca : Nat → ClassId} {nL : Nat} {D : va_G} {cl : List vw_C} {A : Nat → Prop} {tys : List (ClassId × FieldType)} {Ts Tn : List Cond} {own : String} {XX : State → Prop} {mt : am_mt}
variable {ins : Nat → Option (Instr × Nat)} {fld : Nat → Option (Nat × Nat × Nat)} {cst : Nat → Option Value} {site : Nat → Option (Nat × Nat × Nat × Nat)} {exc : Nat × Nat → Option String} {rt : Option FieldType} {Cr : Nat → List Value → List va_E → am_O → List va_E → Nat → Prop}
set_option maxHeartbeats 4000000 in
theorem am_call_ok {H : Heap} {locs : List Loc} {cells slots : Nat} {Q : State → Prop} (hx : p.tables.exec = Jvm.exec) (hb : c.code = cc) (hml : c.maxLocals = nL) (hown : s.vm.findClass own = some m.cls) (hts : ∀ w ∈ Ts, w.before args s = true) (hgd : ∀ w ∈ Ts, goodWord w = true) (htn : ∀ w ∈ Tn, w.before args s = true) (hK : va_K D cl tys s)
    (hins : ∀ pc i n, ins pc = some (i, n) → decode cc pc = .ok (i, n)) (hSw : am_Sw own Ts Tn cl mt site)
    (hXb : ∀ U g mk a, XX U → XX (U.calling g mk a)) (hX : ∀ U : State, U.heap = H → s.WarmedH U.vm → va_F A s U → XX U)
    {S : am_S} {ix kd y k ci mc ms : Nat} {o1 : am_O} {h1 : List va_E} {rm : Room} {ls : Array Slot} (hat : am_at ad ca D cl A s.heap nL S ls H locs) (hsi : am_site ins site S = some (ix, kd, y, k, ci)) (hk : k ≤ S.2.2.1.length) (hw8 : ((S.2.2.1.drop k).map fun v => v.category).sum ≤ 8)
    (hM : ax_Met l (mt y).1 (am_wy Ts mt y) rm (am_Pc D cl tys ad ca A XX (S.2.2.1.take k).reverse S.2.2.2) (am_Qx D cl ad ca A o1 h1) mc ms A) (hrc : rm.cells = mc) (hrs : rm.slots = ms) (hrf : rm.frames + 1 ≤ R.frames) (hrl : 8 + ((mt y).2.2.1 + 11) + rm.locals ≤ R.locals) (hcells : cells + mc ≤ R.cells) (hslots : slots + ms ≤ R.slots)
    (hD1 : va_D A (am_ws ad ca h1))
    (kr : ∀ v, o1 = .inl v → ∀ H1 locs1, am_at ad ca D cl A s.heap nL (S.1 + 3, S.2.1, v.toList ++ S.2.2.1.drop k, h1) ls H1 locs1 → W p l e R s m args below meth c H1 locs1 (cells + mc) (slots + ms) Q (F0 m (S.1 + 3) ls ((v.toList ++ S.2.2.1.drop k).map (am_v ad))))
    (kt : ∀ E, o1 = .inr E → ∀ (q : Addr) (ce : Cell) H1 locs1, va_P D cl (am_ws ad ca h1) H1 → va_S A s.heap H1 locs1 → H1[q]? = some ce → ce.vm = .none → s.vm.findClass E = some ce.cls → ax_T p l e R s m args below meth c H1 locs1 (cells + mc) (slots + ms) Q (F0 m S.1 ls ((S.2.2.1.drop k).map (am_v ad))) q) :
    W p l e R s m args below meth c H locs cells slots Q (F0 m S.1 ls (S.2.2.1.map (am_v ad))) := by
  obtain ⟨hL, hP, hD, hS⟩ := hat
  have hsz : ls.size = c.maxLocals := hL.1.trans hml.symm
  have hw8' : (((S.2.2.1.drop k).map (am_v ad)).map fun v => v.category).sum ≤ 8 := by
    rw [List.map_map]
    have e1 : ((fun v => v.category) ∘ am_v ad) = fun v : Value => v.category := funext fun v => am_cat ad v
    rw [e1]
    exact hw8
  have hPc : ∀ U : State, U.heap = H → s.WarmedH U.vm → am_Pc D cl tys ad ca A XX (S.2.2.1.take k).reverse S.2.2.2 ((S.2.2.1.take k).reverse.map (am_v ad)).toArray U := fun U hU hW =>
    ⟨rfl, by rw [hU]; exact hP, hD, va_K.moved hW.alike hK, hX U hU hW (hS.F hU)⟩
  have hgo : ax_K p l e R s m args below meth c H locs cells slots Q (am_Qx D cl ad ca A o1 h1) mc ms A S.1 ls ((S.2.2.1.drop k).map (am_v ad)) ((S.2.2.1.take k).reverse.map (am_v ad)).toArray := by
    have hS1 : ∀ (st t : State) (H1 : Heap) (L : List Loc), st.heap = H → va_F A st t → t.heap = H1 → (∀ q ∈ L, A q.base) → va_S A s.heap H1 (locs ++ L) := fun st t H1 L e1 hF e2 hL1 => by
      obtain ⟨f1, f2⟩ := hF
      rw [e1, e2] at f1 f2
      refine ⟨Nat.le_trans hS.1 f1, fun q g1 g2 => (f2 q (Nat.lt_of_lt_of_le g1 hS.1) g2).trans (hS.2.1 q g1 g2), fun q hq => ?_⟩
      rcases List.mem_append.mp hq with h | h
      · exact hS.2.2 q h
      · exact hL1 q h
    refine ⟨fun v st t H1 L e1 hW0 hq e2 hL1 => ?_, fun q st t H1 L e1 hW0 hq e2 hL1 => ?_⟩
    · obtain ⟨q1, q2, q3⟩ := hq
      cases o1 with
      | inl w =>
        cases q1
        have e3 : (w.map (am_v ad)).toList ++ (S.2.2.1.drop k).map (am_v ad) = (w.toList ++ S.2.2.1.drop k).map (am_v ad) := by cases w <;> simp
        rw [e3]
        exact kr w rfl H1 _ ⟨hL, by rw [← e2]; exact q2, hD1, hS1 st t H1 L e1 q3 e2 hL1⟩
      | inr E =>
        obtain ⟨_, _, q4, _⟩ := q1
        cases q4
    · obtain ⟨q1, q2, q3⟩ := hq
      cases o1 with
      | inl w => cases q1
      | inr E =>
        obtain ⟨q', ce, q4, q5, q6, q7⟩ := q1
        cases q4
        exact kt E rfl q ce H1 _ (by rw [← e2]; exact q2) (hS1 st t H1 L e1 q3 e2 hL1) (by rw [← e2]; exact q5) q6 (by rw [← hW0.alike.findClass]; exact q7)
  have hC : ∀ n : Nat, site ix = some (kd, y, k, ci) → (parseMethodDescriptor (mt y).1.desc).map (fun d => d.parameters.length) = some n → ax_C R s args (mt y).1 (mt y).2.1 (mt y).2.2.1 (mt y).2.2.2 (am_wy Ts mt y) rm n := fun n hs hn => by
    obtain ⟨w1, w2, w3, -⟩ := hSw _ _ _ _ _ hs
    have hin : ∀ w ∈ am_wy Ts mt y, w ∈ Ts := fun w hw => by
      rcases List.mem_cons.mp hw with rfl | hw
      · exact w1
      · exact hw
    refine ⟨fun w hw a' U hW => word_at hW (good_of_word (hgd w (hin w hw))) (hts w (hin w hw)), List.mem_cons_self, hts _ w1, hts _ w2, w3, fun sig h => ?_, hrf, hrl⟩
    rw [h] at hn
    exact (Option.some.inj hn).symm
  have harg : ∀ {j : Nat}, (parseMethodDescriptor (mt y).1.desc).map (fun d => d.parameters.length + 1) = some (j + 1) → (parseMethodDescriptor (mt y).1.desc).map (fun d => d.parameters.length) = some j := fun {j} h => by
    cases hp : parseMethodDescriptor (mt y).1.desc with
    | none => rw [hp] at h; cases h
    | some d => rw [hp] at h; simp only [Option.map_some, Option.some.injEq] at h ⊢; omega
  have hlen : ((S.2.2.1.take k).reverse.map (am_v ad)).length = k := by simp; omega
  unfold am_site at hsi
  split at hsi
  · next ix' hi =>
    split at hsi
    · next hs =>
      cases hsi
      obtain ⟨-, -, -, v0, -⟩ := hSw _ _ _ _ _ hs
      obtain ⟨z1, z2, z3⟩ := v0 rfl
      rw [am_split (k := k) ad]
      exact ax_S hx hb hown hsz hM (hC k hs z3) hrc hrs (hts _ z1) (hts _ z2) hcells hslots hlen hw8' (am_Pc_blind hXb) hPc (hins _ _ _ hi) hgo
    · next hs =>
      cases hsi
      obtain ⟨-, -, -, -, -, -, v3⟩ := hSw _ _ _ _ _ hs
      obtain ⟨⟨host, z1⟩, z2, z3⟩ := v3 rfl
      rw [am_split (k := k) ad]
      exact ax_SN hx hb hown hsz hM (hC k hs z3) hrc hrs (htn _ z1) (hts _ z2) hcells hslots hlen hw8' (am_Pc_blind hXb) hPc (hins _ _ _ hi) hgo
    · cases hsi
  · next ix' hi =>
    split at hsi
    · next hs =>
      split at hsi
      · next hrv =>
        cases hsi
        obtain ⟨-, -, -, -, v1, -⟩ := hSw _ _ _ _ _ hs
        obtain ⟨z1, z2, z3, C, T, N, z4, z5⟩ := v1 rfl
        obtain ⟨b, fs, As, hb1, hb2, hb3⟩ := am_rcv_ok hrv
        subst hb2
        rw [am_split (k := As.length + 1) ad]
        rw [hb1] at hPc hgo hM ⊢
        simp only [List.map_cons, am_v, List.reverse_cons, List.append_assoc, List.singleton_append] at hPc hgo ⊢
        exact ax_V hx hb hown hsz hM (hC _ hs (harg z3)) hrc hrs (hts _ z1) (hts _ z2) (hts _ z5) (va_recv hK hP z4 (am_ws_get hb3)) hcells hslots (by simp) hw8' (am_Pc_blind hXb) hPc (hins _ _ _ hi) hgo
      · cases hsi
    · cases hsi
  · next ix' hi =>
    split at hsi
    · next hs =>
      split at hsi
      · next hrv =>
        cases hsi
        obtain ⟨-, -, -, -, -, v2, -⟩ := hSw _ _ _ _ _ hs
        obtain ⟨z1, z2, z3, z4, z5⟩ := v2 rfl
        obtain ⟨b, fs, As, hb1, hb2, hb3⟩ := am_rcv_ok hrv
        subst hb2
        have hC9 := hC _ hs (harg z3)
        rw [z5] at hC9
        rw [am_split (k := As.length + 1) ad]
        rw [hb1] at hPc hgo hM ⊢
        simp only [List.map_cons, am_v, List.reverse_cons, List.append_assoc, List.singleton_append] at hPc hgo ⊢
        exact ax_I hx hb hown hsz hM hC9 hrc hrs (hts _ z1) (hts _ z2) z4 hcells hslots (by simp) hw8' (am_Pc_blind hXb) hPc (hins _ _ _ hi) hgo
      · cases hsi
    · cases hsi
  · cases hsi
end AMC

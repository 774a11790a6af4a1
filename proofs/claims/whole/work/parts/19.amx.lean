/-! 'throw new E()' by the abstract machine (launches without stack traces). -/
section AMX
variable {p : Program} {l : Launch} {e : Env} {R : Room} {s : State} {m : MethodId} {args : Array Value} {below : List Frame} {meth : Method} {c : Code} {locs : List Loc} {cells slots : Nat}
/-- the same frame, seen from where it stands now -/
theorem ax_now {T : State} (X : Stand p l e R s m args below meth c T locs cells slots) {R' : Room} (r1 : R'.frames ≤ R.frames) (r2 : R'.locals ≤ R.locals) (r3 : cells + R'.cells ≤ R.cells) (r4 : slots + R'.slots ≤ R.slots) :
    Stand p l e R' ((T.setVm s.vm).setFrames (.invoking m args :: below)) m args below meth c T [] 0 0 := by
  have htop : (T.setVm s.vm).topJava?.isSome := X.here.top
  have hfr : ((T.setVm s.vm).setFrames (.invoking m args :: below)).frames = .invoking m args :: below := State.frames_setFrames _ (State.cur_lt_of_top htop)
  obtain ⟨g0, hg0⟩ := Option.isSome_iff_exists.mp htop
  obtain ⟨r, hr⟩ := State.topJava?_eq_some.mp hg0
  have hlim : e.platform.stackLimits (T.setVm s.vm).me = e.platform.stackLimits s.me := X.limits
  have hby : (T.setVm s.vm).me.stackBytes = s.me.stackBytes := X.bytes
  have hz := X.heapSize
  have hu := X.used
  have hroom : ((T.setVm s.vm).setFrames (.invoking m args :: below)).hasRoom e.platform R' = true := by
    have hin : ((T.setVm s.vm).setFrames (.invoking m args :: below)).localsInUse = s.localsInUse := by
      rw [State.localsInUse_invoking hfr (meth := meth) (c := c) X.method X.code, State.localsInUse_invoking X.frames X.method X.code]
    have h := X.room
    simp only [State.hasRoom, Bool.and_eq_true, decide_eq_true_eq] at h ⊢
    obtain ⟨⟨⟨⟨h1, h2, h3, h4, h5, h6⟩, h7⟩, h8⟩, h9⟩ := h
    rw [X.frames, List.length_cons] at h2 h3
    simp only [hfr, hin, List.length_cons, State.stackLimits_setFrames, State.stackBytes_setFrames, hlim, hby]
    exact ⟨⟨⟨⟨by omega, by omega, by omega, by omega, by omega, h6⟩, show T.heap.size + R'.cells ≤ e.platform.maxCells by omega⟩, show T.slotsUsed + R'.slots ≤ e.platform.maxSlots by omega⟩, X.book⟩
  have hd : T.heap.toList.drop T.heap.size = [] := by
    rw [← Array.length_toList]
    exact List.drop_length
  refine { admits := X.admits, cas := X.cas, clock := X.clock, frames := hfr, room := hroom, hears := X.hears, method := X.method, code := X.code, here := X.here, tail := X.tail, warmed := X.warmed, limits := by rw [State.stackLimits_setFrames]; rfl, bytes := by rw [State.stackBytes_setFrames]; rfl, same := ?_ }
  refine ⟨?_, Nat.le_refl _, Nat.le_refl _, ?_, ?_, fun a c9 h9 => ⟨c9, h9, rfl, rfl, fun _ _ => rfl⟩⟩
  · obtain ⟨t, ht, -⟩ := State.frames_cons hr
    show T.setVm s.vm = { ((T.setVm s.vm).setFrames (.invoking m args :: below)).setFrames (T.setVm s.vm).frames with heap := T.heap, slotsUsed := T.slotsUsed }
    rw [State.setFrames_setFrames, State.setFrames_self ht]
    rfl
  · show T.slotsUsed = T.slotsUsed + ((T.heap.toList.drop T.heap.size).map (·.slots.size)).sum
    rw [hd]
    simp
  · show ((T.heap.toList.drop T.heap.size).map (·.slots.size)).sum ≤ 0
    rw [hd]
    simp
theorem ax_kept {s U : State} {k n : Nat} (h : s.sameButNew ({ U with vm := s.vm } : State) [] k n) : ∀ q : Nat, q < s.heap.size → U.heap[q]? = s.heap[q]? := by
  intro q hq
  obtain ⟨-, -, -, -, -, hc⟩ := h
  have h1 : s.heap[q]? = some s.heap[q] := Array.getElem?_eq_getElem hq
  obtain ⟨c', h2, h3, h4, h5⟩ := hc q _ h1
  have h6 : c'.slots = (s.heap[q]).slots := Array.ext_getElem? fun i => h5 i (by simp)
  rw [h1, show U.heap[q]? = some c' from h2, h3, h6]
variable {cc : ByteArray} {ad : Nat → Nat} {ca : Nat → ClassId} {nL : Nat} {D : va_G} {cl : List vw_C} {A : Nat → Prop} {tys : List (ClassId × FieldType)} {Ts Tn : List Cond} {own : String} {XX : State → Prop}
variable {ins : Nat → Option (Instr × Nat)} {exc : Nat × Nat → Option String} {H : Heap}
/-- what the table of exceptions rests on; F, G: frames and words that the method has -/
def am_Xw (own : String) (Ts Tn : List Cond) (F G : Nat) (exc : Nat × Nat → Option String) : Prop :=
  ∀ ik ic E, exc (ik, ic) = some E → ∃ names : List String, Bundle.fit E = true ∧ (∀ n ∈ names, Bundle.fit n = true) ∧ Cond.classLink own ik E ∈ Ts ∧ Cond.initialized E ∈ Ts ∧ Cond.instantiable E 6 ∈ Ts ∧ (∀ a ∈ Bundle.ownAtoms0 own ic E names, a ∈ Ts ∨ a ∈ Tn) ∧ names.length + 3 < F ∧ 8 + (13 * (names.length + 1) + 42) ≤ G
set_option maxHeartbeats 4000000 in
theorem am_thr_ok (hx : p.tables.exec = Jvm.exec) (hb : c.code = cc) (hml : c.maxLocals = nL) (htr : l.stackTraces = false) (hnh : c.exceptionTable.isEmpty = true) (hlocks : meth.locks = false) (hown : s.vm.findClass own = some m.cls) (hts : ∀ w ∈ Ts, w.before args s = true) (hgd : ∀ w ∈ Ts, goodWord w = true) (hins : ∀ pc i n, ins pc = some (i, n) → decode cc pc = .ok (i, n))
    (hX : ∀ U : State, s.WarmedH U.vm → va_F A s U → XX U) (hXn : ∀ U, XX U → ∀ w ∈ Tn, ∀ a, w.before a U = true) (hXw : am_Xw own Ts Tn R.frames R.locals exc) {S : am_S} {E : String} {ls : Array Slot} (hat : am_at ad ca D cl A s.heap nL S ls H locs) (hE : am_thr ins exc S = some E) (hcells : cells + 1 ≤ R.cells) (hslots : slots + 6 ≤ R.slots) :
    W p l e R s m args below meth c H locs cells slots (ax_E below (am_Qx D cl ad ca A (.inr E) S.2.2.2) args s (cells + 1) (slots + 6) A) (F0 m S.1 ls (S.2.2.1.map (am_v ad))) := by
  obtain ⟨hL, hP, hD, hS⟩ := hat
  unfold am_thr at hE
  split at hE
  · next ik ic i0 i3 i4 i7 hst =>
    have hw8 : (S.2.2.1.map fun v => v.category).sum ≤ 8 := by rw [hst]; exact Nat.zero_le _
    obtain ⟨names, f1, f2, f3, f4, f5, f6, f7, f8⟩ := hXw _ _ _ hE
    intro T hT X
    have htr' : e.platform.stackTraces = false := (show e.platform.stackTraces = l.stackTraces by rw [X.admits.platform]).trans htr
    have Y := ax_now X (R' := { frames := R.frames, locals := R.locals, cells := 1, slots := 6 }) (Nat.le_refl _) (Nat.le_refl _) hcells hslots
    obtain ⟨s', hs'⟩ : ∃ z, z = (T.setVm s.vm).setFrames (.invoking m args :: below) := ⟨_, rfl⟩
    rw [← hs'] at Y
    have hvm : s'.vm = s.vm := by rw [hs']; rfl
    have hhp : s'.heap = T.heap := by rw [hs']; rfl
    have hW0 : s.WarmedH s'.vm := by rw [hvm]; exact State.WarmedH.refl s
    have hXs : XX s' := hX s' hW0 (hS.F (by rw [hhp, hT]))
    have hw : ∀ w ∈ Ts, w.before args s' = true := fun w h => word_at hW0 (good_of_word (hgd w h)) (hts w h)
    have hown' : s'.vm.findClass own = some m.cls := by rw [hvm]; exact hown
    obtain ⟨vm1, cX, kX, hfX, hkX, -, -, X1, st1⟩ := Y.newCold hx hown' (hw _ f3) (hw _ f5) (hw _ f4) (g := F0 m S.1 ls (S.2.2.1.map (am_v ad))) rfl (by rw [hb]; exact hins _ _ _ i0) (Nat.le_refl _) (Nat.le_refl _)
    generalize hT1 : (T.setVm vm1).pushCell { cls := cX, slots := kX.instanceTypes.map defaultValue, vm := .none } = T1 at X1 st1
    have hcellA : T1.heap[T.heap.size]? = some (freshCell cX kX) := by rw [← hT1]; exact State.heap_pushCell_size _ _
    have hsz : ls.size = c.maxLocals := hL.1.trans hml.symm
    have d3 : decode c.code (S.1 + 3) = .ok (.dup, 1) := by rw [hb]; exact hins _ _ _ i3
    have hout : ∀ x ∈ c.exceptionTable.toList, covers x (S.1 + 4 + 3) = false := fun x hx => by
      have h0 : c.exceptionTable = #[] := by simpa using hnh
      rw [h0] at hx
      simp at hx
    have hw8' : ((S.2.2.1.map (am_v ad)).map fun v => v.category).sum ≤ 8 := by
      rw [List.map_map]
      have e1 : ((fun v => v.category) ∘ am_v ad) = fun v : Value => v.category := funext fun v => am_cat ad v
      rw [e1]
      exact hw8
    have hcat : (Value.ref T.heap.size).category = 1 := rfl
    obtain ⟨U, stU, hrun, hend, hWU, hsm, ce, hce, hoc⟩ := X1.ctorThrow0 hx htr' hown' f1 f2 (fun a ha => (f6 a ha).elim (fun h => hw a h) (fun h => hXn s' hXs a h args)) (fun x hx => nomatch hx) hfX hkX hcellA (by rw [hhp]; exact Nat.le_refl _)
      (g := { method := m, pc := S.1 + 4, locals := ls, stack := .ref T.heap.size :: .ref T.heap.size :: S.2.2.1.map (am_v ad), locked := none }) rfl hsz rfl rfl (rest := S.2.2.1.map (am_v ad)) rfl (by rw [hb]; exact hins _ _ _ i4) (by rw [hb]; exact hins _ _ _ i7) hout f7
      (by simp only [List.map_cons, List.sum_cons, hcat]; show 2 * 0 + (1 + _) + _ ≤ R.locals; omega) hlocks
    have hke := ax_kept hsm
    rw [hhp, hT] at hke
    have h2 : (T.setVm s.vm).sameButNew ({ U with vm := s.vm } : State) [] 1 6 := by
      rw [hs'] at hsm
      obtain ⟨e1, e2⟩ := hsm
      rw [State.setFrames_setFrames] at e1
      exact ⟨e1, e2⟩
    have h3 := X.same.trans h2
    rw [List.append_nil] at h3
    have hWs : s.WarmedH U.vm := State.WarmedH.trans hW0 hWU
    have hUle : H.size ≤ U.heap.size := by
      have := h2.2.1
      rw [← hT]
      exact this
    refine ⟨U, st1 _ ?_, .threw T.heap.size, hrun, hend, ⟨⟨T.heap.size, ce, rfl, hce, ?_, ?_⟩, hP.kept (fun k x hx => hke x.1 ((hP k x hx).lt)), Nat.le_trans hS.1 hUle, fun q q1 q2 => (hke q (Nat.lt_of_lt_of_le q1 hS.1)).trans (hS.2.1 q q1 q2)⟩, hWs, locs, h3, fun z hz => hS.2.2 z hz⟩
    · show Steps p.tables e below (T1.setTop { method := m, pc := S.1 + 3, locals := ls, stack := .ref T.heap.size :: S.2.2.1.map (am_v ad), locked := none }) _
      jvm_step X1.here [X1.here.top, hx, d3, Value.category]
      exact stU
    · exact hoc.vm
    · rw [← hvm]; exact hoc.cls
  · cases hE
end AMX
section AMY
variable {l : Launch} {ad : Nat → Nat} {ca : Nat → ClassId} {D : va_G} {cl : List vw_C} {A : Nat → Prop} {tys : List (ClassId × FieldType)} {Ts Tn : List Cond} {XX : State → Prop} {mt : am_mt} {fr lo : Nat → Nat}
set_option maxHeartbeats 4000000 in
/-- a method that may throw -/
theorem am_meetsX {x : Nat} {ins : Nat → Option (Instr × Nat)} {fld : Nat → Option (Nat × Nat × Nat)} {cst : Nat → Option Value} {site : Nat → Option (Nat × Nat × Nat × Nat)} {exc : Nat × Nat → Option String} {Cr : Nat → List Value → List va_E → am_O → List va_E → Nat → Prop}
    (hok : am_ok Ts Tn cl mt fr lo x ins fld cst site) (hXw : am_Xw (mt x).1.cls Ts Tn (fr x) (lo x) exc) (htr : l.stackTraces = false) (hgd : ∀ w ∈ Ts, goodWord w = true) (t0 : tys[0]? = some (ca 0, .int)) (t1 : tys[1]? = some (ca 1, .boolean)) (t2 : tys[2]? = some (ca 2, .long)) (t3 : am_t3 tys ca) (hXX : am_XX A Tn XX)
    (hCr : ∀ y As h o1 h1 g1, Cr y As h o1 h1 g1 → ax_Met l (mt y).1 (am_wy Ts mt y) (am_rm fr lo y g1) (am_Pc D cl tys ad ca A XX As h) (am_Qx D cl ad ca A o1 h1) g1 (6 * g1) A ∧ va_D A (am_ws ad ca h1))
    {As : List Value} {h h' : List va_E} {o : am_O} {g' n : Nat} (hn : (am_ent As).length ≤ (mt x).2.2.1) (hE : am_E ins fld cst site exc (mt x).2.2.2 Cr n (0, am_entry As (mt x).2.2.1, [], h) 0 o h' g') :
    ax_Met l (mt x).1 (am_wy Ts mt x) (am_rm fr lo x g') (am_Pc D cl tys ad ca A XX As h) (am_Qx D cl ad ca A o h') g' (6 * g') A := by
  obtain ⟨k1, k2, k3, k4, k5, k6, k7⟩ := hok
  obtain ⟨x1, x2, x3⟩ := hXX
  refine ax_ofW (cc := (mt x).2.1) (maxL := (mt x).2.2.1) (ret := (mt x).2.2.2) k1 rfl ?_
  intro p e s m args below meth c s₁ B hml hnh hv
  obtain ⟨rfl, hP, hD, hK, hXs⟩ := hv
  have hts0 := atoms_spec (ws := am_wy Ts mt x) B.pre
  have hts : ∀ w ∈ Ts, w.before ((As.map (am_v ad)).toArray) s = true := fun w hw => hts0 w (List.mem_cons_of_mem _ hw)
  have hown : s.vm.findClass (mt x).1.cls = some m.cls := findClass_of_methodNamed B.named
  have hnm : meth.name = (mt x).1.name := (name_of_methodNamed B.named B.method).1
  have hl := lv_entry (As.map (am_v ad)) (n := (mt x).2.2.1) (by rw [am_ent_len]; exact hn)
  rw [lg_entry_eq]
  generalize (lg_sl (As.map (am_v ad)) ++ List.replicate ((mt x).2.2.1 - (lg_sl (As.map (am_v ad))).length) Slot.unset).toArray = ls at hl ⊢
  have hL := am_has_entry hn hl
  refine am_E_ok (Q := ax_E below (am_Qx D cl ad ca A o h') _ s g' (6 * g') A) (fr := fr) (lo := lo) B.exec B.bytes hml hown hts hgd (fun w hw => x3 s hXs w hw _) (k2 meth hnm) hK t0 t1 t2 t3 k3 k4 k5 k6 x1 (fun U hW hF => x2 s U hXs hW hF) hCr k7 (Nat.le_refl _) (Nat.le_refl _) ?_ ?_ ?_ n (0, am_entry As (mt x).2.2.1, [], h) 0 hE ls s.heap [] ⟨hL, hP, hD, va_S.rf⟩
  · intro S v ls H locs hv ho hh hat
    subst ho
    subst hh
    exact am_ret_ok B.exec B.bytes B.returns B.notSynchronized k3 hat (fun _ q => q) hv
  · intro S E g ls H locs hv ho hh hg hat
    subst ho
    subst hh
    subst hg
    have h9 := am_thr_ok (R := am_rm fr lo x (g + 1)) (cells := g) (slots := 6 * g) (p := p) (l := l) (e := e) (below := below) B.exec B.bytes hml htr hnh B.notSynchronized hown hts hgd k3 (fun U hW hF => x2 s U hXs hW hF) x3 hXw hat hv (Nat.le_refl _) (by show 6 * g + 6 ≤ 6 * (g + 1); omega)
    rw [show 6 * (g + 1) = 6 * g + 6 by omega]
    exact h9
  · intro E q ce pc ls st H locs ho hP1 hS1 a1 a2 a3
    subst ho
    exact ax_out hnh B.notSynchronized (fun t ht hW => ⟨⟨q, ce, rfl, by rw [ht]; exact a1, a2, a3⟩, by rw [ht]; exact hP1, hS1.F ht⟩) (fun z hz => hS1.2.2 z hz)
end AMY

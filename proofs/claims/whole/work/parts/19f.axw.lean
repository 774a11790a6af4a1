/-! Methods with a table of handlers: their promise, and the law's calls of them. -/
section AXW
variable {p : Program} {l : Launch} {e : Env} {R : Room} {s : State} {m : MethodId} {args : Array Value} {below : List Frame} {meth : Method} {c : Code} {H : Heap} {locs : List Loc} {cells slots : Nat} {Q : State → Prop}
variable {y : MethodName} {ws ws' : List Cond} {rm : Room} {Pc : Array Value → State → Prop} {Qx : Array Value → State → Outcome → State → Prop} {mc ms : Nat} {free : Addr → Prop} {cc bytes : ByteArray} {maxL n index pc : Nat} {ret : Option FieldType} {own : String} {ls : Array Slot} {As rest : List Value} {hh : List (Nat × Nat × Nat × Nat)}
theorem ax_ofWH (hy : plainName y.cls = true) (hw : ws = Cond.codeWith y cc maxL ret hh :: ws')
    (body : ∀ p e s m args below meth c s₁, BodyLoose p l y (headSpec ws rm) cc maxL ret e s m args below meth c s₁ → c.maxLocals = maxL → c.exceptionTable.toList.map (fun h => (h.startPc, h.endPc, h.handlerPc, h.catchType)) = hh → Pc args s →
      W p l e rm s m args below meth c s.heap [] 0 0 (ax_E below Qx args s mc ms free) (entryFrame m args maxL)) : ax_Met l y ws rm Pc Qx mc ms free := by
  refine MetFree.of_bodyS (code := cc) (maxLocals := maxL) (ret := ret) hy ?_ ?_
  · intro args s m h hn
    obtain ⟨m9, meth, c, hn9, h1, h2, h3, h4, -, h5, h6, -⟩ := Cond.codeWith_spec (atoms_spec (ws := ws) h _ (by rw [hw]; exact List.mem_cons_self))
    cases hn.symm.trans hn9
    exact ⟨meth, c, h1, h2, h3, h4, h5, h6⟩
  · intro p e s m args below meth c s₁ B hml hP _
    have hh0 : s₁.heap = s.heap := by rw [B.state]; rfl
    obtain ⟨m9, meth9, c9, hn9, h1, h2, h3, h4, h7, h5, h6, -⟩ := Cond.codeWith_spec (atoms_spec (ws := ws) B.pre _ (by rw [hw]; exact List.mem_cons_self))
    cases B.named.symm.trans hn9
    cases B.method.symm.trans h1
    cases (Stand.of_body B).code.symm.trans h2
    obtain ⟨t, a1, o, b1, b2, b3⟩ := body p e s m args below meth c s₁ B hml h7 hP s₁ hh0 (Stand.of_body B)
    exact ⟨t, o, a1, b1, b2, b3⟩
theorem ax_SW (hx : p.tables.exec = Jvm.exec) (hb : c.code = cc) (hown : s.vm.findClass own = some m.cls) (hsize : ls.size = c.maxLocals) (hM : ax_Met l y ws rm Pc Qx mc ms free) (hws : ∀ w ∈ ws, ∀ (a' : Array Value) (U : State), s.WarmedH U.vm → w.before a' U = true) (hcode : (Cond.codeWith y bytes maxL ret hh).before args s = true) (hini : (Cond.initialized y.cls).before args s = true) (hy : y.cls ≠ "java/lang/invoke/MethodHandle" ∧ y.cls ≠ "java/lang/invoke/VarHandle") (hlen : ∀ sig, parseMethodDescriptor y.desc = some sig → n = sig.parameters.length)
    (hfr : rm.frames + 1 ≤ R.frames) (hlo : 8 + (maxL + 11) + rm.locals ≤ R.locals) (hrc : rm.cells = mc) (hrs : rm.slots = ms) (hlink : (Cond.methodLink own index y).before args s = true) (hstat : (Cond.static y).before args s = true)
    (hcells : cells + mc ≤ R.cells) (hslots : slots + ms ≤ R.slots) (hn : As.length = n) (hwords : (rest.map fun v => v.category).sum ≤ 8) (hbl : FrameBlind Pc) (hPc : ∀ U : State, U.heap = H → s.WarmedH U.vm → Pc As.toArray U) (hdg : decode cc pc = .ok (.invokestatic index, 3))
    (k : ax_K p l e R s m args below meth c H locs cells slots Q Qx mc ms free pc ls rest As.toArray) : W p l e R s m args below meth c H locs cells slots Q (F0 m pc ls (As.reverse ++ rest)) := by
  intro T hT X
  obtain ⟨mk, methM, cM, hnamed, hmethM, hcM, -, hlM, -, -, -, hsigM⟩ := Cond.codeWith_spec hcode
  obtain ⟨kP, hkP, -⟩ := className_of_methodNamed hnamed
  obtain ⟨vm₁, X₁, hstep⟩ := X.invokestatic hx hown hlink hnamed hmethM (Cond.static_spec hnamed hmethM hstat) hkP (Cond.initialized_spec (findClass_of_methodNamed hnamed) hkP hini) hy (g := F0 m pc ls (As.reverse ++ rest)) rfl (argsL := As) (rest := rest) (hn.trans (hlen _ hsigM)) rfl (by rw [hb]; exact hdg)
  have hU : s.WarmedH (T.setVm vm₁).vm := X₁.warmed
  have hdg' : decode c.code (F0 m pc ls rest).pc = .ok (.invokestatic index, 3) := by rw [hb]; exact hdg
  have h : At (T.setVm vm₁) (F0 m pc ls rest).method c below := X₁.here
  have hnU : (T.setVm vm₁).methodNamed? y = some mk := X₁.named hnamed
  have hmU : (T.setVm vm₁).vm.method? mk = some methM := by rw [hU.alike.method?]; exact hmethM
  obtain ⟨kU, hkU, -⟩ := className_of_methodNamed hnU
  have hiniU : kU.init = .initialized := Cond.initialized_spec (findClass_of_methodNamed hnU) hkU (word_at (a' := As.toArray) hU (Or.inl (by first | rfl | simp [Cond.onTables, Cond.keeps, Cond.steady])) hini)
  have happ : (headSpec ws rm).appliesLoose y e.platform ((T.setVm vm₁).calling (F0 m pc ls rest) mk As.toArray) = true :=
    Spec.appliesLoose_calling (g := F0 m pc ls rest) h hdg' hnU hkU hiniU (X₁.room_calling (g := F0 m pc ls rest) (R' := rm) hsize hmU hcM hfr (by rw [hlM]; show 2 * 0 + (rest.map fun v => v.category).sum + (maxL + 11) + rm.locals ≤ R.locals; omega) (by rw [hrc]; exact hcells) (by rw [hrs]; exact hslots)) (atoms_intro fun w hw => hws w hw _ _ hU)
  obtain ⟨mid, hmid⟩ := h.above
  have hfrm : ((T.setVm vm₁).setTop (F0 m pc ls rest)).frames = (.java (F0 m pc ls rest) :: mid) ++ below := by rw [State.frames_setTop' _ h.top, hmid]; rfl
  obtain ⟨o, t, hsteps, -, hend, hq, hW, L, hsm, hL⟩ := Steps.callFree hM p X₁.admits X₁.cas X₁.clock (acts := []) hfrm happ (hbl _ _ _ _ (hPc _ hT hU)) trivial
  have hend' : Ended t (.java (F0 m pc ls rest) :: below) o := by
    have e1 : ((T.setVm vm₁).setTop (F0 m pc ls rest)).frames = .java (F0 m pc ls rest) :: below := by rw [State.frames_setTop' _ h.top, X₁.tail]
    rw [e1] at hend
    exact hend
  have hst : ∀ t2, Steps p.tables e below t t2 → Steps p.tables e below (T.setTop (F0 m pc ls (As.reverse ++ rest))) t2 := fun t2 h2 => hstep _ fun acts => by rw [doInvoke_state]; exact hsteps.trans h2
  cases o with
  | returned v =>
    obtain ⟨T', X', hW', -, ht⟩ := X₁.outOf rfl hdg' hend' hW hsm
    have e1 : T'.heap = t.heap := by rw [ht]; simp [State.setTop, State.modifyTopJava]
    obtain ⟨t2, a1, b1⟩ := k.1 v ((T.setVm vm₁).calling (F0 m pc ls rest) mk As.toArray) t T'.heap L hT hU hq e1.symm hL T' rfl X'
    exact ⟨t2, hst t2 (by rw [ht]; exact a1), b1⟩
  | threw q =>
    obtain ⟨T', X', hW', -, ht⟩ := X₁.outOfThrown rfl hend' hW hsm
    have e1 : T'.heap = t.heap := by rw [ht]; simp [State.pushFrame, State.setFrames, State.setTop, State.modifyTopJava]
    obtain ⟨t2, a1, b1⟩ := k.2 q ((T.setVm vm₁).calling (F0 m pc ls rest) mk As.toArray) t T'.heap L hT hU hq e1.symm hL T' rfl X'
    exact ⟨t2, hst t2 (by rw [ht]; exact a1), b1⟩
end AXW

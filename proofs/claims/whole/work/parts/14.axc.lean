/-! Calls of methods that return or throw. -/
/-- what every call rests on -/
def ax_C (R : Room) (s : State) (args : Array Value) (y : MethodName) (bytes : ByteArray) (maxL : Nat) (ret : Option FieldType) (ws : List Cond) (rm : Room) (n : Nat) : Prop :=
  (∀ w ∈ ws, ∀ (a' : Array Value) (U : State), s.WarmedH U.vm → w.before a' U = true) ∧ Cond.code y bytes maxL ret ∈ ws ∧ (Cond.code y bytes maxL ret).before args s = true ∧ (Cond.initialized y.cls).before args s = true ∧
  (y.cls ≠ "java/lang/invoke/MethodHandle" ∧ y.cls ≠ "java/lang/invoke/VarHandle") ∧ (∀ sig, parseMethodDescriptor y.desc = some sig → n = sig.parameters.length) ∧ rm.frames + 1 ≤ R.frames ∧ 8 + (maxL + 11) + rm.locals ≤ R.locals
section AXC
variable {p : Program} {l : Launch} {e : Env} {R : Room} {s : State} {m : MethodId} {args : Array Value} {below : List Frame} {meth : Method} {c : Code} {H : Heap} {locs : List Loc} {cells slots : Nat} {Q : State → Prop}
variable {y : MethodName} {ws : List Cond} {rm : Room} {Pc : Array Value → State → Prop} {Qx : Array Value → State → Outcome → State → Prop} {mc ms : Nat} {free : Addr → Prop} {cc bytes : ByteArray} {maxL n index pc : Nat} {ret : Option FieldType} {own C host : String} {ls : Array Slot} {As rest : List Value}
/-- what comes behind a call -/
def ax_K (p : Program) (l : Launch) (e : Env) (R : Room) (s : State) (m : MethodId) (args : Array Value) (below : List Frame) (meth : Method) (c : Code) (H : Heap) (locs : List Loc) (cells slots : Nat) (Q : State → Prop) (Qx : Array Value → State → Outcome → State → Prop) (mc ms : Nat) (free : Addr → Prop) (pc : Nat) (ls : Array Slot) (rest : List Value) (a : Array Value) : Prop :=
  (∀ (v : Option Value) (st t : State) (H1 : Heap) (L : List Loc), st.heap = H → s.WarmedH st.vm → Qx a st (.returned v) t → t.heap = H1 → (∀ q ∈ L, free q.base) → W p l e R s m args below meth c H1 (locs ++ L) (cells + mc) (slots + ms) Q (F0 m (pc + 3) ls (v.toList ++ rest))) ∧
  (∀ (q : Addr) (st t : State) (H1 : Heap) (L : List Loc), st.heap = H → s.WarmedH st.vm → Qx a st (.threw q) t → t.heap = H1 → (∀ q ∈ L, free q.base) → ax_T p l e R s m args below meth c H1 (locs ++ L) (cells + mc) (slots + ms) Q (F0 m pc ls rest) q)
theorem ax_go {T : State} {vm₁ : Vm} (hb : c.code = cc) (X₁ : Stand p l e R s m args below meth c (T.setVm vm₁) locs cells slots) (hT : T.heap = H) {ig : Instr} (hdg : decode cc pc = .ok (ig, 3)) (hsize : ls.size = c.maxLocals) (hM : ax_Met l y ws rm Pc Qx mc ms free) (hC : ax_C R s args y bytes maxL ret ws rm n) (hrc : rm.cells = mc) (hrs : rm.slots = ms)
    (hcells : cells + mc ≤ R.cells) (hslots : slots + ms ≤ R.slots) (hwords : (rest.map fun v => v.category).sum ≤ 8) {mk : MethodId} (hn : (T.setVm vm₁).methodNamed? y = some mk) {a : Array Value} (hbl : FrameBlind Pc) (hPc : ∀ U : State, U.heap = H → s.WarmedH U.vm → Pc a U)
    (k : ax_K p l e R s m args below meth c H locs cells slots Q Qx mc ms free pc ls rest a) :
    ∃ t, Steps p.tables e below (doInvoke e ((T.setVm vm₁).setTop (F0 m pc ls rest)) [] mk a).1 t ∧ Q t := by
  obtain ⟨hws, hcw, -, hini, -, -, hfr, hlo⟩ := hC
  have hU : s.WarmedH (T.setVm vm₁).vm := X₁.warmed
  have hini' : (Cond.initialized y.cls).before a (T.setVm vm₁) = true := word_at hU (Or.inl (by first | rfl | simp [Cond.onTables, Cond.keeps, Cond.steady])) hini
  have hmr : (F0 m pc ls rest).monitorRoom = 0 := rfl
  rcases ax_run X₁ (g := F0 m pc ls rest) rfl hsize (by rw [hb]; exact hdg) hM hn (a := a) (fun w hw => hws w hw _ _ hU) hcw hini' hfr (by rw [hmr]; show 2 * 0 + (rest.map fun v => v.category).sum + (maxL + 11) + rm.locals ≤ R.locals; omega) (by rw [hrc]; exact hcells) (by rw [hrs]; exact hslots) (hbl _ _ _ _ (hPc _ hT hU)) with ⟨v, t, T', L, hq, e1, hW', hL, X', st⟩ | ⟨q, t, T', L, hq, e1, hW', hL, X', st⟩
  · obtain ⟨t2, a1, b1⟩ := k.1 v ((T.setVm vm₁).calling (F0 m pc ls rest) mk a) t T'.heap L hT hU hq e1.symm hL T' rfl X'
    exact ⟨t2, st.trans a1, b1⟩
  · obtain ⟨t2, a1, b1⟩ := k.2 q ((T.setVm vm₁).calling (F0 m pc ls rest) mk a) t T'.heap L hT hU hq e1.symm hL T' rfl X'
    exact ⟨t2, st.trans a1, b1⟩
theorem ax_S (hx : p.tables.exec = Jvm.exec) (hb : c.code = cc) (hown : s.vm.findClass own = some m.cls) (hsize : ls.size = c.maxLocals) (hM : ax_Met l y ws rm Pc Qx mc ms free) (hC : ax_C R s args y bytes maxL ret ws rm n) (hrc : rm.cells = mc) (hrs : rm.slots = ms) (hlink : (Cond.methodLink own index y).before args s = true) (hstat : (Cond.static y).before args s = true)
    (hcells : cells + mc ≤ R.cells) (hslots : slots + ms ≤ R.slots) (hn : As.length = n) (hwords : (rest.map fun v => v.category).sum ≤ 8) (hbl : FrameBlind Pc) (hPc : ∀ U : State, U.heap = H → s.WarmedH U.vm → Pc As.toArray U) (hdg : decode cc pc = .ok (.invokestatic index, 3))
    (k : ax_K p l e R s m args below meth c H locs cells slots Q Qx mc ms free pc ls rest As.toArray) : W p l e R s m args below meth c H locs cells slots Q (F0 m pc ls (As.reverse ++ rest)) := by
  intro T hT X
  obtain ⟨-, -, hcode, hini, hy, hlen, -, -⟩ := id hC
  obtain ⟨mk, hnamed⟩ := Cond.code_named hcode
  obtain ⟨methM, cM, hmethM, -, -, -, -, -, -, hsigM⟩ := Cond.code_spec hnamed hcode
  obtain ⟨kP, hkP, -⟩ := className_of_methodNamed hnamed
  obtain ⟨vm₁, X₁, hstep⟩ := X.invokestatic hx hown hlink hnamed hmethM (Cond.static_spec hnamed hmethM hstat) hkP (Cond.initialized_spec (findClass_of_methodNamed hnamed) hkP hini) hy (g := F0 m pc ls (As.reverse ++ rest)) rfl (argsL := As) (rest := rest) (hn.trans (hlen _ hsigM)) rfl (by rw [hb]; exact hdg)
  obtain ⟨t, a1, b1⟩ := ax_go hb X₁ hT hdg hsize hM hC hrc hrs hcells hslots hwords (X₁.named hnamed) hbl hPc k
  exact ⟨t, hstep _ fun acts => by rw [doInvoke_state]; exact a1, b1⟩
theorem ax_SN (hx : p.tables.exec = Jvm.exec) (hb : c.code = cc) (hown : s.vm.findClass own = some m.cls) (hsize : ls.size = c.maxLocals) (hM : ax_Met l y ws rm Pc Qx mc ms free) (hC : ax_C R s args y bytes maxL ret ws rm n) (hrc : rm.cells = mc) (hrs : rm.slots = ms) (hlink : (Cond.methodLinkNest own index y host).before args s = true) (hstat : (Cond.static y).before args s = true)
    (hcells : cells + mc ≤ R.cells) (hslots : slots + ms ≤ R.slots) (hn : As.length = n) (hwords : (rest.map fun v => v.category).sum ≤ 8) (hbl : FrameBlind Pc) (hPc : ∀ U : State, U.heap = H → s.WarmedH U.vm → Pc As.toArray U) (hdg : decode cc pc = .ok (.invokestatic index, 3))
    (k : ax_K p l e R s m args below meth c H locs cells slots Q Qx mc ms free pc ls rest As.toArray) : W p l e R s m args below meth c H locs cells slots Q (F0 m pc ls (As.reverse ++ rest)) := by
  intro T hT X
  obtain ⟨-, -, hcode, hini, hy, hlen, -, -⟩ := id hC
  obtain ⟨mk, hnamed⟩ := Cond.code_named hcode
  obtain ⟨methM, cM, hmethM, -, -, -, -, -, -, hsigM⟩ := Cond.code_spec hnamed hcode
  obtain ⟨kP, hkP, -⟩ := className_of_methodNamed hnamed
  obtain ⟨vm₁, X₁, hstep⟩ := X.invokestaticNest hx hown hlink hnamed hmethM (Cond.static_spec hnamed hmethM hstat) hkP (Cond.initialized_spec (findClass_of_methodNamed hnamed) hkP hini) hy (g := F0 m pc ls (As.reverse ++ rest)) rfl (argsL := As) (rest := rest) (hn.trans (hlen _ hsigM)) rfl (by rw [hb]; exact hdg)
  obtain ⟨t, a1, b1⟩ := ax_go hb X₁ hT hdg hsize hM hC hrc hrs hcells hslots hwords (X₁.named hnamed) hbl hPc k
  exact ⟨t, hstep _ fun acts => by rw [doInvoke_state]; exact a1, b1⟩
theorem ax_V (hx : p.tables.exec = Jvm.exec) (hb : c.code = cc) (hown : s.vm.findClass own = some m.cls) (hsize : ls.size = c.maxLocals) (hM : ax_Met l y ws rm Pc Qx mc ms free) (hC : ax_C R s args y bytes maxL ret ws rm n) (hrc : rm.cells = mc) (hrs : rm.slots = ms) (hlink : (Cond.methodLink own index y).before args s = true) (hinst : (Cond.instanceMethod y).before args s = true) (hsel : (Cond.selects C y y).before args s = true)
    {b : Addr} (hcell : ∃ cellB : Cell, H[b]? = some cellB ∧ cellB.vm.isStatics = false ∧ s.vm.findClass C = some cellB.cls)
    (hcells : cells + mc ≤ R.cells) (hslots : slots + ms ≤ R.slots) (hn : As.length = n) (hwords : (rest.map fun v => v.category).sum ≤ 8) (hbl : FrameBlind Pc) (hPc : ∀ U : State, U.heap = H → s.WarmedH U.vm → Pc (Value.ref b :: As).toArray U) (hdg : decode cc pc = .ok (.invokevirtual index, 3))
    (k : ax_K p l e R s m args below meth c H locs cells slots Q Qx mc ms free pc ls rest (Value.ref b :: As).toArray) : W p l e R s m args below meth c H locs cells slots Q (F0 m pc ls (As.reverse ++ .ref b :: rest)) := by
  intro T hT X
  obtain ⟨cellB, hcB, hobj, hcls⟩ := hcell
  obtain ⟨-, -, hcode, hini, hy, hlen, -, -⟩ := id hC
  obtain ⟨mk, methM, hnamed, hmethM, hstM, habM⟩ := Cond.instanceMethod_spec hinst
  obtain ⟨methM', cM, hmethM', -, -, -, -, -, -, hsigM⟩ := Cond.code_spec hnamed hcode
  cases hmethM.symm.trans hmethM'
  obtain ⟨c2, r2, m2, q1, q2, q3, q4, kP, hkP, hkPi⟩ := Cond.selects_spec hsel
  cases hcls.symm.trans q1
  cases (State.methodFound?_of_named hnamed hy).symm.trans q2
  cases hnamed.symm.trans q3
  have hselP : selectMethod e.platform s.vm cellB.cls mk = .method mk := by rw [Launch.admits_selectMethod X.admits]; exact q4
  obtain ⟨vm₁, X₁, hstep⟩ := X.invokevirtual hx hown hlink hnamed hmethM hstM hkP hkPi hy (a := b) (cell := cellB) (by rw [hT]; exact hcB)
    (fun z h => by rw [h] at hobj; cases hobj) hselP hmethM habM hkP hkPi (g := F0 m pc ls (As.reverse ++ .ref b :: rest)) rfl (argsL := As) (rest := rest) (hn.trans (hlen _ hsigM)) rfl (by rw [hb]; exact hdg)
  obtain ⟨t, a1, b1⟩ := ax_go hb X₁ hT hdg hsize hM hC hrc hrs hcells hslots hwords (X₁.named hnamed) hbl hPc k
  exact ⟨t, hstep _ fun acts => by rw [doInvoke_state]; exact a1, b1⟩
theorem ax_I (hx : p.tables.exec = Jvm.exec) (hb : c.code = cc) (hown : s.vm.findClass own = some m.cls) (hsize : ls.size = c.maxLocals) (hM : ax_Met l y ws rm Pc Qx mc ms free) (hC : ax_C R s args y bytes maxL none ws rm n) (hrc : rm.cells = mc) (hrs : rm.slots = ms) (hlink : (Cond.methodLink own index y).before args s = true) (hinst : (Cond.instanceMethod y).before args s = true) (hy1 : y.name = "<init>") {b : Addr}
    (hcells : cells + mc ≤ R.cells) (hslots : slots + ms ≤ R.slots) (hn : As.length = n) (hwords : (rest.map fun v => v.category).sum ≤ 8) (hbl : FrameBlind Pc) (hPc : ∀ U : State, U.heap = H → s.WarmedH U.vm → Pc (Value.ref b :: As).toArray U) (hdg : decode cc pc = .ok (.invokespecial index, 3))
    (k : ax_K p l e R s m args below meth c H locs cells slots Q Qx mc ms free pc ls rest (Value.ref b :: As).toArray) : W p l e R s m args below meth c H locs cells slots Q (F0 m pc ls (As.reverse ++ .ref b :: rest)) := by
  intro T hT X
  obtain ⟨-, -, hcode, hini, hy, hlen, -, -⟩ := id hC
  have hpl : e.platform.magicAccessors = ({} : Platform).magicAccessors := by rw [X.admits.platform]
  obtain ⟨mk, methM, cM, kP, vm₁, hnamed, hmethM, hcodeM, -, hlocalsM, -, hkP, -, hW₁, hstep⟩ := Steps.initColdArgs (e := e) X.here hx X.warmed hpl hown hy1 hy hlink hinst hcode (f := F0 m pc ls (As.reverse ++ .ref b :: rest)) rfl (argsL := As) (rest := rest) (a := b) (fun sig h => hn.trans (hlen sig h)) rfl (by rw [hb]; exact hdg)
  have X₁ := X.noted hW₁
  obtain ⟨t, a1, b1⟩ := ax_go hb X₁ hT hdg hsize hM hC hrc hrs hcells hslots hwords (X₁.named hnamed) hbl hPc k
  exact ⟨t, hstep _ fun acts => by rw [doInvoke_state]; exact a1, b1⟩
end AXC

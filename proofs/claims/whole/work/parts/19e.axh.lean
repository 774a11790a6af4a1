/-! Catching: a method with a table of handlers, every row over the call; the classes that the rows name may be unresolved as yet. -/
def ax_rows (pl : Platform) (s : State) (d : ClassId) (pc : Nat) (thrown : ClassId) : List ExceptionTableEntry → Nat → Prop
  | [], _ => False
  | x :: t, to => covers x pc = true ∧ x.catchType ≠ 0 ∧ ∃ k, s.vm.ClassLinks pl d x.catchType k ∧ ((s.vm.assignable thrown k = true ∧ to = x.handlerPc) ∨ (s.vm.assignable thrown k = false ∧ ax_rows pl s d pc thrown t to))
section AXH
variable {e : Env} {s : State}
theorem ax_row {Q : Handler → Pre} {E : CtlPost} {d : Bool} {acts : List Action} {S : State} {f : JFrame} {a : Addr} {x : ExceptionTableEntry} {t : List ExceptionTableEntry} {k : ClassId} {cell : Cell} (hx : covers x f.pc = true) (h0 : x.catchType ≠ 0) (hl : S.vm.ClassLinks e.platform f.method.cls x.catchType k) (hcell : S.heap[a]? = some cell) (hobj : ∀ z, cell.vm ≠ .statics z)
    (hk : ∃ z, S.vm.classes[cell.cls]? = some z) (hc : ∃ z, S.vm.classes[k]? = some z) :
    wp (findHandler.go f a (x :: t)) Q E e d acts S ↔ if S.vm.assignable cell.cls k = true then Q (.found x.handlerPc) d acts (S.setVm (S.vm.noted f.method.cls x.catchType (.cls k))) else wp (findHandler.go f a t) Q E e d acts (S.setVm (S.vm.noted f.method.cls x.catchType (.cls k))) := by
  simp only [covers] at hx
  obtain ⟨ha, ht⟩ := (resolveClass_links e.toSetting hl).op (op := VmOp.resolveClass f.method.cls x.catchType) rfl
  have hal : S.vm.Alike (S.vm.noted f.method.cls x.catchType (.cls k)) := (Vm.Alike.refl S.vm).noted _ _ _
  obtain ⟨k1, hk1⟩ := hk
  obtain ⟨k2, hk2⟩ := hc
  obtain ⟨k1', hk1', -⟩ := hal.2.2 _ _ hk1
  obtain ⟨k2', hk2', -⟩ := hal.2.2 _ _ hk2
  have hasg : (S.vm.noted f.method.cls x.catchType (.cls k)).assignable cell.cls k = S.vm.assignable cell.cls k := by rw [hal.assignable]
  cases hfit : S.vm.assignable cell.cls k <;> simp [findHandler.go, hx, h0, ha, ht, hcell, hobj, hk1', hk2', hasg, hfit, VmOp.dirties, VmOp.acts]
theorem ax_find {f : JFrame} {a : Addr} {cell : Cell} {to : Nat} (hobj : ∀ z, cell.vm ≠ .statics z) (hk0 : ∃ z, s.vm.classes[cell.cls]? = some z) : ∀ (rows : List ExceptionTableEntry) (S : State), s.WarmedH S.vm → S.heap[a]? = some cell → ax_rows e.platform s f.method.cls f.pc cell.cls rows to →
    ∃ vm', s.WarmedH vm' ∧ ∀ (Q : Handler → Pre) (E : CtlPost) (d : Bool) (acts : List Action), wp (findHandler.go f a rows) Q E e d acts S ↔ Q (.found to) d acts (S.setVm vm') := by
  intro rows
  obtain ⟨k0, hk0⟩ := hk0
  induction rows with
  | nil => intro S _ _ h; exact h.elim
  | cons x t ih =>
    intro S hW hcell h
    obtain ⟨hx, h0, k, hl, hor⟩ := h
    obtain ⟨k0', hk0', -⟩ := hW.alike.2.2 _ _ hk0
    obtain ⟨dk, _, _, kt, hd, _, _, _, _, hkt, _, hopen⟩ := hl.here
    obtain ⟨kt', hkt', -⟩ := hW.alike.2.2 _ _ hkt
    have hW1 := hW.noted hd hopen (State.rightAt_cls hl)
    rcases hor with ⟨hfit, rfl⟩ | ⟨hno, hrest⟩
    · refine ⟨_, hW1, fun Q E d acts => ?_⟩
      rw [ax_row hx h0 (hW.classLinks hl) hcell hobj ⟨k0', hk0'⟩ ⟨kt', hkt'⟩, if_pos (by rw [hW.alike.assignable]; exact hfit)]
    · obtain ⟨vm', hW', hq⟩ := ih (S.setVm (S.vm.noted f.method.cls x.catchType (.cls k))) hW1 hcell hrest
      refine ⟨vm', hW', fun Q E d acts => ?_⟩
      rw [ax_row hx h0 (hW.classLinks hl) hcell hobj ⟨k0', hk0'⟩ ⟨kt', hkt'⟩, if_neg (by rw [hW.alike.assignable, hno]; decide)]
      exact hq Q E d acts
theorem ax_stepc {S : State} {a : Addr} {f : JFrame} {r : List Frame} {to : Nat} {vm' : Vm} (hfind : ∀ (Q : Handler → Pre) (E : CtlPost) (d : Bool) (acts : List Action), wp (findHandler f a) Q E e d acts S ↔ Q (.found to) d acts (S.setVm vm')) :
    (stepThrowing e S a (.java f :: r)).1 = (S.setVm vm').setFrames (.java { f with pc := to, stack := [.ref a] } :: r) := by
  simp only [stepThrowing, searchFrame, vmDo]
  generalize hr : Sem.go _ e false [] S = res
  obtain ⟨as, rfl, ha⟩ := Sem.eq_ok_of hr (a := Handler.found to) (s' := S.setVm vm') (acts' := []) (by simp [hfind _ _ _ _])
  rfl
variable {p : Program} {l : Launch} {R : Room} {m : MethodId} {args : Array Value} {below : List Frame} {meth : Method} {c : Code} {H : Heap} {locs : List Loc} {cells slots : Nat} {Q : State → Prop} {own : String}
/-- caught in this method -/
theorem ax_catch {q : Addr} {ce : Cell} {E : String} {pc to : Nat} {ls : Array Slot} {st : List Value} (hcell : H[q]? = some ce) (hv : ce.vm = .none) (hcl : s.vm.findClass E = some ce.cls) (hrow : ∀ e : Env, l.admits e → ax_rows e.platform s m.cls pc ce.cls c.exceptionTable.toList to)
    (kk : W p l e R s m args below meth c H locs cells slots Q (F0 m to ls [.ref q])) : ax_T p l e R s m args below meth c H locs cells slots Q (F0 m pc ls st) q := by
  intro T hT X
  have hk0 : ∃ z, s.vm.classes[ce.cls]? = some z := by
    obtain ⟨k9, h9, -⟩ := Vm.findClass_spec hcl
    exact ⟨k9, h9⟩
  obtain ⟨vm', hW', hq⟩ := ax_find (e := e) (s := s) (f := F0 m pc ls st) (a := q) (cell := ce) (to := to) (fun z h => by rw [hv] at h; cases h) hk0 c.exceptionTable.toList ((T.setTop (F0 m pc ls st)).pushFrame (.throwing q)) X.warmed (by rw [Stand.throwing_heap, hT]; exact hcell) (hrow e X.admits)
  obtain ⟨t, a1, b1⟩ := kk (T.setVm vm') hT (X.noted hW')
  refine ⟨t, ?_, b1⟩
  have h : At T (F0 m pc ls st).method c below := X.here
  obtain ⟨hgo, hw⟩ := h.throwing q
  have hm' : ((T.setTop (F0 m pc ls st)).pushFrame (.throwing q)).vm.method? (F0 m pc ls st).method = some meth := X.method'
  refine Steps.head hgo hw ?_
  rw [stepThread_throwing (frames_entered h.top _)]
  obtain ⟨g0, hg⟩ := Option.isSome_iff_exists.mp h.top
  obtain ⟨r, hr⟩ := State.topJava?_eq_some.mp hg
  have hr' : (T.setVm vm').frames = .java g0 :: r := hr
  rw [ax_stepc (to := to) (vm' := vm') (fun Q E d acts => by rw [W.findHandler_eq hm' X.code]; exact hq Q E d acts)]
  rw [State.setTop_of_frames _ hr'] at a1
  rw [hr, List.tail_cons, State.pushFrame, State.setTop_of_frames _ hr]
  simp only [State.setFrames_setVm, State.setFrames_setFrames]
  exact a1
end AXH

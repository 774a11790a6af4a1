/-! new int[n][k]: one instruction makes the outer row and n rows of ints behind it. -/
/-- the outer row, when i rows are in it -/
def mz_o (cA : ClassId) (N a i : Nat) : Cell := arrV cA N (fun j => va_rf (if j < i then some (a + 1 + j) else none))
def mz_i (cI : ClassId) (K : Nat) : Cell := arrV cI K (fun _ => .int 0)
def mz_S (S : State) (cA cI : ClassId) (N K : Nat) : Nat → State
  | 0 => S.pushCell (mz_o cA N S.heap.size 0)
  | i + 1 => ((mz_S S cA cI N K i).pushCell (mz_i cI K)).setCell S.heap.size (mz_o cA N S.heap.size (i + 1))
theorem mz_o_set (cA : ClassId) (N a i : Nat) : (mz_o cA N a i).setSlot i (.ref (a + 1 + i)) = mz_o cA N a (i + 1) := by
  unfold mz_o
  rw [arrV_store]
  refine congrArg (arrV cA N) (funext fun j => ?_)
  unfold updV
  by_cases h : j = i
  · subst h
    simp [va_rf]
  · by_cases h2 : j < i
    · have h3 : j < i + 1 := by omega
      simp [h, h2, h3]
    · have h3 : ¬ j < i + 1 := by omega
      simp [h, h2, h3]
theorem mz_facts (S : State) (cA cI : ClassId) (N K : Nat) : ∀ i, (mz_S S cA cI N K i).heap.size = S.heap.size + 1 + i ∧ (mz_S S cA cI N K i).heap[S.heap.size]? = some (mz_o cA N S.heap.size i) ∧ (mz_S S cA cI N K i).vm = S.vm ∧ (mz_S S cA cI N K i).slotsUsed = S.slotsUsed + N + i * K ∧
    (∀ q, q < S.heap.size → (mz_S S cA cI N K i).heap[q]? = S.heap[q]?) ∧ (∀ j, j < i → (mz_S S cA cI N K i).heap[S.heap.size + 1 + j]? = some (mz_i cI K)) := by
  intro i
  induction i with
  | zero =>
    refine ⟨by simp [mz_S], by simp [mz_S], rfl, ?_, fun q hq => State.heap_pushCell_of_lt _ _ hq, fun j hj => absurd hj (Nat.not_lt_zero j)⟩
    simp [mz_S, mz_o, arrV_size]
  | succ i ih =>
    obtain ⟨f1, f2, f3, f4, f5, f6⟩ := ih
    have hlt : S.heap.size < (mz_S S cA cI N K i).heap.size := by omega
    have hb : ((mz_S S cA cI N K i).pushCell (mz_i cI K)).heap[S.heap.size]? = some (mz_o cA N S.heap.size i) := by rw [State.heap_pushCell_of_lt (h := hlt)]; exact f2
    refine ⟨?_, State.heap_setCell_self hb, by simp [mz_S, f3], ?_, fun q hq => ?_, fun j hj => ?_⟩
    · simp [mz_S, State.setCell, f1]; omega
    · simp [mz_S, f4, mz_i, arrV_size, Nat.succ_mul]; omega
    · show (((mz_S S cA cI N K i).pushCell (mz_i cI K)).setCell S.heap.size _).heap[q]? = _
      have hq2 : q < (mz_S S cA cI N K i).heap.size := by omega
      rw [State.heap_setCell_other (Nat.ne_of_gt hq), State.heap_pushCell_of_lt (h := hq2)]
      exact f5 q hq
    · show (((mz_S S cA cI N K i).pushCell (mz_i cI K)).setCell S.heap.size _).heap[S.heap.size + 1 + j]? = _
      rw [State.heap_setCell_other (show S.heap.size ≠ S.heap.size + 1 + j by omega)]
      by_cases hj2 : j < i
      · have hj3 : S.heap.size + 1 + j < (mz_S S cA cI N K i).heap.size := by omega
        rw [State.heap_pushCell_of_lt (h := hj3)]
        exact f6 j hj2
      · have e : j = i := by omega
        subst e
        rw [← f1]
        exact State.heap_pushCell_size _ _
theorem mz_top (S : State) (f : JFrame) (cA cI : ClassId) (N K : Nat) : ∀ i, mz_S (S.setTop f) cA cI N K i = (mz_S S cA cI N K i).setTop f := by
  intro i
  induction i with
  | zero => rfl
  | succ i ih => simp only [mz_S, ih, State.heap_setTop, State.pushCell_setTop, State.setCell_setTop]
section MZW
variable {E : CtlPost} {e : Env} {d : Bool} {acts : List Action} {S : State}
/-- a new array, by the machine's own maker -/
theorem mz_new {c comp : ClassId} {k : Class} {ty : FieldType} {len : Nat} {init : Value} (hk : S.vm.classes[c]? = some k) (hkind : k.kind = .array comp ty) (hlim : ¬ len > e.platform.arrayLengthLimit) (hhp : ¬ len * componentBytes ty > e.platform.maxHeapBytes) (hfit : fits ty init = true) (hdef : init.isDefault = true)
    (h1 : S.heap.size < e.platform.maxCells) (h2 : S.slotsUsed + len ≤ e.platform.maxSlots) {Q : Addr → Pre} (hq : Q S.heap.size d acts (S.pushCell (arrV c len (fun _ => init)))) : wp (Jvm.newArray c len init) Q E e d acts S := by
  have hacts : allocActs (Array.replicate len init) S.heap.size acts = acts := by
    have hall : ((Array.replicate len init).all (·.isDefault)) = true := by
      rw [Array.all_replicate]
      split <;> simp [hdef]
    unfold allocActs
    rw [if_pos hall]
  simp only [Jvm.newArray, Jvm.arrayFits, wp_bind', W.ask, W.ite, hlim, if_false, wp_pure', W.theClass, hk, hkind, hhp, W.alloc, W.stop, Option.some.injEq, exists_eq_left', Array.size_replicate, hacts]
  rw [if_neg (by omega), arrV_new]
  refine ⟨h1, h2, fun i v hv => ?_, hq⟩
  rw [Array.getElem?_replicate] at hv
  split at hv
  · cases hv
    simp [State.fitsSlot, State.slotType?, hk, hkind, hfit]
  · cases hv
theorem mz_make {cA cI cc : ClassId} {kA kI : Class} {n k : Int32} (hA : S.vm.classes[cA]? = some kA) (hkA : kA.kind = .array cI (.array .int)) (hI : S.vm.classes[cI]? = some kI) (hkI : kI.kind = .array cc .int) (hn : ¬ n < 0) (hk : ¬ k < 0) (l1 : ¬ n.toNatClampNeg > e.platform.arrayLengthLimit) (l2 : ¬ n.toNatClampNeg * componentBytes (.array .int) > e.platform.maxHeapBytes) (l3 : ¬ k.toNatClampNeg > e.platform.arrayLengthLimit) (l4 : ¬ k.toNatClampNeg * componentBytes .int > e.platform.maxHeapBytes)
    (r1 : S.heap.size + 1 + n.toNatClampNeg ≤ e.platform.maxCells) (r2 : S.slotsUsed + n.toNatClampNeg + n.toNatClampNeg * k.toNatClampNeg ≤ e.platform.maxSlots) {Q : Addr → Pre} (hq : ∀ d' acts', Q S.heap.size d' acts' (mz_S S cA cI n.toNatClampNeg k.toNatClampNeg n.toNatClampNeg)) :
    wp (multianewarray.make cA [n, k]) Q E e d acts S := by
  generalize hN : n.toNatClampNeg = N at *
  generalize hKk : k.toNatClampNeg = K at *
  have hneg : ([k].find? (· < 0)) = none := by simp [hk]
  rw [multianewarray.make]
  simp only [wp_bind', W.ite, hn, if_false, wp_pure', W.theClass, hA, hkA, Option.some.injEq, exists_eq_left', hN]
  refine mz_new hA hkA l1 l2 rfl rfl (by omega) (by have := Nat.zero_le (N * K); omega) ?_
  simp only [hneg]
  rw [ite_self, wp_bind', Std.Legacy.Range.forIn_eq_forIn_range']
  have hsz : ([:N] : Std.Legacy.Range).size = N := by simp [Std.Legacy.Range.size]
  rw [hsz]
  show wp (forIn (List.range' 0 N 1) PUnit.unit _) _ E e d acts _
  have e0 : S.pushCell (arrV cA N (fun _ => .null)) = mz_S S cA cI N K 0 := by
    show _ = S.pushCell (mz_o cA N S.heap.size 0)
    unfold mz_o
    simp [va_rf]
  rw [e0]
  refine wp_forIn_inv (fun rest s' => ∃ i, i ≤ N ∧ rest = List.range' i (N - i) ∧ s' = mz_S S cA cI N K i) _ _ ⟨0, Nat.zero_le _, rfl, rfl⟩ ?_ ?_
  · rintro x rest s' d' acts' Q' ⟨i, hi, hl, rfl⟩ hnext
    have hlt : i < N := by
      rcases Nat.lt_or_ge i N with h | h
      · exact h
      · rw [show N - i = 0 by omega] at hl
        simp at hl
    rw [show N - i = (N - (i + 1)) + 1 by omega, List.range'_succ] at hl
    obtain ⟨hl1, hl2⟩ := List.cons.inj hl
    subst hl1
    obtain ⟨f1, f2, f3, f4, -, -⟩ := mz_facts S cA cI N K x
    have hmul : x * K + K ≤ N * K := by
      have := Nat.mul_le_mul_right K (show x + 1 ≤ N from hlt)
      rw [Nat.succ_mul] at this
      exact this
    rw [multianewarray.make]
    simp only [wp_bind', W.ite, hk, if_false, wp_pure', W.theClass, f3, hI, hkI, Option.some.injEq, exists_eq_left', hKk]
    refine mz_new (by rw [f3]; exact hI) hkI l3 l4 rfl rfl (by omega) (by omega) ?_
    have hlt0 : S.heap.size < (mz_S S cA cI N K x).heap.size := by omega
    simp only [wp_bind', W.writeLoc, wp_pure']
    refine ⟨mz_o cA N S.heap.size x, by rw [State.heap_pushCell_of_lt (h := hlt0)]; exact f2, by simp [mz_o, arrV], by rw [show (mz_o cA N S.heap.size x).slots.size = N from arrV_size _ _ _]; exact hlt, ?_, hnext _ _ _ ⟨x + 1, hlt, hl2, ?_⟩⟩
    · show State.fitsSlot _ cA .none x (.ref _) = true
      simp [State.fitsSlot, State.slotType?, f3, hA, hkA, fits]
    · rw [f1, mz_o_set]
      rfl
  · rintro s' d' acts' ⟨i, hi, hl, rfl⟩
    have hiN : i = N := by
      rcases Nat.lt_or_ge i N with h | h
      · rw [show N - i = (N - (i + 1)) + 1 by omega, List.range'_succ] at hl
        cases hl
      · omega
    subst hiN
    simp only [wp_pure']
    exact hq _ _
end MZW
section MZS
variable {p : Program} {l : Launch} {e : Env} {R : Room} {s : State} {m : MethodId} {args : Array Value} {below : List Frame} {meth : Method} {c : Code} {locs : List Loc} {cells slots : Nat}
theorem mz_stand {T : State} (X : Stand p l e R s m args below meth c T locs cells slots) (cA cI : ClassId) (N K : Nat) : ∀ i, Stand p l e R s m args below meth c (mz_S T cA cI N K i) (locs ++ (List.range i).map fun j => ⟨T.heap.size, j⟩) (cells + 1 + i) (slots + N + i * K) := by
  intro i
  induction i with
  | zero =>
    have h := X.pushed (mz_o cA N T.heap.size 0)
    rw [show (mz_o cA N T.heap.size 0).slots.size = N from arrV_size _ _ _] at h
    simpa [mz_S] using h
  | succ i ih =>
    obtain ⟨f1, f2, -, -, -, -⟩ := mz_facts T cA cI N K i
    have hlt : T.heap.size < (mz_S T cA cI N K i).heap.size := by omega
    have hcell : ((mz_S T cA cI N K i).pushCell (mz_i cI K)).heap[T.heap.size]? = some (mz_o cA N T.heap.size i) := by rw [State.heap_pushCell_of_lt (h := hlt)]; exact f2
    have h := (ih.pushed (mz_i cI K)).stored hcell i (.ref (T.heap.size + 1 + i))
    rw [show (mz_i cI K).slots.size = K from arrV_size _ _ _, mz_o_set] at h
    have e2 : (locs ++ (List.range (i + 1)).map fun j => (⟨T.heap.size, j⟩ : Loc)) = (locs ++ (List.range i).map fun j => (⟨T.heap.size, j⟩ : Loc)) ++ [⟨T.heap.size, i⟩] := by simp [List.range_succ, List.append_assoc]
    have e3 : slots + N + (i + 1) * K = slots + N + i * K + K := by rw [Nat.succ_mul]; omega
    rw [e2, e3]
    exact h
variable {cc : ByteArray} {own : String} {H : Heap} {Q : State → Prop} {pc : Nat} {ls : Array Slot} {rest : List Value}
set_option maxHeartbeats 4000000 in
theorem am_mz (hx : p.tables.exec = Jvm.exec) (hb : c.code = cc) (hown : s.vm.findClass own = some m.cls) {ix : Nat} (hlink : (Cond.classLink own ix ("[" ++ (FieldType.array .int).toString)).before args s = true) (hao : (Cond.arrayOver (.array .int)).before args s = true) (hac : (Cond.arrayClass .int).before args s = true) {n k : Int32} (hdg : decode cc pc = .ok (.multianewarray ix 2, 4)) (hn : ¬ n < 0) (hk : ¬ k < 0) (b1 : n.toNatClampNeg * 4 ≤ 536870912) (b2 : k.toNatClampNeg * 4 ≤ 536870912)
    (hcells : cells + (1 + n.toNatClampNeg) ≤ R.cells) (hslots : slots + (n.toNatClampNeg + n.toNatClampNeg * k.toNatClampNeg) ≤ R.slots)
    (kk : ∀ (H1 : Heap) (cA cI : ClassId), s.vm.findClass ("[" ++ (FieldType.array .int).toString) = some cA → s.vm.findClass ("[" ++ FieldType.int.toString) = some cI → H1.size = H.size + 1 + n.toNatClampNeg → H1[H.size]? = some (mz_o cA n.toNatClampNeg H.size n.toNatClampNeg) → (∀ j, j < n.toNatClampNeg → H1[H.size + 1 + j]? = some (mz_i cI k.toNatClampNeg)) → (∀ q, q < H.size → H1[q]? = H[q]?) →
      W p l e R s m args below meth c H1 locs (cells + (1 + n.toNatClampNeg)) (slots + (n.toNatClampNeg + n.toNatClampNeg * k.toNatClampNeg)) Q (F0 m (pc + 4) ls (.ref H.size :: rest))) : W p l e R s m args below meth c H locs cells slots Q (F0 m pc ls (.int k :: .int n :: rest)) := by
  intro T hT X
  have hpl : e.platform.magicAccessors = ({} : Platform).magicAccessors := by rw [X.admits.platform]
  obtain ⟨cI, cA, kA, hcI, -, hkA, hkindA, hnA⟩ := arrayOverA_spec hao
  obtain ⟨cI', kI, cc', hcI', hkI, hkindI⟩ := Cond.arrayClass_spec hac
  have ecI : cI' = cI := Option.some.inj (hcI'.symm.trans hcI)
  subst ecI
  obtain ⟨c0, hfc0, hcl⟩ := Cond.classLink_spec hown hlink e.platform hpl
  cases hnA.symm.trans hfc0
  obtain ⟨hg1, hwarm, hready⟩ := State.classEntry (e := e) X.warmed hcl
  generalize T.vm.noted m.cls ix (.cls cA) = vm1 at hg1 hwarm hready
  have hal : s.vm.Alike vm1 := hwarm.alike
  obtain ⟨kA1, hkA1, heA⟩ := hal.2.2 _ _ hkA
  obtain ⟨kI1, hkI1, heI⟩ := hal.2.2 _ _ hkI
  have X1 := X.noted hwarm
  obtain ⟨hr1, hr2⟩ := X.roomAbove hcells hslots
  obtain ⟨f1, f2, -, -, f5, f6⟩ := mz_facts (T.setVm vm1) cA cI' n.toNatClampNeg k.toNatClampNeg n.toNatClampNeg
  have hTh : (T.setVm vm1).heap = H := hT
  rw [hTh] at f1 f2 f5 f6
  have XF := mz_stand X1 cA cI' n.toNatClampNeg k.toNatClampNeg n.toNatClampNeg
  have hle : s.heap.size ≤ H.size := by
    have := X.same.2.1
    rw [← hT]
    exact this
  have XG := Stand.forget XF (fun y hy => by
    obtain ⟨j, -, rfl⟩ := List.mem_map.mp hy
    show s.heap.size ≤ (T.setVm vm1).heap.size
    rw [hTh]
    exact hle)
  have e3 : cells + 1 + n.toNatClampNeg = cells + (1 + n.toNatClampNeg) := by omega
  have e4 : slots + n.toNatClampNeg + n.toNatClampNeg * k.toNatClampNeg = slots + (n.toNatClampNeg + n.toNatClampNeg * k.toNatClampNeg) := by omega
  rw [e3, e4] at XG
  obtain ⟨t, a1, b1'⟩ := kk _ cA cI' hnA hcI' f1 f2 f6 f5 _ rfl XG
  refine ⟨t, ?_, b1'⟩
  have l1 : ¬ n.toNatClampNeg > e.platform.arrayLengthLimit := by rw [Launch.admits_arrayLengthLimit X.admits]; omega
  have l2 : ¬ n.toNatClampNeg * componentBytes (.array .int) > e.platform.maxHeapBytes := by
    rw [Launch.admits_maxHeapBytes X.admits]
    show ¬ n.toNatClampNeg * 4 > 536870912
    omega
  have l3 : ¬ k.toNatClampNeg > e.platform.arrayLengthLimit := by rw [Launch.admits_arrayLengthLimit X.admits]; omega
  have l4 : ¬ k.toNatClampNeg * componentBytes .int > e.platform.maxHeapBytes := by
    rw [Launch.admits_maxHeapBytes X.admits]
    show ¬ k.toNatClampNeg * 4 > 536870912
    omega
  have hdg' : decode c.code pc = .ok (.multianewarray ix 2, 4) := by rw [hb]; exact hdg
  jvm_step X.here [hx, hdg']
  simp only [multianewarray.sem, wp_bind', W.resolveClassAt_links (State.method?_setTop (F0 m pc ls (.int k :: .int n :: rest)) X.here.top) hg1]
  rw [W.popN, if_neg (by decide)]
  refine ⟨F0 m pc ls (.int k :: .int n :: rest), State.topJava?_setTop' (s := T.setVm vm1) _ X.here.top, [.int n, .int k], rest, rfl, rfl, ?_⟩
  simp only [List.mapM_cons, List.mapM_nil, wp_bind', wp_pure']
  refine mz_make (kA := kA1) (kI := kI1) hkA1 (by rw [heA]; exact hkindA) hkI1 (by rw [heI]; exact hkindI) hn hk l1 l2 l3 l4 (by show T.heap.size + 1 + _ ≤ _; omega) (by show T.slotsUsed + _ + _ ≤ _; omega) (fun d' acts' => ?_)
  have eS : ((T.setTop (F0 m pc ls (.int k :: .int n :: rest))).setVm vm1).setTop (F0 m pc ls rest) = (T.setVm vm1).setTop (F0 m pc ls rest) := by
    show ((T.setVm vm1).setTop (F0 m pc ls (.int k :: .int n :: rest))).setTop _ = _
    rw [State.setTop_setTop]
  rw [show ({ F0 m pc ls (.int k :: .int n :: rest) with stack := rest } : JFrame) = F0 m pc ls rest from rfl, eS, mz_top]
  simp only [wp_bind', W.mark, W.pushRef, State.topJava?_setTop' _ XF.here.top, Option.some.injEq, exists_eq_left', State.setTop_setTop, State.heap_setTop]
  intro acts
  simp [jvm, XF.here.top]
  rw [hT]
  exact a1
end MZS

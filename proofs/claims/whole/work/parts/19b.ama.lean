/-! Making cells: the constructors' phase. The places lie one behind another from ad 0 on. -/
def am_cs (e : va_E) : Nat := match e with
  | .inl (_, n, _) => n
  | .inr (_, fs) => fs.length
def am_sz (h : List va_E) : Nat := (h.map am_cs).sum
theorem am_sz_push {h : List va_E} {x : va_E} : am_sz (h ++ [x]) = am_sz h + am_cs x := by simp [am_sz]
theorem am_sz_set {h : List va_E} {k : Nat} {x y : va_E} (hk : h[k]? = some x) (e : am_cs y = am_cs x) : am_sz (h.set k y) = am_sz h := by
  induction h generalizing k with
  | nil => rfl
  | cons a h ih =>
    cases k with
    | zero =>
      simp only [List.getElem?_cons_zero, Option.some.injEq] at hk
      subst hk
      simp [am_sz, e]
    | succ k =>
      simp only [List.getElem?_cons_succ] at hk
      have := ih hk
      simp only [am_sz, List.set_cons_succ, List.map_cons, List.sum_cons] at this ⊢
      omega
section AMA
variable {p : Program} {l : Launch} {e : Env} {R : Room} {s : State} {m : MethodId} {args : Array Value} {below : List Frame} {meth : Method} {c : Code} {H : Heap} {locs : List Loc} {cells slots : Nat} {Q : State → Prop}
variable {cc : ByteArray} {ad : Nat → Nat} {ca : Nat → ClassId} {nL : Nat} {D : va_G} {cl : List vw_C} {A : Nat → Prop} {tys : List (ClassId × FieldType)} {Ts : List Cond} {own : String}
/-- the heap ends where the places end -/
theorem am_end {g : JFrame} {h : List va_E} {b0 len0 : Nat} (had : ∀ k, k < 1000000 → ad k = b0 + k) (hs : s.heap.size = b0 + len0) (hc : cells + len0 = h.length) (hl : h.length ≤ 1000000) (hP : va_P D cl (am_ws ad ca h) H) (hS : va_S A s.heap H locs) (k : H.size = b0 + h.length → W p l e R s m args below meth c H locs cells slots Q g) : W p l e R s m args below meth c H locs cells slots Q g := by
  intro T hT X
  refine k ?_ T hT X
  have h1 := X.heapSize
  rw [hT, hs] at h1
  have h2 := hS.1
  rw [hs] at h2
  by_cases hz : h.length = len0
  · omega
  · have h3 : h.length - 1 < h.length := by omega
    have h4 : h[h.length - 1]? = some h[h.length - 1] := List.getElem?_eq_getElem h3
    have h5 : ad (h.length - 1) < H.size := (hP _ _ (am_ws_get h4)).lt
    rw [had _ (by omega)] at h5
    omega
/-- a cell more -/
theorem am_push {h : List va_E} {x : va_E} {H1 : Heap} (hP : va_P D cl (am_ws ad ca h) H) (hk : ∀ q, q < H.size → H1[q]? = H[q]?) (hx : va_at D cl (ad h.length, am_c ad ca x) H1) : va_P D cl (am_ws ad ca (h ++ [x])) H1 := by
  rw [← am_ws_push]
  refine (hP.kept (fun k q hq => hk q.1 ((hP k q hq).lt))).app (fun k q hq => ?_)
  have hz : k < 1 := (List.getElem?_eq_some_iff.mp hq).1
  rw [show k = 0 by omega] at hq
  cases hq
  exact hx
/-- cells more -/
theorem am_pushL {h G : List va_E} {H1 : Heap} (hP : va_P D cl (am_ws ad ca h) H) (hk : ∀ q, q < H.size → H1[q]? = H[q]?) (hx : ∀ j x, G[j]? = some x → va_at D cl (ad (h.length + j), am_c ad ca x) H1) : va_P D cl (am_ws ad ca (h ++ G)) H1 := by
  intro k q hq
  unfold am_ws at hq
  rw [List.getElem?_mapIdx] at hq
  by_cases hl : k < h.length
  · rw [List.getElem?_append_left hl] at hq
    cases hg : h[k]? with
    | none => rw [hg] at hq; cases hq
    | some x =>
      rw [hg] at hq
      cases hq
      have h1 := hP k _ (am_ws_get hg)
      exact h1.kept (hk _ h1.lt)
  · rw [List.getElem?_append_right (by omega)] at hq
    cases hg : G[k - h.length]? with
    | none => rw [hg] at hq; cases hq
    | some x =>
      rw [hg] at hq
      cases hq
      have h1 := hx _ _ hg
      rw [show h.length + (k - h.length) = k by omega] at h1
      exact h1
theorem am_sz_app {h G : List va_E} : am_sz (h ++ G) = am_sz h + am_sz G := by simp [am_sz]
theorem am_sz_rep {n K : Nat} {f : Nat → Int32} : am_sz (List.replicate n (.inl (0, K, .inl f))) = n * K := by
  induction n with
  | zero => simp [am_sz]
  | succ n ih =>
    simp only [am_sz, List.replicate_succ, List.map_cons, List.sum_cons, am_cs] at ih ⊢
    rw [ih, Nat.succ_mul]
    omega
theorem am_pushS {H1 : Heap} (hS : va_S A s.heap H locs) (hz : H.size ≤ H1.size) (hk : ∀ q, q < H.size → H1[q]? = H[q]?) : va_S A s.heap H1 locs :=
  ⟨Nat.le_trans hS.1 hz, fun q h1 h2 => (hk q (Nat.lt_of_lt_of_le h1 hS.1)).trans (hS.2.1 q h1 h2), hS.2.2⟩
/-- what the table of objects made rests on -/
def am_Nw (own : String) (Ts : List Cond) (cl : List vw_C) (knw : Nat → Option (Nat × List Value)) : Prop :=
  ∀ ix ci fs, knw ix = some (ci, fs) → ∃ (C : String) (T : u_T) (N : Nat) (ty : Nat → FieldType), cl[ci]? = some (C, T, N) ∧ (∀ w ∈ u_ws C T N, w ∈ Ts) ∧ (∀ j, j < N → parseFieldDescriptor (T j).2.2.1 = some (ty j)) ∧ Cond.classLink own ix C ∈ Ts ∧ Cond.instantiable C N ∈ Ts ∧ Cond.initialized C ∈ Ts ∧ fs.length = N ∧ (∀ j, j < N → defaultValue (ty j) = vp_V fs j) ∧ ∀ v ∈ fs, ∀ k, v ≠ .ref k
def am_al (knw : Nat → Option (Nat × List Value)) (anw mnw obj : Nat → Bool) (i : Instr) (n pc : Nat) (L : List (Option Value)) (st : List Value) (h : List va_E) : Option am_S := match i, n, st with
  | .new ix, 3, t => match knw ix with
    | some (ci, fs) => some (pc + 3, L, .ref h.length :: t, h ++ [.inr (ci, fs)])
    | none => none
  | .newarray .int, 2, .int x :: t => if ¬ x < 0 ∧ x.toNatClampNeg * 4 ≤ 536870912 then some (pc + 2, L, .ref h.length :: t, h ++ [.inl (0, x.toNatClampNeg, .inl (fun _ => 0))]) else none
  | .newarray .boolean, 2, .int x :: t => if ¬ x < 0 ∧ x.toNatClampNeg ≤ 536870912 then some (pc + 2, L, .ref h.length :: t, h ++ [.inl (1, x.toNatClampNeg, .inl (fun _ => 0))]) else none
  | .newarray .long, 2, .int x :: t => if ¬ x < 0 ∧ x.toNatClampNeg * 8 ≤ 536870912 then some (pc + 2, L, .ref h.length :: t, h ++ [.inl (2, x.toNatClampNeg, .inr (.inl (fun _ => 0)))]) else none
  | .anewarray ix, 3, .int x :: t => if anw ix = true ∧ ¬ x < 0 ∧ x.toNatClampNeg * 4 ≤ 536870912 then some (pc + 3, L, .ref h.length :: t, h ++ [.inl (3, x.toNatClampNeg, .inr (.inr (.inr (.inr (fun _ => none)))))]) else none
  | .multianewarray ix 2, 4, .int y :: .int x :: t => if mnw ix = true ∧ ¬ x < 0 ∧ ¬ y < 0 ∧ x.toNatClampNeg * 4 ≤ 536870912 ∧ y.toNatClampNeg * 4 ≤ 536870912 then some (pc + 4, L, .ref h.length :: t, h ++ (.inl (4, x.toNatClampNeg, .inr (.inr (.inr (.inr (fun i => if i < x.toNatClampNeg then some (h.length + 1 + i) else none))))) :: List.replicate x.toNatClampNeg (.inl (0, y.toNatClampNeg, .inl (fun _ => 0))))) else none
  | .aastore, 1, .ref v :: .int j :: .ref k :: t => match h[k]?, h[v]? with
    | some (.inl (3, n, .inr (.inr (.inr (.inr f))))), some (.inr (ci, _)) => if ¬ (j < 0 ∨ n ≤ j.toNatClampNeg) ∧ ci = 2 then some (pc + 1, L, t, h.set k (.inl (3, n, .inr (.inr (.inr (.inr (va_up f j.toNatClampNeg (some v)))))))) else none
    | _, _ => none
  | .invokespecial ix, 3, .ref _ :: t => if obj ix = true ∧ (t.map fun v => v.category).sum ≤ 8 then some (pc + 3, L, t, h) else none
  | _, _, _ => none
set_option maxHeartbeats 4000000 in
theorem am_al_ok {b0 len0 sz0 : Nat} {C3 : String} {T3 : u_T} {N3 : Nat} {knw : Nat → Option (Nat × List Value)} {anw mnw obj : Nat → Bool} (hx : p.tables.exec = Jvm.exec) (hb : c.code = cc) (hml : c.maxLocals = nL) (hown : s.vm.findClass own = some m.cls) (hts : ∀ w ∈ Ts, w.before args s = true) (hK : va_K D cl tys s)
    (t0 : tys[0]? = some (ca 0, .int)) (t1 : tys[1]? = some (ca 1, .boolean)) (t2 : tys[2]? = some (ca 2, .long)) (t3 : tys[3]? = some (ca 3, .object C3)) (t4 : tys[4]? = some (ca 4, .array .int)) (hc3 : cl[2]? = some (C3, T3, N3)) (a0 : Cond.arrayClass .int ∈ Ts) (a1 : Cond.arrayClass .boolean ∈ Ts) (a2 : Cond.arrayClass .long ∈ Ts) (a3 : (Cond.arrayOver (.object C3)).before args s = true) (a4 : (Cond.arrayOver (.array .int)).before args s = true)
    (hN : am_Nw own Ts cl knw) (hanw : ∀ ix, anw ix = true → Cond.classLink own ix C3 ∈ Ts) (hmnw : ∀ ix, mnw ix = true → Cond.classLink own ix ("[" ++ (FieldType.array .int).toString) ∈ Ts) (hobj : ∀ ix, obj ix = true → Cond.methodLink own ix objectInit ∈ Ts ∧ Cond.instanceMethod objectInit ∈ Ts ∧ Cond.code objectInit ⟨#[0xb1]⟩ 1 none ∈ Ts) (hR1 : 1 ≤ R.frames) (hR2 : 20 ≤ R.locals)
    (had : ∀ k, k < 1000000 → ad k = b0 + k) (hs : s.heap.size = b0 + len0) (hD9 : ∀ h : List va_E, h.length ≤ 1000000 → va_D A (am_ws ad ca h))
    {i : Instr} {n pc : Nat} {L : List (Option Value)} {st : List Value} {h : List va_E} {r : am_S} {ls : Array Slot} (hL : am_has ad ls nL L) (hP : va_P D cl (am_ws ad ca h) H) (hD : va_D A (am_ws ad ca h)) (hS : va_S A s.heap H locs) (hd : decode cc pc = .ok (i, n)) (hr : am_al knw anw mnw obj i n pc L st h = some r)
    (hl : r.2.2.2.length ≤ 1000000) (hc : cells + len0 = h.length) (hsl : slots + sz0 = am_sz h) (hc' : r.2.2.2.length ≤ R.cells + len0) (hs' : am_sz r.2.2.2 ≤ R.slots + sz0)
    (k : ∀ ls' H1 locs1 cells1 slots1, am_has ad ls' nL r.2.1 → va_P D cl (am_ws ad ca r.2.2.2) H1 → va_D A (am_ws ad ca r.2.2.2) → va_S A s.heap H1 locs1 → cells1 + len0 = r.2.2.2.length → slots1 + sz0 = am_sz r.2.2.2 → W p l e R s m args below meth c H1 locs1 cells1 slots1 Q (F0 m r.1 ls' (r.2.2.1.map (am_v ad)))) : W p l e R s m args below meth c H locs cells slots Q (F0 m pc ls (st.map (am_v ad))) := by
  have hlh : h.length ≤ r.2.2.2.length → h.length ≤ 1000000 := fun z => Nat.le_trans z hl
  unfold am_al at hr
  split at hr
  · split at hr
    · next ci fs hk =>
      cases hr
      simp only [List.length_append, List.length_singleton] at hl hc' hlh
      rw [am_sz_push] at hs'
      obtain ⟨C, T, N, ty, n1, n2, n3, n4, n5, n6, n7, n8, n9⟩ := hN _ _ _ hk
      refine am_end had hs hc (by omega) hP hS fun hz => ?_
      have hKn := hK.1 ci _ n1
      have hcs : am_cs (.inr (ci, fs)) = N := n7
      rw [hcs] at hs'
      have hfs : fs.map (am_v ad) = fs := by
        refine (List.map_congr_left (g := id) fun v hv => ?_).trans (List.map_id fs)
        have := n9 v hv
        cases v <;> first | rfl | exact absurd rfl (this _)
      refine W.newcK hx hb hown (hts _ n4) (hts _ n5) (hts _ n6) rfl hd (by omega) (by omega) hKn.2.1 hz fun H1 kC hkC e1 z1 o1 => ?_
      have e2 : b0 + h.length = ad h.length := (had _ (by omega)).symm
      rw [e2] at e1 ⊢
      refine k _ H1 locs (cells + 1) (slots + N) hL (am_push hP (fun q hq => o1 q (by omega)) ⟨_, n1, ?_⟩) (hD9 _ (by simpa using hl)) (am_pushS hS (by omega) (fun q hq => o1 q (by omega))) (by simp; omega) (by rw [am_sz_push, hcs]; omega)
      show t_OB (ad h.length) (D.1 ci) N (D.2 ci) H1 (vp_V (fs.map (am_v ad)))
      rw [hfs]
      exact (u_born ty hts n2 hKn hkC e1 n3).to n8
    · cases hr
  · split at hr
    · next hcd =>
      cases hr
      simp only [List.length_append, List.length_singleton] at hl hc' hlh
      rw [am_sz_push] at hs'
      simp only [am_cs] at hs'
      refine am_end had hs hc (by omega) hP hS fun hz => ?_
      refine va_newaK (atype := .int) hx hb (hts _ a0) rfl hd rfl hcd.1 rfl hcd.2 (by omega) (by omega) hz fun H1 cA e1 z1 o1 hAr hNm => ?_
      have e2 : b0 + h.length = ad h.length := (had _ (by omega)).symm
      have e3 : cA = ca 0 := Option.some.inj (hNm.symm.trans (hK.2 0 _ t0).2)
      subst e3
      rw [e2] at e1 ⊢
      exact k _ H1 locs _ _ hL (am_push hP (fun q hq => o1 q (by omega)) e1) (hD9 _ (by simpa using hl)) (am_pushS hS (by omega) (fun q hq => o1 q (by omega))) (by simp; omega) (by rw [am_sz_push]; simp only [am_cs]; omega)
    · cases hr
  · split at hr
    · next hcd =>
      cases hr
      simp only [List.length_append, List.length_singleton] at hl hc' hlh
      rw [am_sz_push] at hs'
      simp only [am_cs] at hs'
      refine am_end had hs hc (by omega) hP hS fun hz => ?_
      refine va_newaK (atype := .boolean) hx hb (hts _ a1) rfl hd rfl hcd.1 rfl (by rw [show componentBytes (newarray.typeOf .boolean) = 1 from rfl]; omega) (by omega) (by omega) hz fun H1 cA e1 z1 o1 hAr hNm => ?_
      have e2 : b0 + h.length = ad h.length := (had _ (by omega)).symm
      have e3 : cA = ca 1 := Option.some.inj (hNm.symm.trans (hK.2 1 _ t1).2)
      subst e3
      rw [e2] at e1 ⊢
      exact k _ H1 locs _ _ hL (am_push hP (fun q hq => o1 q (by omega)) e1) (hD9 _ (by simpa using hl)) (am_pushS hS (by omega) (fun q hq => o1 q (by omega))) (by simp; omega) (by rw [am_sz_push]; simp only [am_cs]; omega)
    · cases hr
  · split at hr
    · next hcd =>
      cases hr
      simp only [List.length_append, List.length_singleton] at hl hc' hlh
      rw [am_sz_push] at hs'
      simp only [am_cs] at hs'
      refine am_end had hs hc (by omega) hP hS fun hz => ?_
      refine va_newaK (atype := .long) hx hb (hts _ a2) rfl hd rfl hcd.1 rfl hcd.2 (by omega) (by omega) hz fun H1 cA e1 z1 o1 hAr hNm => ?_
      have e2 : b0 + h.length = ad h.length := (had _ (by omega)).symm
      have e3 : cA = ca 2 := Option.some.inj (hNm.symm.trans (hK.2 2 _ t2).2)
      subst e3
      rw [e2] at e1 ⊢
      exact k _ H1 locs _ _ hL (am_push hP (fun q hq => o1 q (by omega)) e1) (hD9 _ (by simpa using hl)) (am_pushS hS (by omega) (fun q hq => o1 q (by omega))) (by simp; omega) (by rw [am_sz_push]; simp only [am_cs]; omega)
    · cases hr
  · split at hr
    · next hcd =>
      cases hr
      simp only [List.length_append, List.length_singleton] at hl hc' hlh
      rw [am_sz_push] at hs'
      simp only [am_cs] at hs'
      refine am_end had hs hc (by omega) hP hS fun hz => ?_
      refine W.anew hx hb hown (hts _ (hanw _ hcd.1)) a3 rfl hd rfl hcd.2.1 hcd.2.2 (by omega) (by omega) fun cA kA comp u1 u2 u3 u4 => ?_
      have e2 : b0 + h.length = ad h.length := (had _ (by omega)).symm
      obtain ⟨-, -, -, -, -, -, u5⟩ := hK.2 3 _ t3
      have e3 : cA = ca 3 := Option.some.inj (u1.symm.trans u5)
      subst e3
      rw [hz, e2]
      refine k _ _ locs _ _ hL (am_push hP (fun q hq => ?_) ?_) (hD9 _ (by simpa using hl)) (am_pushS hS (by simp) (fun q hq => ?_)) (by simp; omega) (by rw [am_sz_push]; simp only [am_cs]; omega)
      · rw [Array.getElem?_push, if_neg (Nat.ne_of_lt hq)]
      · show (Array.push _ _)[ad h.length]? = some (vp_cell _ _)
        rw [← e2, ← hz, Array.getElem?_push_size, vp_cell_q, ← arrV_new]
        rfl
      · rw [Array.getElem?_push, if_neg (Nat.ne_of_lt hq)]
    · cases hr
  · next ix y x t =>
    split at hr
    · next hcd =>
      obtain ⟨d1, d2, d3, d4, d5⟩ := hcd
      cases hr
      simp only [List.length_append, List.length_cons, List.length_replicate] at hl hc' hlh
      rw [am_sz_app, show ∀ (z : va_E) (g : List va_E), am_sz (z :: g) = am_cs z + am_sz g from fun _ _ => by simp [am_sz], am_sz_rep] at hs'
      simp only [am_cs] at hs'
      refine am_end had hs hc (by omega) hP hS fun hz => ?_
      refine am_mz hx hb hown (hts _ (hmnw _ d1)) a4 (hts _ a0) hd d2 d3 d4 d5 (by omega) (by omega) fun H1 cA cI u1 u2 z1 e1 e2 o1 => ?_
      have g1 : cA = ca 4 := Option.some.inj (u1.symm.trans (hK.2 4 _ t4).2)
      have g2 : cI = ca 0 := Option.some.inj (u2.symm.trans (hK.2 0 _ t0).2)
      subst g1
      subst g2
      have g3 : H.size = ad h.length := hz.trans (had _ (by omega)).symm
      have g4 : (Value.ref H.size :: t.map (am_v ad)) = (Value.ref h.length :: t).map (am_v ad) := by rw [g3]; rfl
      rw [g4]
      refine k _ H1 locs _ _ hL (am_pushL hP o1 (fun j z hj => ?_)) (hD9 _ (by simpa using hl)) (am_pushS hS (by omega) o1) (by simp; omega) ?_
      · cases j with
        | zero =>
          simp only [List.getElem?_cons_zero, Option.some.injEq] at hj
          subst hj
          show H1[ad (h.length + 0)]? = some (vp_cell _ _)
          rw [Nat.add_zero, ← g3, e1, vp_cell_q]
          refine congrArg some (congrArg (arrV (ca 4) _) (funext fun i => congrArg va_rf ?_))
          by_cases hi : i < x.toNatClampNeg
          · simp only [hi, if_true, Option.map_some]
            rw [had _ (by omega), hz]
            exact congrArg some (by omega)
          · simp only [hi, if_false, Option.map_none]
        | succ j =>
          simp only [List.getElem?_cons_succ, List.getElem?_replicate] at hj
          split at hj
          · next hj2 =>
            cases hj
            show H1[ad (h.length + (j + 1))]? = some (vp_cell _ _)
            rw [had _ (by omega), show b0 + (h.length + (j + 1)) = H.size + 1 + j by omega, e2 j hj2]
            rfl
          · cases hj
      · rw [am_sz_app, show ∀ (z : va_E) (g : List va_E), am_sz (z :: g) = am_cs z + am_sz g from fun _ _ => by simp [am_sz], am_sz_rep]
        simp only [am_cs]
        omega
    · cases hr
  · split at hr
    · next n f ci _ hh hv =>
      split at hr
      · next hcd =>
        obtain ⟨hin, rfl⟩ := hcd
        cases hr
        refine va_astq (r := (C3, T3, N3)) hx hb hK hP hD hS _ 3 _ 2 (am_ws_get hh) t3 (am_ws_get hv) hc3 hin hd (fun H1 locs1 hP1 hD1 hS1 => ?_)
        have e5 : ∀ (j v : Nat), (fun i => (va_up f j (some v) i).map ad) = va_up (fun i => (f i).map ad) j (some (ad v)) := fun j v => funext fun i => by
          unfold va_up
          split <;> rfl
        refine k _ H1 locs1 cells slots hL ?_ ?_ hS1 (by simp; omega) ?_
        · rw [← am_ws_set]; simp only [am_c, e5]; exact hP1
        · rw [← am_ws_set]; simp only [am_c, e5]; exact hD1
        · refine hsl.trans (am_sz_set hh ?_).symm
          rfl
      · cases hr
    · cases hr
  · split at hr
    · next hcd =>
      cases hr
      obtain ⟨o1, o2, o3⟩ := hobj _ hcd.1
      refine W.objInit hx hb hown (hts _ o1) (hts _ o2) (hts _ o3) rfl (hL.1.trans hml.symm) rfl hd hR1 ?_ (k _ _ _ _ _ hL hP hD hS hc hsl)
      show 2 * 0 + (((_ : List Value).map (am_v ad)).map fun v => v.category).sum + 12 ≤ R.locals
      rw [List.map_map]
      have e1 : ((fun v => v.category) ∘ am_v ad) = fun v : Value => v.category := funext fun v => am_cat ad v
      rw [e1]
      omega
    · cases hr
  · cases hr
end AMA

/-! A method's promise out of its way by the abstract machine. -/
def am_ent : List Value → List (Option Value)
  | [] => []
  | v :: vs => if v.category = 2 then some v :: none :: am_ent vs else some v :: am_ent vs
def am_entry (As : List Value) (nL : Nat) : List (Option Value) := am_ent As ++ List.replicate (nL - (am_ent As).length) none
theorem am_ent_mem {ad : Nat → Nat} {w : Value} : ∀ (As : List Value) (j i : Nat), (am_ent As)[i]? = some (some w) → (j + i, am_v ad w) ∈ lv_args j (As.map (am_v ad)) := by
  intro As
  induction As with
  | nil => intro j i h; simp [am_ent] at h
  | cons v vs ih =>
    intro j i h
    simp only [List.map_cons, lv_args, am_cat]
    unfold am_ent at h
    split at h
    · next hc =>
      match i, h with
      | 0, h => simp at h; subst h; simp
      | 1, h => simp at h
      | i + 2, h =>
        simp only [List.getElem?_cons_succ] at h
        rw [if_pos hc]
        have := ih (j + 2) i h
        rw [show j + 2 + i = j + (i + 2) by omega] at this
        exact List.mem_cons_of_mem _ this
    · next hc =>
      match i, h with
      | 0, h => simp at h; subst h; simp
      | i + 1, h =>
        simp only [List.getElem?_cons_succ] at h
        rw [if_neg hc]
        have := ih (j + 1) i h
        rw [show j + 1 + i = j + (i + 1) by omega] at this
        exact List.mem_cons_of_mem _ this
theorem am_ent_len {ad : Nat → Nat} : ∀ As : List Value, (lg_sl (As.map (am_v ad))).length = (am_ent As).length := by
  intro As
  induction As with
  | nil => rfl
  | cons v vs ih =>
    cases v <;> simp_all [lg_sl, am_ent, am_v, Value.category]
theorem am_has_entry {ad : Nat → Nat} {ls : Array Slot} {nL : Nat} {As : List Value} (hn : (am_ent As).length ≤ nL) (h : lv_has ls nL (lv_args 0 (As.map (am_v ad)))) : am_has ad ls nL (am_entry As nL) := by
  refine ⟨h.1, h.2.1, by simp [am_entry]; omega, fun i w hw => ?_⟩
  unfold am_entry at hw
  by_cases hi : i < (am_ent As).length
  · rw [List.getElem?_append_left hi] at hw
    have h1 := h.2.2 _ (am_ent_mem (ad := ad) As 0 i hw)
    simpa using h1
  · rw [List.getElem?_append_right (by omega), List.getElem?_replicate] at hw
    split at hw <;> cases hw
/-- what is carried from call to call beside the cells -/
def am_XX (A : Nat → Prop) (Tn : List Cond) (XX : State → Prop) : Prop :=
  (∀ U g mk a, XX U → XX (U.calling g mk a)) ∧ (∀ U V : State, XX U → U.WarmedH V.vm → va_F A U V → XX V) ∧ ∀ U, XX U → ∀ w ∈ Tn, ∀ a, w.before a U = true
section AMM
variable {l : Launch} {ad : Nat → Nat} {ca : Nat → ClassId} {D : va_G} {cl : List vw_C} {A : Nat → Prop} {tys : List (ClassId × FieldType)} {Ts Tn : List Cond} {XX : State → Prop} {mt : am_mt} {fr lo : Nat → Nat}
/-- a method's own tables are right -/
def am_ok (Ts Tn : List Cond) (cl : List vw_C) (mt : am_mt) (fr lo : Nat → Nat) (x : Nat) (ins : Nat → Option (Instr × Nat)) (fld : Nat → Option (Nat × Nat × Nat)) (cst : Nat → Option Value) (site : Nat → Option (Nat × Nat × Nat × Nat)) : Prop :=
  plainName (mt x).1.cls = true ∧ (∀ meth : Method, meth.name = (mt x).1.name → am_Fw meth (mt x).1.cls Ts cl fld) ∧ (∀ pc i n, ins pc = some (i, n) → decode (mt x).2.1 pc = .ok (i, n)) ∧ (∀ ix v, cst ix = some (.int v) → Cond.constant (mt x).1.cls ix v ∈ Ts) ∧ (∀ ix v, cst ix = some (.long v) → Cond.constantLong (mt x).1.cls ix v ∈ Ts) ∧
  am_Sw (mt x).1.cls Ts Tn cl mt site ∧ ∀ ix kd y k ci, site ix = some (kd, y, k, ci) → fr y + 1 ≤ fr x ∧ 8 + ((mt y).2.2.1 + 11) + lo y ≤ lo x
set_option maxHeartbeats 4000000 in
/-- a method that throws nothing itself -/
theorem am_meets {x : Nat} {ins : Nat → Option (Instr × Nat)} {fld : Nat → Option (Nat × Nat × Nat)} {cst : Nat → Option Value} {site : Nat → Option (Nat × Nat × Nat × Nat)} {Cr : Nat → List Value → List va_E → am_O → List va_E → Nat → Prop}
    (hok : am_ok Ts Tn cl mt fr lo x ins fld cst site) (hgd : ∀ w ∈ Ts, goodWord w = true) (t0 : tys[0]? = some (ca 0, .int)) (t1 : tys[1]? = some (ca 1, .boolean)) (t2 : tys[2]? = some (ca 2, .long)) (t3 : am_t3 tys ca) (hXX : am_XX A Tn XX)
    (hCr : ∀ y As h o1 h1 g1, Cr y As h o1 h1 g1 → ax_Met l (mt y).1 (am_wy Ts mt y) (am_rm fr lo y g1) (am_Pc D cl tys ad ca A XX As h) (am_Qx D cl ad ca A o1 h1) g1 (6 * g1) A ∧ va_D A (am_ws ad ca h1))
    {As : List Value} {h h' : List va_E} {o : am_O} {g' n : Nat} (hn : (am_ent As).length ≤ (mt x).2.2.1) (hE : am_E ins fld cst site (fun _ => none) (mt x).2.2.2 Cr n (0, am_entry As (mt x).2.2.1, [], h) 0 o h' g') :
    ax_Met l (mt x).1 (am_wy Ts mt x) (am_rm fr lo x g') (am_Pc D cl tys ad ca A XX As h) (am_Qx D cl ad ca A o h') g' (6 * g') A := by
  obtain ⟨k1, k2, k3, k4, k5, k6, k7⟩ := hok
  obtain ⟨x1, x2, x3⟩ := hXX
  refine ax_ofW (cc := (mt x).2.1) (maxL := (mt x).2.2.1) (ret := (mt x).2.2.2) k1 rfl ?_
  intro p e s m args below meth c s₁ B hml hnh hv
  obtain ⟨rfl, hP, hD, hK, hXs⟩ := hv
  have hts0 := atoms_spec (ws := am_wy Ts mt x) B.pre
  have hts : ∀ w ∈ Ts, w.before ((As.map (am_v ad)).toArray) s = true := fun w hw => hts0 w (List.mem_cons_of_mem _ hw)
  have hown : s.vm.findClass (mt x).1.cls = some m.cls := findClass_of_methodNamed B.named
  have hnm : meth.name = (mt x).1.name := (name_of_methodNamed B.named B.method).1
  have hl := lv_entry (As.map (am_v ad)) (n := (mt x).2.2.1) (by rw [am_ent_len]; exact hn)
  rw [lg_entry_eq]
  generalize (lg_sl (As.map (am_v ad)) ++ List.replicate ((mt x).2.2.1 - (lg_sl (As.map (am_v ad))).length) Slot.unset).toArray = ls at hl ⊢
  have hL := am_has_entry hn hl
  refine am_E_ok (Q := ax_E below (am_Qx D cl ad ca A o h') _ s g' (6 * g') A) (fr := fr) (lo := lo) B.exec B.bytes hml hown hts hgd (fun w hw => x3 s hXs w hw _) (k2 meth hnm) hK t0 t1 t2 t3 k3 k4 k5 k6 x1 (fun U hW hF => x2 s U hXs hW hF) hCr k7 (Nat.le_refl _) (Nat.le_refl _) ?_ ?_ ?_ n (0, am_entry As (mt x).2.2.1, [], h) 0 hE ls s.heap [] ⟨hL, hP, hD, va_S.rf⟩
  · intro S v ls H locs hv ho hh hat
    subst ho
    subst hh
    exact am_ret_ok B.exec B.bytes B.returns B.notSynchronized k3 hat (fun _ q => q) hv
  · intro S E g ls H locs hv
    unfold am_thr at hv
    split at hv <;> cases hv
  · intro E q ce pc ls st H locs ho hP1 hS1 a1 a2 a3
    subst ho
    exact ax_out hnh B.notSynchronized (fun t ht hW => ⟨⟨q, ce, rfl, by rw [ht]; exact a1, a2, a3⟩, by rw [ht]; exact hP1, hS1.F ht⟩) (fun z hz => hS1.2.2 z hz)
end AMM

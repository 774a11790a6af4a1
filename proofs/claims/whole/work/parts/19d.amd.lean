/-! A constructor's promise. -/
section AMD
variable {l : Launch} {ad : Nat → Nat} {ca : Nat → ClassId} {D : va_G} {cl : List vw_C} {A : Nat → Prop} {tys : List (ClassId × FieldType)} {Ts Tn : List Cond} {XX : State → Prop} {mt : am_mt} {fr lo : Nat → Nat} {b0 : Nat}
/-- what a constructor's tables of things made rest on -/
def am_okA (own C3 : String) (Ts Tn : List Cond) (cl : List vw_C) (F G : Nat) (knw : Nat → Option (Nat × List Value)) (anw mnw obj : Nat → Bool) : Prop :=
  Cond.arrayClass .int ∈ Ts ∧ Cond.arrayClass .boolean ∈ Ts ∧ Cond.arrayClass .long ∈ Ts ∧ Cond.arrayOver (.object C3) ∈ Tn ∧ Cond.arrayOver (.array .int) ∈ Tn ∧ am_Nw own Ts cl knw ∧ (∀ ix, anw ix = true → Cond.classLink own ix C3 ∈ Ts) ∧ (∀ ix, mnw ix = true → Cond.classLink own ix ("[" ++ (FieldType.array .int).toString) ∈ Ts) ∧ (∀ ix, obj ix = true → Cond.methodLink own ix objectInit ∈ Ts ∧ Cond.instanceMethod objectInit ∈ Ts ∧ Cond.code objectInit ⟨#[0xb1]⟩ 1 none ∈ Ts) ∧ 1 ≤ F ∧ 20 ≤ G
set_option maxHeartbeats 4000000 in
theorem am_meetsA {x : Nat} {C3 : String} {T3 : u_T} {N3 : Nat} {ins : Nat → Option (Instr × Nat)} {fld : Nat → Option (Nat × Nat × Nat)} {cst : Nat → Option Value} {knw : Nat → Option (Nat × List Value)} {anw mnw obj : Nat → Bool} {site : Nat → Option (Nat × Nat × Nat × Nat)} {Cr : Nat → List Value → List va_E → Option Value → List va_E → Prop}
    (hok : am_ok Ts Tn cl mt fr lo x ins fld cst site) (hoA : am_okA (mt x).1.cls C3 Ts Tn cl (fr x) (lo x) knw anw mnw obj) (hgd : ∀ w ∈ Ts, goodWord w = true) (t0 : tys[0]? = some (ca 0, .int)) (t1 : tys[1]? = some (ca 1, .boolean)) (t2 : tys[2]? = some (ca 2, .long)) (t3 : am_t3 tys ca) (t33 : tys[3]? = some (ca 3, .object C3)) (t44 : tys[4]? = some (ca 4, .array .int)) (hc3 : cl[2]? = some (C3, T3, N3)) (hXX : am_XX A Tn XX)
    (had : ∀ k, k < 1000000 → ad k = b0 + k) (hD9 : ∀ h : List va_E, h.length ≤ 1000000 → va_D A (am_ws ad ca h))
    (hCr : ∀ y As h w h1, Cr y As h w h1 → am_MA l D cl tys ad ca A XX Ts mt fr lo b0 y As h w h1)
    {As : List Value} {h h' : List va_E} {v : Option Value} {n : Nat} (hn : (am_ent As).length ≤ (mt x).2.2.1) (hl' : h'.length ≤ 1000000) (hE : am_EA ins fld cst knw anw mnw obj site (am_ret ins (mt x).2.2.2) Cr n (0, am_entry As (mt x).2.2.1, [], h) v h') :
    am_MA l D cl tys ad ca A XX Ts mt fr lo b0 x As h v h' := by
  obtain ⟨k1, k2, k3, k4, k5, k6, k7⟩ := hok
  obtain ⟨x1, x2, x3⟩ := hXX
  obtain ⟨b1, b2, b3, b4, b44, b5, b6, b66, b7, b8, b9⟩ := hoA
  have hle := am_EA_le (fun y As h w h1 hc => (hCr y As h w h1 hc).2) n _ hE
  have hle1 : h.length ≤ h'.length := hle.1
  have hle2 : am_sz h ≤ am_sz h' := hle.2
  refine ⟨?_, hle1, hle2⟩
  refine ax_ofW (cc := (mt x).2.1) (maxL := (mt x).2.2.1) (ret := (mt x).2.2.2) k1 rfl ?_
  intro p e s m args below meth c s₁ B hml hnh hv
  obtain ⟨rfl, hP, hD, hK, hXs, hsz⟩ := hv
  have hts0 := atoms_spec (ws := am_wy Ts mt x) B.pre
  have hts : ∀ w ∈ Ts, w.before ((As.map (am_v ad)).toArray) s = true := fun w hw => hts0 w (List.mem_cons_of_mem _ hw)
  have hown : s.vm.findClass (mt x).1.cls = some m.cls := findClass_of_methodNamed B.named
  have hnm : meth.name = (mt x).1.name := (name_of_methodNamed B.named B.method).1
  have hl := lv_entry (As.map (am_v ad)) (n := (mt x).2.2.1) (by rw [am_ent_len]; exact hn)
  rw [lg_entry_eq]
  generalize (lg_sl (As.map (am_v ad)) ++ List.replicate ((mt x).2.2.1 - (lg_sl (As.map (am_v ad))).length) Slot.unset).toArray = ls at hl ⊢
  have hL := am_has_entry hn hl
  refine am_EA_ok (len0 := h.length) (sz0 := am_sz h) (h' := h') (Q := ax_E below (am_Qx D cl ad ca A (.inl v) h') _ s (h'.length - h.length) (am_sz h' - am_sz h) A) (fr := fr) (lo := lo) B.exec B.bytes hml hown hts hgd (fun w hw => x3 s hXs w hw _) (k2 meth hnm) hK t0 t1 t2 t3 t33 t44 hc3 b1 b2 b3 (x3 s hXs _ b4 _) (x3 s hXs _ b44 _) k3 k4 k5 k6 b5 b6 b66 b7 b8 b9 had hsz hD9 x1 (fun U hW hF => x2 s U hXs hW hF) hCr k7 hl' (by show h'.length ≤ (h'.length - h.length) + h.length; omega) (by show am_sz h' ≤ (am_sz h' - am_sz h) + am_sz h; omega) ?_ n (0, am_entry As (mt x).2.2.1, [], h) hE ls s.heap [] 0 0 ⟨hL, hP, hD, va_S.rf⟩ (by show 0 + h.length = h.length; omega) (by show 0 + am_sz h = am_sz h; omega)
  intro S ls H locs cells slots hv hh c1 c2 hat
  have e1 : h'.length - h.length = cells := by omega
  have e2 : am_sz h' - am_sz h = slots := by omega
  rw [e1, e2]
  subst hh
  exact am_ret_ok B.exec B.bytes B.returns B.notSynchronized k3 hat (fun _ q => q) hv
end AMD

/-! The way of a constructor, and its promise. -/
theorem am_hA_sz {fld : Nat → Option (Nat × Nat × Nat)} {i : Instr} {n pc : Nat} {L : List (Option Value)} {st : List Value} {h : List va_E} {r : am_S} (hr : am_hA fld i n pc L st h = some r) : r.2.2.2.length = h.length ∧ am_sz r.2.2.2 = am_sz h := by
  unfold am_hA at hr
  split at hr
  · split at hr
    · split at hr
      · split at hr
        · cases hr; exact ⟨rfl, rfl⟩
        · cases hr
      · cases hr
    · cases hr
  · split at hr
    · next hf hh =>
      split at hr
      · cases hr
        refine ⟨by simp, am_sz_set hh ?_⟩
        simp [am_cs]
      · cases hr
    · cases hr
  · cases hr
theorem am_hB_sz {i : Instr} {n pc : Nat} {L : List (Option Value)} {st : List Value} {h : List va_E} {r : am_S} (hr : am_hB i n pc L st h = some r) : r.2.2.2.length = h.length ∧ am_sz r.2.2.2 = am_sz h := by
  unfold am_hB at hr
  split at hr
  · split at hr
    · split at hr
      · cases hr; exact ⟨rfl, rfl⟩
      · cases hr
    · cases hr
  · split at hr
    · split at hr
      · cases hr; exact ⟨rfl, rfl⟩
      · cases hr
    · cases hr
  · split at hr
    · split at hr
      · cases hr; exact ⟨rfl, rfl⟩
      · cases hr
    · cases hr
  · split at hr
    · next hh =>
      split at hr
      · cases hr; exact ⟨by simp, am_sz_set hh rfl⟩
      · cases hr
    · cases hr
  · split at hr
    · next hh =>
      split at hr
      · cases hr; exact ⟨by simp, am_sz_set hh rfl⟩
      · cases hr
    · cases hr
  · split at hr
    · next hh =>
      split at hr
      · cases hr; exact ⟨by simp, am_sz_set hh rfl⟩
      · cases hr
    · cases hr
  · split at hr
    · split at hr
      · split at hr
        · cases hr; exact ⟨rfl, rfl⟩
        · cases hr
      · cases hr
    · cases hr
  · split at hr
    · cases hr; exact ⟨rfl, rfl⟩
    · cases hr
  · cases hr
theorem am_n_sz {ins : Nat → Option (Instr × Nat)} {fld : Nat → Option (Nat × Nat × Nat)} {cst : Nat → Option Value} {S S' : am_S} (h : am_n ins fld cst S = some S') : S'.2.2.2.length = S.2.2.2.length ∧ am_sz S'.2.2.2 = am_sz S.2.2.2 := by
  unfold am_n at h
  split at h
  · cases h
  · split at h
    · cases h; exact ⟨rfl, rfl⟩
    · split at h
      · next hr => cases h; exact am_hA_sz hr
      · split at h
        · next hr => cases h; exact am_hB_sz hr
        · split at h
          · split at h
            · cases h; exact ⟨rfl, rfl⟩
            · cases h
          · split at h
            · cases h; exact ⟨rfl, rfl⟩
            · cases h
          · split at h
            · cases h; exact ⟨rfl, rfl⟩
            · cases h
          · cases h
theorem am_al_sz {knw : Nat → Option (Nat × List Value)} {anw mnw obj : Nat → Bool} {i : Instr} {n pc : Nat} {L : List (Option Value)} {st : List Value} {h : List va_E} {r : am_S} (hr : am_al knw anw mnw obj i n pc L st h = some r) : h.length ≤ r.2.2.2.length ∧ am_sz h ≤ am_sz r.2.2.2 := by
  unfold am_al at hr
  split at hr
  · split at hr
    · cases hr; exact ⟨by simp, by rw [am_sz_push]; omega⟩
    · cases hr
  · split at hr
    · cases hr; exact ⟨by simp, by rw [am_sz_push]; omega⟩
    · cases hr
  · split at hr
    · cases hr; exact ⟨by simp, by rw [am_sz_push]; omega⟩
    · cases hr
  · split at hr
    · cases hr; exact ⟨by simp, by rw [am_sz_push]; omega⟩
    · cases hr
  · split at hr
    · cases hr; exact ⟨by simp, by rw [am_sz_push]; omega⟩
    · cases hr
  · split at hr
    · cases hr; exact ⟨by simp, by rw [am_sz_app]; omega⟩
    · cases hr
  · split at hr
    · next hh hv =>
      split at hr
      · cases hr
        refine ⟨by simp, Nat.le_of_eq (am_sz_set hh ?_).symm⟩
        rfl
      · cases hr
    · cases hr
  · split at hr
    · cases hr; exact ⟨Nat.le_refl _, Nat.le_refl _⟩
    · cases hr
  · cases hr
def am_nA (ins : Nat → Option (Instr × Nat)) (fld : Nat → Option (Nat × Nat × Nat)) (cst : Nat → Option Value) (knw : Nat → Option (Nat × List Value)) (anw mnw obj : Nat → Bool) (S : am_S) : Option am_S := match am_n ins fld cst S with
  | some r => some r
  | none => match ins S.1 with
    | some (i, n) => am_al knw anw mnw obj i n S.1 S.2.1 S.2.2.1 S.2.2.2
    | none => none
theorem am_nA_sz {ins : Nat → Option (Instr × Nat)} {fld : Nat → Option (Nat × Nat × Nat)} {cst : Nat → Option Value} {knw : Nat → Option (Nat × List Value)} {anw mnw obj : Nat → Bool} {S S' : am_S} (h : am_nA ins fld cst knw anw mnw obj S = some S') : S.2.2.2.length ≤ S'.2.2.2.length ∧ am_sz S.2.2.2 ≤ am_sz S'.2.2.2 := by
  unfold am_nA at h
  split at h
  · next hr => cases h; exact ⟨Nat.le_of_eq (am_n_sz hr).1.symm, Nat.le_of_eq (am_n_sz hr).2.symm⟩
  · split at h
    · exact am_al_sz h
    · cases h
def am_EA (ins : Nat → Option (Instr × Nat)) (fld : Nat → Option (Nat × Nat × Nat)) (cst : Nat → Option Value) (knw : Nat → Option (Nat × List Value)) (anw mnw obj : Nat → Bool) (site : Nat → Option (Nat × Nat × Nat × Nat)) (fin : am_S → Option (Option Value)) (Cr : Nat → List Value → List va_E → Option Value → List va_E → Prop) : Nat → am_S → Option Value → List va_E → Prop
  | 0, _, _, _ => False
  | n + 1, S, v, h' =>
    (∃ S', am_nA ins fld cst knw anw mnw obj S = some S' ∧ am_EA ins fld cst knw anw mnw obj site fin Cr n S' v h') ∨
    (∃ ix kd y k ci w h1, am_site ins site S = some (ix, kd, y, k, ci) ∧ k ≤ S.2.2.1.length ∧ ((S.2.2.1.drop k).map fun v => v.category).sum ≤ 8 ∧ Cr y (S.2.2.1.take k).reverse S.2.2.2 w h1 ∧ am_EA ins fld cst knw anw mnw obj site fin Cr n (S.1 + 3, S.2.1, w.toList ++ S.2.2.1.drop k, h1) v h') ∨
    (fin S = some v ∧ h' = S.2.2.2)
section AMB
variable {p : Program} {l : Launch} {e : Env} {R : Room} {s : State} {m : MethodId} {args : Array Value} {below : List Frame} {meth : Method} {c : Code}
variable {cc : ByteArray} {ad : Nat → Nat} {ca : Nat → ClassId} {nL : Nat} {D : va_G} {cl : List vw_C} {A : Nat → Prop} {tys : List (ClassId × FieldType)} {Ts Tn : List Cond} {own : String} {XX : State → Prop} {mt : am_mt} {fr lo : Nat → Nat} {b0 : Nat}
variable {ins : Nat → Option (Instr × Nat)} {fld : Nat → Option (Nat × Nat × Nat)} {cst : Nat → Option Value} {knw : Nat → Option (Nat × List Value)} {anw mnw obj : Nat → Bool} {site : Nat → Option (Nat × Nat × Nat × Nat)} {fin : am_S → Option (Option Value)} {Cr : Nat → List Value → List va_E → Option Value → List va_E → Prop}
/-- a promise of a method that makes cells -/
def am_MA (l : Launch) (D : va_G) (cl : List vw_C) (tys : List (ClassId × FieldType)) (ad : Nat → Nat) (ca : Nat → ClassId) (A : Nat → Prop) (XX : State → Prop) (Ts : List Cond) (mt : am_mt) (fr lo : Nat → Nat) (b0 y : Nat) (As : List Value) (h : List va_E) (w : Option Value) (h1 : List va_E) : Prop :=
  ax_Met l (mt y).1 (am_wy Ts mt y) { frames := fr y, cells := h1.length - h.length, slots := am_sz h1 - am_sz h, locals := lo y } (am_Pc D cl tys ad ca A (fun U => XX U ∧ U.heap.size = b0 + h.length) As h) (am_Qx D cl ad ca A (.inl w) h1) (h1.length - h.length) (am_sz h1 - am_sz h) A ∧ h.length ≤ h1.length ∧ am_sz h ≤ am_sz h1
theorem am_EA_le (hCr : ∀ y As h w h1, Cr y As h w h1 → h.length ≤ h1.length ∧ am_sz h ≤ am_sz h1) {v : Option Value} {h' : List va_E} : ∀ (n : Nat) (S : am_S), am_EA ins fld cst knw anw mnw obj site fin Cr n S v h' → S.2.2.2.length ≤ h'.length ∧ am_sz S.2.2.2 ≤ am_sz h' := by
  intro n
  induction n with
  | zero => intro S h; exact h.elim
  | succ n ih =>
    intro S h
    rcases h with ⟨S', hn, h⟩ | ⟨ix, kd, y, k, ci, w, h1, -, -, -, hc, h⟩ | ⟨-, rfl⟩
    · have a := am_nA_sz hn
      have b := ih _ h
      exact ⟨Nat.le_trans a.1 b.1, Nat.le_trans a.2 b.2⟩
    · have a := hCr _ _ _ _ _ hc
      have b := ih _ h
      exact ⟨Nat.le_trans a.1 b.1, Nat.le_trans a.2 b.2⟩
    · exact ⟨Nat.le_refl _, Nat.le_refl _⟩
set_option maxHeartbeats 4000000 in
theorem am_EA_ok {len0 sz0 : Nat} {C3 : String} {T3 : u_T} {N3 : Nat} {v : Option Value} {h' : List va_E} {Q : State → Prop} (hx : p.tables.exec = Jvm.exec) (hb : c.code = cc) (hml : c.maxLocals = nL) (hown : s.vm.findClass own = some m.cls) (hts : ∀ w ∈ Ts, w.before args s = true) (hgd : ∀ w ∈ Ts, goodWord w = true) (htn : ∀ w ∈ Tn, w.before args s = true)
    (hF : am_Fw meth own Ts cl fld) (hK : va_K D cl tys s) (t0 : tys[0]? = some (ca 0, .int)) (t1 : tys[1]? = some (ca 1, .boolean)) (t2 : tys[2]? = some (ca 2, .long)) (t3 : am_t3 tys ca) (t33 : tys[3]? = some (ca 3, .object C3)) (t44 : tys[4]? = some (ca 4, .array .int)) (hc3 : cl[2]? = some (C3, T3, N3)) (a0 : Cond.arrayClass .int ∈ Ts) (a1 : Cond.arrayClass .boolean ∈ Ts) (a2 : Cond.arrayClass .long ∈ Ts) (a3 : (Cond.arrayOver (.object C3)).before args s = true) (a4 : (Cond.arrayOver (.array .int)).before args s = true)
    (hins : ∀ pc i n, ins pc = some (i, n) → decode cc pc = .ok (i, n)) (hci : ∀ ix x, cst ix = some (.int x) → Cond.constant own ix x ∈ Ts) (hcl : ∀ ix x, cst ix = some (.long x) → Cond.constantLong own ix x ∈ Ts) (hSw : am_Sw own Ts Tn cl mt site)
    (hN : am_Nw own Ts cl knw) (hanw : ∀ ix, anw ix = true → Cond.classLink own ix C3 ∈ Ts) (hmnw : ∀ ix, mnw ix = true → Cond.classLink own ix ("[" ++ (FieldType.array .int).toString) ∈ Ts) (hobj : ∀ ix, obj ix = true → Cond.methodLink own ix objectInit ∈ Ts ∧ Cond.instanceMethod objectInit ∈ Ts ∧ Cond.code objectInit ⟨#[0xb1]⟩ 1 none ∈ Ts) (hR1 : 1 ≤ R.frames) (hR2 : 20 ≤ R.locals)
    (had : ∀ k, k < 1000000 → ad k = b0 + k) (hs : s.heap.size = b0 + len0) (hD9 : ∀ h : List va_E, h.length ≤ 1000000 → va_D A (am_ws ad ca h))
    (hXb : ∀ U g mk a, XX U → XX (U.calling g mk a)) (hX : ∀ U : State, s.WarmedH U.vm → va_F A s U → XX U)
    (hCr : ∀ y As h w h1, Cr y As h w h1 → am_MA l D cl tys ad ca A XX Ts mt fr lo b0 y As h w h1)
    (hrm : ∀ ix kd y k ci, site ix = some (kd, y, k, ci) → fr y + 1 ≤ R.frames ∧ 8 + ((mt y).2.2.1 + 11) + lo y ≤ R.locals) (hl' : h'.length ≤ 1000000) (hgc : h'.length ≤ R.cells + len0) (hgs : am_sz h' ≤ R.slots + sz0)
    (hret : ∀ S ls H locs cells slots, fin S = some v → h' = S.2.2.2 → cells + len0 = h'.length → slots + sz0 = am_sz h' → am_at ad ca D cl A s.heap nL S ls H locs → W p l e R s m args below meth c H locs cells slots Q (F0 m S.1 ls (S.2.2.1.map (am_v ad)))) :
    ∀ (n : Nat) (S : am_S), am_EA ins fld cst knw anw mnw obj site fin Cr n S v h' → ∀ ls H locs cells slots, am_at ad ca D cl A s.heap nL S ls H locs → cells + len0 = S.2.2.2.length → slots + sz0 = am_sz S.2.2.2 → W p l e R s m args below meth c H locs cells slots Q (F0 m S.1 ls (S.2.2.1.map (am_v ad))) := by
  have hCl : ∀ y As h w h1, Cr y As h w h1 → h.length ≤ h1.length ∧ am_sz h ≤ am_sz h1 := fun y As h w h1 hc => (hCr y As h w h1 hc).2
  have hsi0 : ∀ {S : am_S} {ix kd y k ci : Nat}, am_site ins site S = some (ix, kd, y, k, ci) → site ix = some (kd, y, k, ci) := fun {S ix kd y k ci} h => by
    unfold am_site at h
    split at h
    · split at h
      · next hs => cases h; exact hs
      · next hs => cases h; exact hs
      · cases h
    · split at h
      · next hs =>
        split at h
        · cases h; exact hs
        · cases h
      · cases h
    · split at h
      · next hs =>
        split at h
        · cases h; exact hs
        · cases h
      · cases h
    · cases h
  intro n
  induction n with
  | zero => intro S h; exact h.elim
  | succ n ih =>
    intro S h ls H locs cells slots hat hc1 hc2
    rcases h with ⟨S', hn, h⟩ | ⟨ix, kd, y, k, ci, w, h1, hsi, hk, hw8, hc, h⟩ | ⟨hv, rfl⟩
    · have hle := am_EA_le hCl n _ h
      unfold am_nA at hn
      split at hn
      · next r hr =>
        cases hn
        have hz := am_n_sz hr
        exact am_n_ok hx hb hown hts hF hK t0 t1 t2 t3 hins hci hcl hat hr (fun ls' H1 locs1 hat1 => ih _ h ls' H1 locs1 _ _ hat1 (by rw [hz.1]; exact hc1) (by rw [hz.2]; exact hc2))
      · split at hn
        · next i n' hi =>
          obtain ⟨hL, hP, hD, hS⟩ := hat
          exact am_al_ok hx hb hml hown hts hK t0 t1 t2 t33 t44 hc3 a0 a1 a2 a3 a4 hN hanw hmnw hobj hR1 hR2 had hs hD9 hL hP hD hS (hins _ _ _ hi) hn (Nat.le_trans hle.1 hl') hc1 hc2 (Nat.le_trans hle.1 hgc) (Nat.le_trans hle.2 hgs) (fun ls' H1 locs1 c1 s1 q1 q2 q3 q4 q5 q6 => ih _ h ls' H1 locs1 c1 s1 ⟨q1, q2, q3, q4⟩ q5 q6)
        · cases hn
    · have hle := am_EA_le hCl n _ h
      obtain ⟨hM, hm1, hm2⟩ := hCr _ _ _ _ _ hc
      obtain ⟨r1, r2⟩ := hrm _ _ _ _ _ (hsi0 hsi)
      have hle1 : h1.length ≤ h'.length := hle.1
      have hle2 : am_sz h1 ≤ am_sz h' := hle.2
      refine am_end had hs hc1 (by omega) hat.2.1 hat.2.2.2 fun hz => ?_
      refine am_call_ok (o1 := .inl w) (XX := fun U => XX U ∧ U.heap.size = b0 + S.2.2.2.length) hx hb hml hown hts hgd htn hK hins hSw (fun U g mk a q => ⟨hXb U g mk a q.1, q.2⟩) (fun U hU hW hF => ⟨hX U hW hF, by rw [hU]; exact hz⟩) hat hsi hk hw8 hM rfl rfl r1 r2 (by omega) (by omega) (hD9 _ (by omega)) (fun w' hw H1 locs1 hat1 => ?_) (fun E hE => by cases hE)
      cases hw
      exact ih _ h ls H1 locs1 _ _ hat1 (by show cells + (h1.length - S.2.2.2.length) + len0 = h1.length; omega) (by show slots + (am_sz h1 - am_sz S.2.2.2) + sz0 = am_sz h1; omega)
    · exact hret S ls H locs cells slots hv rfl hc1 hc2 hat
end AMB

/-! The walk of a method by the abstract machine, and its promise. -/
section AMW
variable {p : Program} {l : Launch} {e : Env} {R : Room} {s : State} {m : MethodId} {args : Array Value} {below : List Frame} {meth : Method} {c : Code}
variable {cc : ByteArray} {ad : Nat → Nat} {ca : Nat → ClassId} {nL : Nat} {D : va_G} {cl : List vw_C} {A : Nat → Prop} {tys : List (ClassId × FieldType)} {Ts Tn : List Cond} {own : String} {XX : State → Prop} {mt : am_mt}
variable {ins : Nat → Option (Instr × Nat)} {fld : Nat → Option (Nat × Nat × Nat)} {cst : Nat → Option Value} {site : Nat → Option (Nat × Nat × Nat × Nat)} {exc : Nat × Nat → Option String} {rt : Option FieldType} {Cr : Nat → List Value → List va_E → am_O → List va_E → Nat → Prop}
theorem am_E_le {o : am_O} {h' : List va_E} {g' : Nat} : ∀ (n : Nat) (S : am_S) (g : Nat), am_E ins fld cst site exc rt Cr n S g o h' g' → g ≤ g' := by
  intro n
  induction n with
  | zero => intro S g h; exact h.elim
  | succ n ih =>
    intro S g h
    rcases h with ⟨S', -, h⟩ | ⟨L', -, h⟩ | ⟨ix, kd, y, k, ci, v, h1, g1, -, -, -, -, h⟩ | ⟨ix, kd, y, k, ci, E, h1, g1, -, -, -, -, -, -, h⟩ | ⟨v, -, -, -, h⟩ | ⟨E, -, -, -, h⟩
    · exact ih _ _ h
    · exact ih _ _ h
    · exact Nat.le_trans (Nat.le_add_right _ _) (ih _ _ h)
    · omega
    · omega
    · omega
/-- the rooms of the called methods: frames and words by their numbers -/
def am_rm (fr lo : Nat → Nat) (y g : Nat) : Room := { frames := fr y, cells := g, slots := 6 * g, locals := lo y }
set_option maxHeartbeats 4000000 in
theorem am_E_ok {o : am_O} {h' : List va_E} {g' : Nat} {Q : State → Prop} {fr lo : Nat → Nat} (hx : p.tables.exec = Jvm.exec) (hb : c.code = cc) (hml : c.maxLocals = nL) (hown : s.vm.findClass own = some m.cls) (hts : ∀ w ∈ Ts, w.before args s = true) (hgd : ∀ w ∈ Ts, goodWord w = true) (htn : ∀ w ∈ Tn, w.before args s = true)
    (hF : am_Fw meth own Ts cl fld) (hK : va_K D cl tys s) (t0 : tys[0]? = some (ca 0, .int)) (t1 : tys[1]? = some (ca 1, .boolean)) (t2 : tys[2]? = some (ca 2, .long)) (t3 : am_t3 tys ca)
    (hins : ∀ pc i n, ins pc = some (i, n) → decode cc pc = .ok (i, n)) (hci : ∀ ix x, cst ix = some (.int x) → Cond.constant own ix x ∈ Ts) (hcl : ∀ ix x, cst ix = some (.long x) → Cond.constantLong own ix x ∈ Ts) (hSw : am_Sw own Ts Tn cl mt site)
    (hXb : ∀ U g mk a, XX U → XX (U.calling g mk a)) (hX : ∀ U : State, s.WarmedH U.vm → va_F A s U → XX U)
    (hCr : ∀ y As h o1 h1 g1, Cr y As h o1 h1 g1 → ax_Met l (mt y).1 (am_wy Ts mt y) (am_rm fr lo y g1) (am_Pc D cl tys ad ca A XX As h) (am_Qx D cl ad ca A o1 h1) g1 (6 * g1) A ∧ va_D A (am_ws ad ca h1))
    (hrm : ∀ ix kd y k ci, site ix = some (kd, y, k, ci) → fr y + 1 ≤ R.frames ∧ 8 + ((mt y).2.2.1 + 11) + lo y ≤ R.locals) (hgc : g' ≤ R.cells) (hgs : 6 * g' ≤ R.slots)
    (hret : ∀ S v ls H locs, am_ret ins rt S = some v → o = .inl v → h' = S.2.2.2 → am_at ad ca D cl A s.heap nL S ls H locs → W p l e R s m args below meth c H locs g' (6 * g') Q (F0 m S.1 ls (S.2.2.1.map (am_v ad))))
    (hthr : ∀ S E g ls H locs, am_thr ins exc S = some E → o = .inr E → h' = S.2.2.2 → g' = g + 1 → am_at ad ca D cl A s.heap nL S ls H locs → W p l e R s m args below meth c H locs g (6 * g) Q (F0 m S.1 ls (S.2.2.1.map (am_v ad))))
    (hout : ∀ E (q : Addr) (ce : Cell) pc ls st H locs, o = .inr E → va_P D cl (am_ws ad ca h') H → va_S A s.heap H locs → H[q]? = some ce → ce.vm = .none → s.vm.findClass E = some ce.cls → ax_T p l e R s m args below meth c H locs g' (6 * g') Q (F0 m pc ls st) q) :
    ∀ (n : Nat) (S : am_S) (g : Nat), am_E ins fld cst site exc rt Cr n S g o h' g' → ∀ ls H locs, am_at ad ca D cl A s.heap nL S ls H locs → W p l e R s m args below meth c H locs g (6 * g) Q (F0 m S.1 ls (S.2.2.1.map (am_v ad))) := by
  have hsi0 : ∀ {S : am_S} {ix kd y k ci : Nat}, am_site ins site S = some (ix, kd, y, k, ci) → site ix = some (kd, y, k, ci) := fun {S ix kd y k ci} h => by
    unfold am_site at h
    split at h
    · split at h
      · next hs => cases h; exact hs
      · next hs => cases h; exact hs
      · cases h
    · split at h
      · next hs =>
        split at h
        · cases h; exact hs
        · cases h
      · cases h
    · split at h
      · next hs =>
        split at h
        · cases h; exact hs
        · cases h
      · cases h
    · cases h
  intro n
  induction n with
  | zero => intro S g h; exact h.elim
  | succ n ih =>
    intro S g h ls H locs hat
    rcases h with ⟨S', hn, h⟩ | ⟨L', hle, h⟩ | ⟨ix, kd, y, k, ci, v, h1, g1, hsi, hk, hw8, hc, h⟩ | ⟨ix, kd, y, k, ci, E, h1, g1, hsi, hk, hw8, hc, rfl, rfl, rfl⟩ | ⟨v, hv, rfl, rfl, rfl⟩ | ⟨E, hE, rfl, rfl, rfl⟩
    · exact am_n_ok hx hb hown hts hF hK t0 t1 t2 t3 hins hci hcl hat hn (fun ls' H1 locs1 hat1 => ih S' g h ls' H1 locs1 hat1)
    · obtain ⟨hL, hP, hD, hS⟩ := hat
      exact ih (S.1, L', S.2.2) g h ls H locs ⟨am_has_le hL hle, hP, hD, hS⟩
    · have hle := am_E_le n _ _ h
      obtain ⟨hM, hD1⟩ := hCr _ _ _ _ _ _ hc
      obtain ⟨r1, r2⟩ := hrm _ _ _ _ _ (hsi0 hsi)
      refine am_call_ok (o1 := .inl v) hx hb hml hown hts hgd htn hK hins hSw hXb (fun U _ hW hF => hX U hW hF) hat hsi hk hw8 hM rfl rfl r1 r2 (by omega) (by omega) hD1 (fun w hw H1 locs1 hat1 => ?_) (fun E hE => by cases hE)
      cases hw
      have h9 := ih _ _ h ls H1 locs1 hat1
      rw [Nat.mul_add] at h9
      exact h9
    · obtain ⟨hM, hD1⟩ := hCr _ _ _ _ _ _ hc
      obtain ⟨r1, r2⟩ := hrm _ _ _ _ _ (hsi0 hsi)
      refine am_call_ok (o1 := .inr E) hx hb hml hown hts hgd htn hK hins hSw hXb (fun U _ hW hF => hX U hW hF) hat hsi hk hw8 hM rfl rfl r1 r2 (by omega) (by omega) hD1 (fun w hw => by cases hw) (fun E' hE q ce H1 locs1 hP1 hS1 a1 a2 a3 => ?_)
      cases hE
      have h9 := hout E q ce S.1 ls ((S.2.2.1.drop k).map (am_v ad)) H1 locs1 rfl hP1 hS1 a1 a2 a3
      rw [Nat.mul_add] at h9
      exact h9
    · exact hret S v ls H locs hv rfl rfl hat
    · exact hthr S E g ls H locs hE rfl rfl rfl hat
end AMW

/-! How a method goes by the abstract machine: to its answer, or to an exception; and that the machine goes so. -/
abbrev am_O : Type := Option Value ⊕ String
/-- one step that is no call, no end -/
def am_n (ins : Nat → Option (Instr × Nat)) (fld : Nat → Option (Nat × Nat × Nat)) (cst : Nat → Option Value) (S : am_S) : Option am_S := match ins S.1 with
  | none => none
  | some (i, n) => match am_p i n S.1 S.2.1 S.2.2.1 with
    | some r => some (r.1, r.2.1, r.2.2, S.2.2.2)
    | none => match am_hA fld i n S.1 S.2.1 S.2.2.1 S.2.2.2 with
      | some r => some r
      | none => match am_hB i n S.1 S.2.1 S.2.2.1 S.2.2.2 with
        | some r => some r
        | none => match i, n with
          | .ldc ix, 2 => match cst ix with
            | some (.int x) => some (S.1 + 2, S.2.1, .int x :: S.2.2.1, S.2.2.2)
            | _ => none
          | .ldc2_w ix, 3 => match cst ix with
            | some (.long x) => some (S.1 + 3, S.2.1, .long x :: S.2.2.1, S.2.2.2)
            | _ => none
          | .ldc_w ix, 3 => match cst ix with
            | some (.int x) => some (S.1 + 3, S.2.1, .int x :: S.2.2.1, S.2.2.2)
            | _ => none
          | _, _ => none
/-- the receiver is an object of the class ci -/
def am_rcv (st : List Value) (h : List va_E) (k ci : Nat) : Bool := match k with
  | 0 => false
  | j + 1 => match st[j]? with
    | some (.ref b) => match h[b]? with
      | some (.inr (ci', _)) => ci' == ci
      | _ => false
    | _ => false
/-- a call: its kind (0 static, 1 virtual, 2 of a constructor, 3 static in a nest mate), the method, how many words of the stack it takes, the receiver's class -/
def am_site (ins : Nat → Option (Instr × Nat)) (site : Nat → Option (Nat × Nat × Nat × Nat)) (S : am_S) : Option (Nat × Nat × Nat × Nat × Nat) := match ins S.1 with
  | some (.invokestatic ix, 3) => match site ix with
    | some (0, y, k, ci) => some (ix, 0, y, k, ci)
    | some (3, y, k, ci) => some (ix, 3, y, k, ci)
    | _ => none
  | some (.invokevirtual ix, 3) => match site ix with
    | some (1, y, k, ci) => if am_rcv S.2.2.1 S.2.2.2 k ci = true then some (ix, 1, y, k, ci) else none
    | _ => none
  | some (.invokespecial ix, 3) => match site ix with
    | some (2, y, k, ci) => if am_rcv S.2.2.1 S.2.2.2 k ci = true then some (ix, 2, y, k, ci) else none
    | _ => none
  | _ => none
def am_ret (ins : Nat → Option (Instr × Nat)) (rt : Option FieldType) (S : am_S) : Option (Option Value) := match ins S.1, S.2.2.1, rt with
  | some (.ireturn, 1), [.int x], some .int => some (some (.int x))
  | some (.ireturn, 1), [.int x], some .boolean => if x = 0 ∨ x = 1 then some (some (.int x)) else none
  | some (.areturn, 1), [.ref k], some (.object _) => some (some (.ref k))
  | some (.return_, 1), [], none => some none
  | _, _, _ => none
/-- 'throw new E()' -/
def am_thr (ins : Nat → Option (Instr × Nat)) (exc : Nat × Nat → Option String) (S : am_S) : Option String := match ins S.1, ins (S.1 + 3), ins (S.1 + 4), ins (S.1 + 7), S.2.2.1 with
  | some (.new ik, 3), some (.dup, 1), some (.invokespecial ic, 3), some (.athrow, 1), [] => exc (ik, ic)
  | _, _, _, _, _ => none
/-- from S, with g cells thrown away, to the end o with the cells h' and g' thrown away; Cr: what the called methods do -/
def am_E (ins : Nat → Option (Instr × Nat)) (fld : Nat → Option (Nat × Nat × Nat)) (cst : Nat → Option Value) (site : Nat → Option (Nat × Nat × Nat × Nat)) (exc : Nat × Nat → Option String) (rt : Option FieldType) (Cr : Nat → List Value → List va_E → am_O → List va_E → Nat → Prop) : Nat → am_S → Nat → am_O → List va_E → Nat → Prop
  | 0, _, _, _, _, _ => False
  | n + 1, S, g, o, h', g' =>
    (∃ S', am_n ins fld cst S = some S' ∧ am_E ins fld cst site exc rt Cr n S' g o h' g') ∨
    (∃ L', am_le L' S.2.1 ∧ am_E ins fld cst site exc rt Cr n (S.1, L', S.2.2) g o h' g') ∨
    (∃ ix kd y k ci v h1 g1, am_site ins site S = some (ix, kd, y, k, ci) ∧ k ≤ S.2.2.1.length ∧ ((S.2.2.1.drop k).map fun v => v.category).sum ≤ 8 ∧ Cr y (S.2.2.1.take k).reverse S.2.2.2 (.inl v) h1 g1 ∧ am_E ins fld cst site exc rt Cr n (S.1 + 3, S.2.1, v.toList ++ S.2.2.1.drop k, h1) (g + g1) o h' g') ∨
    (∃ ix kd y k ci E h1 g1, am_site ins site S = some (ix, kd, y, k, ci) ∧ k ≤ S.2.2.1.length ∧ ((S.2.2.1.drop k).map fun v => v.category).sum ≤ 8 ∧ Cr y (S.2.2.1.take k).reverse S.2.2.2 (.inr E) h1 g1 ∧ o = .inr E ∧ h' = h1 ∧ g' = g + g1) ∨
    (∃ v, am_ret ins rt S = some v ∧ o = .inl v ∧ h' = S.2.2.2 ∧ g' = g) ∨
    (∃ E, am_thr ins exc S = some E ∧ o = .inr E ∧ h' = S.2.2.2 ∧ g' = g + 1)
/-- a method's end, as its caller is told -/
def am_Qx (D : va_G) (cl : List vw_C) (ad : Nat → Nat) (ca : Nat → ClassId) (A : Nat → Prop) (o : am_O) (h' : List va_E) : Array Value → State → Outcome → State → Prop := fun _ st oc t =>
  (match o with
    | .inl v => oc = .returned (v.map (am_v ad))
    | .inr E => ∃ (q : Addr) (ce : Cell), oc = .threw q ∧ t.heap[q]? = some ce ∧ ce.vm = .none ∧ st.vm.findClass E = some ce.cls) ∧ va_P D cl (am_ws ad ca h') t.heap ∧ va_F A st t
section AME
variable {p : Program} {l : Launch} {e : Env} {R : Room} {s : State} {m : MethodId} {args : Array Value} {below : List Frame} {meth : Method} {c : Code}
variable {cc : ByteArray} {ad : Nat → Nat} {ca : Nat → ClassId} {nL : Nat} {D : va_G} {cl : List vw_C} {A : Nat → Prop} {tys : List (ClassId × FieldType)} {H0 : Heap} {Ts : List Cond} {own : String}
variable {ins : Nat → Option (Instr × Nat)} {fld : Nat → Option (Nat × Nat × Nat)} {cst : Nat → Option Value} {site : Nat → Option (Nat × Nat × Nat × Nat)} {exc : Nat × Nat → Option String} {rt : Option FieldType} {Cr : Nat → List Value → List va_E → am_O → List va_E → Nat → Prop}
/-- what holds at a point of a walk -/
def am_at (ad : Nat → Nat) (ca : Nat → ClassId) (D : va_G) (cl : List vw_C) (A : Nat → Prop) (H0 : Heap) (nL : Nat) (S : am_S) (ls : Array Slot) (H : Heap) (locs : List Loc) : Prop :=
  am_has ad ls nL S.2.1 ∧ va_P D cl (am_ws ad ca S.2.2.2) H ∧ va_D A (am_ws ad ca S.2.2.2) ∧ va_S A H0 H locs
set_option maxHeartbeats 4000000 in
theorem am_n_ok {H : Heap} {locs : List Loc} {cells slots : Nat} {Q : State → Prop} (hx : p.tables.exec = Jvm.exec) (hb : c.code = cc) (hown : s.vm.findClass own = some m.cls) (hts : ∀ w ∈ Ts, w.before args s = true) (hF : am_Fw meth own Ts cl fld) (hK : va_K D cl tys s) (t0 : tys[0]? = some (ca 0, .int)) (t1 : tys[1]? = some (ca 1, .boolean)) (t2 : tys[2]? = some (ca 2, .long)) (t3 : am_t3 tys ca)
    (hins : ∀ pc i n, ins pc = some (i, n) → decode cc pc = .ok (i, n)) (hci : ∀ ix x, cst ix = some (.int x) → Cond.constant own ix x ∈ Ts) (hcl : ∀ ix x, cst ix = some (.long x) → Cond.constantLong own ix x ∈ Ts)
    {S S' : am_S} {ls : Array Slot} (hat : am_at ad ca D cl A H0 nL S ls H locs) (h : am_n ins fld cst S = some S')
    (k : ∀ ls' H1 locs1, am_at ad ca D cl A H0 nL S' ls' H1 locs1 → W p l e R s m args below meth c H1 locs1 cells slots Q (F0 m S'.1 ls' (S'.2.2.1.map (am_v ad)))) : W p l e R s m args below meth c H locs cells slots Q (F0 m S.1 ls (S.2.2.1.map (am_v ad))) := by
  obtain ⟨hL, hP, hD, hS⟩ := hat
  unfold am_n at h
  split at h
  · cases h
  · next i n hi =>
    have hd := hins _ _ _ hi
    split at h
    · next r hr =>
      cases h
      exact am_p_ok hx hb hL hd hr (fun ls' hL' => k ls' H locs ⟨hL', hP, hD, hS⟩)
    · split at h
      · next r hr =>
        cases h
        exact am_hA_ok hx hb hown hts hF hK hL hP hD hS hd hr (fun ls' H1 locs1 a1 a2 a3 a4 => k ls' H1 locs1 ⟨a1, a2, a3, a4⟩)
      · split at h
        · next r hr =>
          cases h
          exact am_hB_ok hx hb hK t0 t1 t2 t3 hL hP hD hS hd hr (fun ls' H1 locs1 a1 a2 a3 a4 => k ls' H1 locs1 ⟨a1, a2, a3, a4⟩)
        · split at h
          · split at h
            · next x hc => cases h; exact lv_ldc hx hb hown (hts _ (hci _ _ hc)) hd (k _ _ _ ⟨hL, hP, hD, hS⟩)
            · cases h
          · split at h
            · next x hc => cases h; exact lv_ldc2 hx hb hown (hts _ (hcl _ _ hc)) hd (k _ _ _ ⟨hL, hP, hD, hS⟩)
            · cases h
          · split at h
            · next x hc => cases h; exact lv_ldcw hx hb hown (hts _ (hci _ _ hc)) hd (k _ _ _ ⟨hL, hP, hD, hS⟩)
            · cases h
          · cases h
/-- the ends -/
theorem am_ret_ok {H : Heap} {locs : List Loc} {cells slots : Nat} {free : Addr → Prop} (hx : p.tables.exec = Jvm.exec) (hb : c.code = cc) (hr : meth.sig.returnType = rt) (hlocks : meth.locks = false) (hins : ∀ pc i n, ins pc = some (i, n) → decode cc pc = .ok (i, n))
    {S : am_S} {v : Option Value} {ls : Array Slot} (hat : am_at ad ca D cl A s.heap nL S ls H locs) (hf : ∀ q, A q → free q) (h : am_ret ins rt S = some v) :
    W p l e R s m args below meth c H locs cells slots (ax_E below (am_Qx D cl ad ca A (.inl v) S.2.2.2) args s cells slots free) (F0 m S.1 ls (S.2.2.1.map (am_v ad))) := by
  obtain ⟨hL, hP, hD, hS⟩ := hat
  have hfr : ∀ q ∈ locs, free q.base := fun q hq => hf _ (hS.2.2 q hq)
  have hend : ∀ w : Option Value, ∀ t : State, t.heap = H → s.WarmedH t.vm → am_Qx D cl ad ca A (.inl w) S.2.2.2 args s (.returned (w.map (am_v ad))) t := fun w t ht _ => ⟨rfl, by rw [ht]; exact hP, hS.F ht⟩
  unfold am_ret at h
  split at h
  · next x hi hst => cases h; rw [hst]; exact ax_ret (W.zret (ty := .int) hx hb hr rfl (hend (some (.int x))) hfr (hins _ _ _ hi))
  · next x hi hst =>
    split at h
    · next h01 => cases h; rw [hst]; exact ax_ret (W.zret (ty := .boolean) hx hb hr (by rcases h01 with rfl | rfl <;> rfl) (hend (some (.int x))) hfr (hins _ _ _ hi))
    · cases h
  · next k _ hi hst => cases h; rw [hst]; exact ax_ret (W.aret hx hb hr (Or.inl ⟨_, rfl⟩) (Or.inr ⟨_, rfl⟩) (hend (some (.ref k))) hfr (hins _ _ _ hi))
  · next hi hst => cases h; rw [hst]; exact ax_ret (W.vret hx hb hr (hend none) hfr (hins _ _ _ hi))
  · cases h
end AME

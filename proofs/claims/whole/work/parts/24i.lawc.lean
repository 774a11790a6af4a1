/-! The law's calls. K: launch, where the places lie, arrays' classes, classes, what may be written, tables, what is carried, the first new cell. -/
abbrev cx_K : Type := Launch × (Nat → Nat) × (Nat → ClassId) × va_G × (Nat → Prop) × List (ClassId × FieldType) × (State → Prop) × Nat
def Kok (K : cx_K) : Prop := cx_ok K.1 K.2.2.2.1 K.2.1 K.2.2.1 K.2.2.2.2.1 K.2.2.2.2.2.1 K.2.2.2.2.2.2.1 K.2.2.2.2.2.2.2
/-- the method y, called with As over the cells h, ends with o over the cells h', g cells thrown away -/
def Ct (K : cx_K) (y : Nat) (As : List Value) (h : List va_E) (o : am_O) (h' : List va_E) (g : Nat) : Prop :=
  ax_Met K.1 (nd_mt y).1 (am_wy nm_Ts nd_mt y) (am_rm nd_fr nd_lo y g) (am_Pc K.2.2.2.1 nd_cl K.2.2.2.2.2.1 K.2.1 K.2.2.1 K.2.2.2.2.1 K.2.2.2.2.2.2.1 As h) (am_Qx K.2.2.2.1 nd_cl K.2.1 K.2.2.1 K.2.2.2.2.1 o h') g (6 * g) K.2.2.2.2.1 ∧ va_D K.2.2.2.2.1 (am_ws K.2.1 K.2.2.1 h')
/-- the law's helper y (its bytes, locals, handlers), called with As over the cells h, answers k over the cells h', g cells thrown away -/
def Hc (K : cx_K) (y : MethodName) (bytes : ByteArray) (maxL : Nat) (hh : List (Nat × Nat × Nat × Nat)) (As : List Value) (h : List va_E) (k : Int32) (h' : List va_E) (g : Nat) : Prop :=
  ax_Met K.1 y (Cond.codeWith y bytes maxL (some .int) hh :: nm_Ts) { frames := 13, cells := g, slots := 6 * g, locals := 515 - maxL } (am_Pc K.2.2.2.1 nd_cl K.2.2.2.2.2.1 K.2.1 K.2.2.1 K.2.2.2.2.1 K.2.2.2.2.2.2.1 As h) (am_Qx K.2.2.2.1 nd_cl K.2.1 K.2.2.1 K.2.2.2.2.1 (.inl (some (.int k))) h') g (6 * g) K.2.2.2.2.1 ∧ va_D K.2.2.2.2.1 (am_ws K.2.1 K.2.2.1 h')
abbrev lx_K (l : Launch) (s : State) (b : Nat) (D : va_G) (ca : Nat → ClassId) : cx_K := (l, sx_ad s b, ca, D, sx_A s, sx_tys ca, sx_X s, s.heap.size)
section LWC
variable {p : Program} {l : Launch} {e : Env} {s : State} {m : MethodId} {below : List Frame} {meth : Method} {c : Code} {b L : Nat} {xs : Nat → Int32} {D : va_G} {ca : Nat → ClassId}
theorem lx_sl {g : Nat} (hg : g ≤ 600000) : 226 + g ≤ room_1.cells ∧ hp_sz + 6 * g ≤ room_1.slots := by
  have h := Nat.le_of_ble_eq_true hp_sz_le
  have e1 : room_1.slots = 7293034 := rfl
  have e2 : room_1.cells = 601024 := rfl
  omega
/-- a call of a method of the class or the model -/
theorem lx_call {LI : List (Nat × Instr × Nat)} (hC : lx_C p l s m meth c b L xs D ca) (hI : am_ic code LI = true) {pc g g1 ix kd y k ci : Nat} {Lc : List (Option Value)} {st : List Value} {h h1 : List va_E} {v : Option Value} (hs : am_site (am_in LI) (am_sl nd_ml lx_s) (pc, Lc, st, h) = some (ix, kd, y, k, ci)) (hk : k ≤ st.length) (hw : ((st.drop k).map fun v => v.category).sum ≤ 8) (hg : g + g1 ≤ 600000)
    (hc : Ct (lx_K l s b D ca) y (st.take k).reverse h (.inl v) h1 g1) (kk : lx_W p l e s m below meth c b D ca (pc + 3, Lc, v.toList ++ st.drop k, h1) (g + g1)) : lx_W p l e s m below meth c b D ca (pc, Lc, st, h) g := by
  obtain ⟨⟨hx, hb, hr, hml, hown, hts0, hX, hbl, hlk, hgv⟩, hcx, hK, hXs⟩ := hC
  obtain ⟨t0, t1, t2, t33, t44, ⟨x1, x2, x3⟩, had, hD9, -⟩ := hcx
  have hts : ∀ w ∈ nm_Ts, w.before #[Value.ref b] s = true := fun w hw => hts0 w (List.mem_filter.mp hw).1
  have hsi : am_sl nd_ml lx_s ix = some (kd, y, k, ci) := by
    unfold am_site at hs
    split at hs
    · split at hs
      · next q => cases hs; exact q
      · next q => cases hs; exact q
      · cases hs
    · split at hs
      · next q =>
        split at hs
        · cases hs; exact q
        · cases hs
      · cases hs
    · split at hs
      · next q =>
        split at hs
        · cases hs; exact q
        · cases hs
      · cases hs
    · cases hs
  intro ls H locs hat
  obtain ⟨r1, r2⟩ := lx_sl hg
  obtain ⟨r3, r4⟩ := lx_rm hsi
  refine am_call_ok (own := R_law) (nL := 7) (Ts := nm_Ts) (Tn := nm_Tn) (XX := sx_X s) (mt := nd_mt) (rm := am_rm nd_fr nd_lo y g1) hx hb hml hown hts nm_good (fun w hw => x3 s hXs w hw _) hK (am_in_ok hI) lx_Sw x1 (fun U _ hW hF => x2 s U hXs hW hF) hat hs hk hw hc.1 rfl rfl r3 r4 (by omega) (by omega) hc.2 ?_ ?_
  · intro v1 hv1 H1 locs1 h2
    cases hv1
    have := kk ls H1 locs1 h2
    rw [show 226 + g + g1 = 226 + (g + g1) by omega, show hp_sz + 6 * g + 6 * g1 = hp_sz + 6 * (g + g1) by omega]
    exact this
  · intro E hE
    cases hE
/-- a call of a helper of the law -/
theorem lx_help {LI : List (Nat × Instr × Nat)} (hC : lx_C p l s m meth c b L xs D ca) (hI : am_ic code LI = true) {pc g g1 ix n maxL : Nat} {y : MethodName} {bytes : ByteArray} {hh : List (Nat × Nat × Nat × Nat)} {Lc : List (Option Value)} {st : List Value} {h h1 : List va_E} {k : Int32} (hi : am_in LI pc = some (.invokestatic ix, 3)) (hcw : Cond.codeWith y bytes maxL (some .int) hh ∈ lw_tbl) (hin : Cond.initialized y.cls ∈ lw_tbl) (hln : Cond.methodLink R_law ix y ∈ lw_tbl) (hsta : Cond.static y ∈ lw_tbl) (hy : y.cls ≠ "java/lang/invoke/MethodHandle" ∧ y.cls ≠ "java/lang/invoke/VarHandle") (hnn : (parseMethodDescriptor y.desc).map (fun d => d.parameters.length) = some n) (hm : maxL ≤ 100) (hk : st.length = n) (hg : g + g1 ≤ 600000)
    (hc : Hc (lx_K l s b D ca) y bytes maxL hh st.reverse h k h1 g1) (kk : lx_W p l e s m below meth c b D ca (pc + 3, Lc, [.int k], h1) (g + g1)) : lx_W p l e s m below meth c b D ca (pc, Lc, st, h) g := by
  obtain ⟨⟨hx, hb, hr, hml, hown, hts0, hX, hbl, hlk, hgv⟩, hcx, hK, hXs⟩ := hC
  obtain ⟨t0, t1, t2, t33, t44, ⟨x1, x2, x3⟩, had, hD9, -⟩ := hcx
  intro ls H locs hat
  obtain ⟨hL, hP, hD, hS⟩ := hat
  obtain ⟨r1, r2⟩ := lx_sl hg
  have e0 : (F0 m pc ls (st.map (am_v (sx_ad s b)))) = F0 m pc ls ((st.reverse.map (am_v (sx_ad s b))).reverse ++ []) := by simp
  show W _ _ _ _ _ _ _ _ _ _ _ _ _ _ _ (F0 m pc ls (st.map (am_v (sx_ad s b))))
  rw [e0]
  refine ax_SW (own := R_law) (y := y) (bytes := bytes) (maxL := maxL) (ret := some .int) (hh := hh) (n := n) (index := ix) hx hb hown (hL.1.trans hml.symm) hc.1 ?_ (hts0 _ hcw) (hts0 _ hin) hy ?_ (Nat.le_refl _) ?_ rfl rfl (hts0 _ hln) (hts0 _ hsta) (by omega) (by omega) (by simp [hk]) (Nat.zero_le _) (am_Pc_blind x1) ?_ (am_in_ok hI _ _ _ hi) ?_
  · intro w hw a' U hW
    rcases List.mem_cons.mp hw with rfl | hw
    · exact word_at hW (Or.inl rfl) (hts0 _ hcw)
    · exact word_at hW (good_of_word (nm_good w hw)) (hts0 w (List.mem_filter.mp hw).1)
  · intro sig hsg
    rw [hsg] at hnn
    exact (Option.some.inj hnn).symm
  · show 8 + (maxL + 11) + (515 - maxL) ≤ 534
    omega
  · intro U hU hW
    exact ⟨rfl, by rw [hU]; exact hP, hD, va_K.moved hW.alike hK, x2 s U hXs hW (hS.F hU)⟩
  · refine ⟨fun v st1 t H1 L1 e1 hW0 hq e2 hL1 => ?_, fun q st1 t H1 L1 e1 hW0 hq e2 hL1 => ?_⟩
    · obtain ⟨q1, q2, q3⟩ := hq
      cases q1
      have := kk ls H1 (locs ++ L1) ⟨hL, by rw [← e2]; exact q2, hc.2, ?_⟩
      · rw [show 226 + g + g1 = 226 + (g + g1) by omega, show hp_sz + 6 * g + 6 * g1 = hp_sz + 6 * (g + g1) by omega]
        exact this
      · obtain ⟨f1, f2⟩ := q3
        rw [e1, e2] at f1 f2
        refine ⟨Nat.le_trans hS.1 f1, fun q g1 g2 => (f2 q (Nat.lt_of_lt_of_le g1 hS.1) g2).trans (hS.2.1 q g1 g2), fun q hq => ?_⟩
        rcases List.mem_append.mp hq with h | h
        · exact hS.2.2 q h
        · exact hL1 q h
    · obtain ⟨q1, q2, q3⟩ := hq
      cases q1
end LWC

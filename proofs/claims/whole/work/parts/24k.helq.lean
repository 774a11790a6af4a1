/-! The two ends of a helper. -/
section HQ
variable {p : Program} {l : Launch} {e : Env} {R : Room} {s : State} {m : MethodId} {args : Array Value} {below : List Frame} {meth : Method} {c : Code} {H : Heap} {locs : List Loc} {cells slots : Nat} {Q : State → Prop}
theorem am_ps_ok {cc : ByteArray} {ad : Nat → Nat} {nL : Nat} {ins : Nat → Option (Instr × Nat)} (hx : p.tables.exec = Jvm.exec) (hb : c.code = cc) (hins : ∀ pc i n, ins pc = some (i, n) → decode cc pc = .ok (i, n)) {c1 : am_cfg} (kk : ∀ ls', am_has ad ls' nL c1.2.1 → W p l e R s m args below meth c H locs cells slots Q (F0 m c1.1 ls' (c1.2.2.map (am_v ad)))) :
    ∀ (n : Nat) (c0 : am_cfg) (ls : Array Slot), am_ps ins n c0 = some c1 → am_has ad ls nL c0.2.1 → W p l e R s m args below meth c H locs cells slots Q (F0 m c0.1 ls (c0.2.2.map (am_v ad))) := by
  intro n
  induction n with
  | zero => intro c0 ls hp hL; cases hp; exact kk ls hL
  | succ n ih =>
    intro c0 ls hp hL
    unfold am_ps at hp
    split at hp
    · cases hp
    · next i w hi =>
      split at hp
      · cases hp
      · next c2 h2 => exact am_p_ok hx hb hL (hins _ _ _ hi) h2 (fun ls' hL' => ih c2 ls' hp hL')
end HQ
theorem am_n_i2l {ins : Nat → Option (Instr × Nat)} {fld : Nat → Option (Nat × Nat × Nat)} {cst : Nat → Option Value} {pc : Nat} {L : List (Option Value)} {r : Int32} {st : List Value} {h : List va_E} (hi : ins pc = some (.i2l, 1)) : am_n ins fld cst (pc, L, .int r :: st, h) = some (pc + 1, L, .long r.toInt64 :: st, h) := by
  unfold am_n
  simp only [hi]
  rfl
theorem am_n_last {ins : Nat → Option (Instr × Nat)} {fld : Nat → Option (Nat × Nat × Nat)} {cst : Nat → Option Value} {pc k n : Nat} {L : List (Option Value)} {x : Int64} {j : Int32} {st : List Value} {h : List va_E} {f : Nat → Int64} (hi : ins pc = some (.lastore, 1)) (hh : h[k]? = some (.inl (2, n, .inr (.inl f)))) (hin : ¬ (j < 0 ∨ n ≤ j.toNatClampNeg)) : am_n ins fld cst (pc, L, .long x :: .int j :: .ref k :: st, h) = some (pc + 1, L, st, h.set k (.inl (2, n, .inr (.inl (vp_updL f j.toNatClampNeg x))))) := by
  unfold am_n
  simp only [hi]
  have e1 : am_p .lastore 1 pc L (.long x :: .int j :: .ref k :: st) = none := rfl
  have e2 : am_hA fld .lastore 1 pc L (.long x :: .int j :: .ref k :: st) h = none := rfl
  simp only [e1, e2, am_hB, hh, hin, not_false_eq_true, if_true]
section HX2
variable {K : cx_K} {y : MethodName} {bytes : ByteArray} {maxL : Nat} {hh : List (Nat × Nat × Nat × Nat)} {LI : List (Nat × Instr × Nat)} {LS : List nm_S} {As : List Value} {h h1 : List va_E}
/-- it answers -/
theorem hx_good (hK : Kok K) (hyc : y.cls = R_law) (hI : am_ic bytes LI = true) (hS : LS.all (nm_schk nd_ct nd_ml R_law) = true) (hn : (am_ent As).length ≤ maxL) {n0 : Nat} {c1 c3 : am_cfg} (h0 : am_ps (am_in LI) n0 (0, am_entry As maxL, []) = some c1) {ix kd yM k ci g : Nat} (hs : am_site (am_in LI) (am_sl nd_ml LS) (c1.1, c1.2.1, c1.2.2, h) = some (ix, kd, yM, k, ci)) (hsl : am_sl nd_ml LS ix = some (kd, yM, k, ci)) (hk : k ≤ c1.2.2.length) (hdr : c1.2.2.drop k = [.int 0, .ref 225]) (hrm : nd_fr yM + 1 ≤ 13 ∧ 8 + ((nd_mt yM).2.2.1 + 11) + nd_lo yM ≤ 515 - maxL)
    (i1 : am_in LI (c1.1 + 3) = some (.i2l, 1)) (i2 : am_in LI (c1.1 + 3 + 1) = some (.lastore, 1)) (hp : am_ps (am_in LI) 2 (c1.1 + 3 + 1 + 1, c1.2.1, []) = some c3) (hst : c3.2.2 = [.int 0]) (i3 : am_in LI c3.1 = some (.ireturn, 1)) {r : Int32} (hc : Ct K yM (c1.2.2.take k).reverse h (.inl (some (.int r))) h1 g) {f : Nat → Int64} (hf : h1[225]? = some (.inl (2, 1, .inr (.inl f)))) (hl : h1.length ≤ 1000000) :
    Hc K y bytes maxL hh As h 0 (h1.set 225 (.inl (2, 1, .inr (.inl (vp_updL f 0 r.toInt64))))) g := by
  have hK0 := hK
  have t3 := cx_t3 hK
  obtain ⟨t0, t1, t2, t33, t44, ⟨x1, x2, x3⟩, had, hD9, -⟩ := hK
  refine hx_go hK0 hyc hI hS hn h0 hs hsl hk (by rw [hdr]; decide) hrm hc (hD9 _ (by simpa using hl)) ?_
  intro p e s m args below meth c e1 e2 e3 e4 hown hts hKs hXs hht
  refine ⟨fun v hv ls H locs hat => ?_, fun E hE => by cases hE⟩
  cases hv
  rw [hdr] at hat ⊢
  have hins := am_in_ok hI
  refine am_n_ok (S := (c1.1 + 3, c1.2.1, [.int r, .int 0, .ref 225], h1)) (cst := am_ct []) (own := R_law) (fld := am_fl []) (cl := nd_cl) (Ts := nm_Ts) e1 e2 hown hts lx_Fw hKs t0 t1 t2 t3 hins (nm_kok (L := []) rfl).1 (nm_kok (L := []) rfl).2 hat (am_n_i2l i1) (fun ls H locs hat => ?_)
  refine am_n_ok (S := (c1.1 + 3 + 1, c1.2.1, [.long r.toInt64, .int 0, .ref 225], h1)) (cst := am_ct []) (own := R_law) (fld := am_fl []) (cl := nd_cl) (Ts := nm_Ts) e1 e2 hown hts lx_Fw hKs t0 t1 t2 t3 hins (nm_kok (L := []) rfl).1 (nm_kok (L := []) rfl).2 hat (am_n_last i2 hf (by decide)) (fun ls H locs hat => ?_)
  obtain ⟨a1, a2, a3, a4⟩ := hat
  refine am_ps_ok (c1 := c3) e1 e2 hins (fun ls' hL' => ?_) 2 (c1.1 + 3 + 1 + 1, c1.2.1, []) ls hp a1
  rw [hst]
  exact am_ret_ok (S := (c3.1, c3.2.1, [.int 0], h1.set 225 (.inl (2, 1, .inr (.inl (vp_updL f 0 r.toInt64)))))) (rt := some .int) e1 e2 e3 e4 hins ⟨hL', a2, a3, a4⟩ (fun _ q => q) (by unfold am_ret; simp only [i3])
/-- it throws -/
theorem hx_bad (hK : Kok K) (hno : hx_no K) (hyc : y.cls = R_law) (hI : am_ic bytes LI = true) (hS : LS.all (nm_schk nd_ct nd_ml R_law) = true) (hn : (am_ent As).length ≤ maxL) {n0 : Nat} {c1 c3 : am_cfg} (h0 : am_ps (am_in LI) n0 (0, am_entry As maxL, []) = some c1) {ix kd yM k ci g : Nat} (hs : am_site (am_in LI) (am_sl nd_ml LS) (c1.1, c1.2.1, c1.2.2, h) = some (ix, kd, yM, k, ci)) (hsl : am_sl nd_ml LS ix = some (kd, yM, k, ci)) (hk : k ≤ c1.2.2.length) (hw8 : ((c1.2.2.drop k).map fun v => v.category).sum ≤ 8) (hrm : nd_fr yM + 1 ≤ 13 ∧ 8 + ((nd_mt yM).2.2.1 + 11) + nd_lo yM ≤ 515 - maxL)
    {rs : List ((Nat × Nat × Nat × Nat) × String)} (hrs : rs.map (fun q => q.1) = hh) {E : String} {to : Nat} (hrow : hx_rows E c1.1 rs to) {rk : Int32} (hp : am_ps (am_in LI) 2 (to, List.replicate maxL none, [.ref 0]) = some c3) (hst : c3.2.2 = [.int rk]) (i3 : am_in LI c3.1 = some (.ireturn, 1)) (hc : Ct K yM (c1.2.2.take k).reverse h (.inr E) h1 g) :
    Hc K y bytes maxL hh As h rk h1 g := by
  have hK0 := hK
  obtain ⟨t0, t1, t2, t33, t44, ⟨x1, x2, x3⟩, had, hD9, -⟩ := hK
  refine hx_go hK0 hyc hI hS hn h0 hs hsl hk hw8 hrm hc hc.2 ?_
  intro p e s m args below meth c e1 e2 e3 e4 hown hts hKs hXs hht
  refine ⟨(fun v hv => by cases hv), fun E hE q ce ls H locs hL hP hS1 a1 a2 a3 => ?_⟩
  cases hE
  have hins := am_in_ok hI
  refine ax_catch a1 a2 a3 (fun e he => hx_rows_ok he hown a3 hts (fun w hw => x3 s hXs w hw _) (hno s hXs) c.exceptionTable.toList rs (hht.trans hrs.symm) hrow) ?_
  have hL0 : am_has (fun _ => q) ls maxL (List.replicate maxL none) := by
    obtain ⟨g1, g2, g3, g4⟩ := hL
    refine ⟨g1, g2, by simp, fun i w hw => ?_⟩
    rw [List.getElem?_replicate] at hw
    split at hw <;> cases hw
  refine am_ps_ok (c1 := c3) (ad := fun _ => q) (nL := maxL) e1 e2 hins (fun ls' hL' => ?_) 2 (to, List.replicate maxL none, [.ref 0]) ls hp hL0
  rw [hst]
  exact ax_ret (W.zret (ty := .int) e1 e2 e3 rfl (fun t ht _ => ⟨rfl, by rw [ht]; exact hP, hS1.F ht⟩) (fun z hz => hS1.2.2 z hz) (hins _ _ _ i3))
end HX2

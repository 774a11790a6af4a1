/-! The rules of parts 45 and 52 again, for walks with String constants (Ew). -/
abbrev eu_M : Type := Nat × ev_M
def Ew (K : cx_K) (M : eu_M) (S : am_S) (g : Nat) (o : am_O) (h' : List va_E) (g' : Nat) : Prop := g = 0 → g' = 0 → Kok K → am_ok nm_Ts nm_Tn nd_cl nd_mt nd_fr nd_lo M.1 M.2.1 M.2.2.1 M.2.2.2.1 M.2.2.2.2.1 → (nd_mt M.1).2.2.2 = M.2.2.2.2.2.2 → Eu K (nd_mt M.1) (am_rm nd_fr nd_lo M.1 0) S o h'
theorem Ct_of2 {K : cx_K} {x : Nat} {ins : Nat → Option (Instr × Nat)} {fld : Nat → Option (Nat × Nat × Nat)} {cst : Nat → Option Value} {site : Nat → Option (Nat × Nat × Nat × Nat)} {rt : Option FieldType} {mL : Nat} {As : List Value} {h h' : List va_E} {o : am_O} (hK : Kok K) (hok : am_ok nm_Ts nm_Tn nd_cl nd_mt nd_fr nd_lo x ins fld cst site) (hm : (nd_mt x).2.2.1 = mL) (hr : (nd_mt x).2.2.2 = rt) (hn : (am_ent As).length ≤ mL) (hl : h'.length ≤ 1000000)
    (ev : Ew K (x, ins, fld, cst, site, fun _ => none, rt) (0, am_entry As mL, [], h) 0 o h' 0) : Ct K x As h o h' 0 := by
  subst hm
  exact Cu_of (mm := nd_mt x) hK hok.1 hn hl (ev rfl rfl hK hok hr)
section EW
variable {K : cx_K} {M : eu_M} {pc g : Nat} {L : List (Option Value)} {st : List Value} {h : List va_E} {o : am_O} {h' : List va_E} {g' : Nat}
theorem Ew_n {S S' : am_S} (hn : am_n M.2.1 M.2.2.1 M.2.2.2.1 S = some S') (ev : Ew K M S' g o h' g') : Ew K M S g o h' g' := by
  intro hg hg' hK hok hr
  have ev1 := ev hg hg' hK hok hr
  have t3 := cx_t3 hK
  obtain ⟨t0, t1, t2, -, -, hX, -, hD9, -⟩ := hK
  obtain ⟨k1, k2, k3, k4, k5, k6, k7⟩ := hok
  intro p e s m args below meth c hC ls H locs hat
  have hC0 := hC
  obtain ⟨hx, hb, hml, hown, hts, hKK, hXs, hret, hlk, hnh, hnm⟩ := hC
  exact am_n_ok hx hb hown hts (k2 meth hnm) hKK t0 t1 t2 t3 k3 k4 k5 hat hn (fun ls' H1 locs1 h1 => ev1 p e s m args below meth c hC0 ls' H1 locs1 h1)
theorem Ew_w {L' : List (Option Value)} (hl : am_le L' L) (ev : Ew K M (pc, L', st, h) g o h' g') : Ew K M (pc, L, st, h) g o h' g' := by
  intro hg hg' hK hok hr
  have ev1 := ev hg hg' hK hok hr
  intro p e s m args below meth c hC ls H locs hat
  obtain ⟨hL, hP, hD, hS⟩ := hat
  exact ev1 p e s m args below meth c hC ls H locs ⟨am_has_le hL hl, hP, hD, hS⟩
theorem Ew_si {ins : Nat → Option (Instr × Nat)} {site : Nat → Option (Nat × Nat × Nat × Nat)} {S : am_S} {ix kd y k ci : Nat} (h : am_site ins site S = some (ix, kd, y, k, ci)) : site ix = some (kd, y, k, ci) := by
  unfold am_site at h
  split at h
  · split at h
    · next hs => cases h; exact hs
    · next hs => cases h; exact hs
    · cases h
  · split at h
    · next hs =>
      split at h
      · cases h; exact hs
      · cases h
    · cases h
  · split at h
    · next hs =>
      split at h
      · cases h; exact hs
      · cases h
    · cases h
  · cases h
theorem Ew_call {ix kd y k ci : Nat} {v : Option Value} {h1 : List va_E} (hs : am_site M.2.1 M.2.2.2.2.1 (pc, L, st, h) = some (ix, kd, y, k, ci)) (hk : k ≤ st.length) (hw : ((st.drop k).map fun v => v.category).sum ≤ 8) (hc : Ct K y (st.take k).reverse h (.inl v) h1 0) (ev : Ew K M (pc + 3, L, v.toList ++ st.drop k, h1) g o h' g') : Ew K M (pc, L, st, h) g o h' g' := by
  intro hg hg' hK hok hr
  have ev1 := ev hg hg' hK hok hr
  obtain ⟨t0, t1, t2, -, -, ⟨x1, x2, x3⟩, -, hD9, -⟩ := hK
  obtain ⟨k1, k2, k3, k4, k5, k6, k7⟩ := hok
  intro p e s m args below meth c hC ls H locs hat
  have hC0 := hC
  obtain ⟨hx, hb, hml, hown, hts, hKK, hXs, hret, hlk, hnh, hnm⟩ := hC
  obtain ⟨r1, r2⟩ := k7 _ _ _ _ _ (Ew_si hs)
  refine am_call_ok (o1 := .inl v) (rm := am_rm nd_fr nd_lo y 0) (mc := 0) (ms := 0) hx hb hml hown hts nm_good (fun w hw => x3 s hXs w hw _) hKK k3 k6 x1 (fun U _ hW hF => x2 s U hXs hW hF) hat hs hk hw hc.1 rfl rfl r1 r2 (Nat.zero_le _) (Nat.zero_le _) hc.2 (fun w hw H1 locs1 hat1 => ?_) (fun E hE => by cases hE)
  cases hw
  exact ev1 p e s m args below meth c hC0 ls H1 locs1 hat1
theorem Ew_r {v : Option Value} (hr : am_ret M.2.1 M.2.2.2.2.2.2 (pc, L, st, h) = some v) : Ew K M (pc, L, st, h) g (.inl v) h g := by
  intro hg hg' hK hok hrt
  obtain ⟨k1, k2, k3, k4, k5, k6, k7⟩ := hok
  intro p e s m args below meth c hC ls H locs hat
  obtain ⟨hx, hb, hml, hown, hts, hKK, hXs, hret, hlk, hnh, hnm⟩ := hC
  exact am_ret_ok hx hb (hret.trans hrt) hlk k3 hat (fun _ q => q) hr
/-- a String constant -/
theorem Ew_ldc {i ix : Nat} (hst : hx_st K) (hi : Nat.blt i 11 = true) (hix : js_ix.getD i 0 = ix) (hcl : (nd_mt M.1).1.cls = "PaperParcels$Emitter") (hins : M.2.1 pc = some (.ldc ix, 2)) (ev : Ew K M (pc + 2, L, .ref (2000000 + i) :: st, h) g o h' g') : Ew K M (pc, L, st, h) g o h' g' := by
  intro hg hg' hK hok hr
  exact Eu_ldc hst (Nat.le_of_ble_eq_true hi) hix hcl (hok.2.2.1 _ _ _ hins) (ev hg hg' hK hok hr)
/-- a letter of a String constant -/
theorem Ew_ch {i ix j : Nat} (hst : hx_st K) (hi : i < 11) (hj : j < js_len.getD i 0) (hl : h.length ≤ 1000000) (hln : Cond.methodLink (nd_mt M.1).1.cls ix js_chr.1 ∈ nm_Ts) (hR : (Nat.ble 4 (nd_fr M.1) && Nat.ble 85 (nd_lo M.1)) = true) (hins : M.2.1 pc = some (.invokevirtual ix, 3)) (h8 : (st.map fun v => v.category).sum ≤ 8) (ev : Ew K M (pc + 3, L, .int ((js_b.getD i []).getD j 0) :: st, h) g o h' g') : Ew K M (pc, L, .int (nI j) :: .ref (2000000 + i) :: st, h) g o h' g' := by
  intro hg hg' hK hok hr
  have hR2 := (Bool.and_eq_true _ _).mp hR
  exact Eu_V (As := [.int (nI j)]) (rest := st) hK hst hi (hok.2.2.1 _ _ _ hins) js_Wr hln (nm_in (i := 1099) (by decide +kernel) rfl) (nm_in (i := 1100) (by decide +kernel) rfl) (Ry := js_rm 3 64) ⟨⟨Nat.le_of_ble_eq_true hR2.1, Nat.le_of_ble_eq_true hR2.2⟩, rfl, rfl⟩ rfl h8 (js_chr_ok hK hst hi hj hl) (ev hg hg' hK hok hr)
/-- the length of a String constant -/
theorem Ew_ln {i ix : Nat} (hst : hx_st K) (hi : i < 11) (hl : h.length ≤ 1000000) (hln : Cond.methodLink (nd_mt M.1).1.cls ix js_lng.1 ∈ nm_Ts) (hR : (Nat.ble 2 (nd_fr M.1) && Nat.ble 40 (nd_lo M.1)) = true) (hins : M.2.1 pc = some (.invokevirtual ix, 3)) (h8 : (st.map fun v => v.category).sum ≤ 8) (ev : Ew K M (pc + 3, L, .int (nI (js_len.getD i 0)) :: st, h) g o h' g') : Ew K M (pc, L, .ref (2000000 + i) :: st, h) g o h' g' := by
  intro hg hg' hK hok hr
  have hR2 := (Bool.and_eq_true _ _).mp hR
  exact Eu_V (As := []) (rest := st) hK hst hi (hok.2.2.1 _ _ _ hins) js_Wl hln (nm_in (i := 1089) (by decide +kernel) rfl) (nm_in (i := 1090) (by decide +kernel) rfl) (Ry := js_rm 1 20) ⟨⟨Nat.le_of_ble_eq_true hR2.1, Nat.le_of_ble_eq_true hR2.2⟩, rfl, rfl⟩ rfl h8 (js_lng_ok hK hst hi hl) (ev hg hg' hK hok hr)
theorem Ew_p (k : Nat) {c' : am_cfg} (hp : am_ps M.2.1 k (pc, L, st) = some c') (ev : Ew K M (c'.1, c'.2.1, c'.2.2, h) g o h' g') : Ew K M (pc, L, st, h) g o h' g' := by
  induction k generalizing pc L st with
  | zero => cases hp; exact ev
  | succ k ih =>
    unfold am_ps at hp
    split at hp
    · cases hp
    · next i n hi =>
      split at hp
      · cases hp
      · next c1 h1 =>
        refine Ew_n (S' := (c1.1, c1.2.1, c1.2.2, h)) ?_ (ih hp)
        have hi' : M.2.1 pc = some (i, n) := hi
        have h1' : am_p i n pc L st = some c1 := h1
        unfold am_n
        simp only [hi', h1']
theorem Ew_b {b : Prop} [Decidable b] {c1 c2 : am_cfg} {i : Instr} {n : Nat} (hi : M.2.1 pc = some (i, n)) (hp : am_p i n pc L st = if b then some c1 else some c2) (e1 : b → Ew K M (c1.1, c1.2.1, c1.2.2, h) g o h' g') (e2 : ¬ b → Ew K M (c2.1, c2.2.1, c2.2.2, h) g o h' g') : Ew K M (pc, L, st, h) g o h' g' := by
  by_cases hb : b
  · rw [if_pos hb] at hp
    refine Ew_n ?_ (e1 hb)
    unfold am_n
    simp only [hi, hp]
  · rw [if_neg hb] at hp
    refine Ew_n ?_ (e2 hb)
    unfold am_n
    simp only [hi, hp]
theorem Ew_get {ix ci f k kd : Nat} {fs : List Value} {v : Value} (hi : M.2.1 pc = some (.getfield ix, 3)) (hf : M.2.2.1 ix = some (ci, f, kd)) (hh : h[k]? = some (.inr (ci, fs))) (hv : fs[f]? = some v) (ev : Ew K M (pc + 3, L, v :: st, h) g o h' g') : Ew K M (pc, L, .ref k :: st, h) g o h' g' := by
  refine Ew_n ?_ ev
  unfold am_n
  simp only [hi]
  have e1 : am_p (.getfield ix) 3 pc L (.ref k :: st) = none := rfl
  simp only [e1, am_hA, hf, hh, hv, if_true]
theorem Ew_ild {k n : Nat} {j : Int32} {f : Nat → Int32} (hi : M.2.1 pc = some (.iaload, 1)) (hh : h[k]? = some (.inl (0, n, .inl f))) (hin : ¬ (j < 0 ∨ n ≤ j.toNatClampNeg)) (ev : Ew K M (pc + 1, L, .int (f j.toNatClampNeg) :: st, h) g o h' g') : Ew K M (pc, L, .int j :: .ref k :: st, h) g o h' g' := by
  refine Ew_n ?_ ev
  unfold am_n
  simp only [hi]
  have e1 : am_p .iaload 1 pc L (.int j :: .ref k :: st) = none := rfl
  have e2 : am_hA M.2.2.1 .iaload 1 pc L (.int j :: .ref k :: st) h = none := rfl
  simp only [e1, e2, am_hB, hh, hin, not_false_eq_true, if_true]
end EW
section EX
variable {K : cx_K} {M : eu_M} {pc g : Nat} {L : List (Option Value)} {st : List Value} {lg : Nat → Int64} {s : zS} {o : am_O} {h' : List va_E} {g' : Nat} {R : Type} {r : R}
theorem Ex_gf {ix ci f k kd : Nat} {c : Int32 → Option R} (hi : M.2.1 pc = some (.getfield ix, 3)) (hf : M.2.2.1 ix = some (ci, f, kd)) (hk : zsh k = ci) (hc : zisI ci f = true) (hF : zgf s k f c = some r) (ev : ∀ v, c v = some r → Ew K M (pc + 3, L, .int v :: st, zmk lg s) g o h' g') : Ew K M (pc, L, .ref k :: st, zmk lg s) g o h' g' := by
  obtain ⟨h1, h2, h3⟩ := zisI_e hc
  exact Ew_get hi hf (zget_o hk h3) (by rw [zfs_get h2, if_pos h1]) (ev _ hF)
theorem Ex_gr {ix ci f k kd t : Nat} (hi : M.2.1 pc = some (.getfield ix, 3)) (hf : M.2.2.1 ix = some (ci, f, kd)) (hk : zsh k = ci) (hc : zisR ci f t = true) (ev : Ew K M (pc + 3, L, .ref (zrf k f) :: st, zmk lg s) g o h' g') : Ew K M (pc, L, .ref k :: st, zmk lg s) g o h' g' := by
  obtain ⟨h1, h2, h3, h4⟩ := zisR_e hc
  exact Ew_get hi hf (zget_o hk h4) (by rw [zfs_get h3, if_neg (by omega)]) ev
theorem Ex_al {a : Nat} {j : Int32} {c : Int32 → Option R} (hi : M.2.1 pc = some (.iaload, 1)) (hk : zsh a = 100) (hF : zal s a j c = some r) (ev : ∀ v, c v = some r → Ew K M (pc + 1, L, .int v :: st, zmk lg s) g o h' g') : Ew K M (pc, L, .int j :: .ref a :: st, zmk lg s) g o h' g' := by
  unfold zal at hF
  split at hF
  · cases hF
  · next hb => exact Ew_ild hi (zget_a hk) hb (ev _ hF)
theorem Ex_if {b : Prop} [Decidable b] {c1 c2 : am_cfg} {i : Instr} {n : Nat} {h : List va_E} {A B : Option R} (hi : M.2.1 pc = some (i, n)) (hp : am_p i n pc L st = if b then some c1 else some c2) (hF : (if b then A else B) = some r) (e1 : b → A = some r → Ew K M (c1.1, c1.2.1, c1.2.2, h) g o h' g') (e2 : ¬ b → B = some r → Ew K M (c2.1, c2.2.1, c2.2.2, h) g o h' g') : Ew K M (pc, L, st, h) g o h' g' :=
  Ew_b hi hp (fun hb => e1 hb (by rw [if_pos hb] at hF; exact hF)) (fun hb => e2 hb (by rw [if_neg hb] at hF; exact hF))
theorem Ex_rv {s' : zS} (hi : M.2.1 pc = some (.return_, 1)) (hr : M.2.2.2.2.2.2 = none) (hF : some s = some s') : Ew K M (pc, L, [], zmk lg s) g (.inl none) (zmk lg s') g := by
  cases hF
  refine Ew_r ?_
  unfold am_ret
  simp only [hi, hr]
theorem Ex_ci {ix kd y k ci : Nat} {As st' : List Value} {F : Option (Int32 × zS)} {c : Int32 → zS → Option R} (hs : am_site M.2.1 M.2.2.2.2.1 (pc, L, st, zmk lg s) = some (ix, kd, y, k, ci)) (hk : k ≤ st.length) (hw : ((st.drop k).map fun v => v.category).sum ≤ 8) (ha : (st.take k).reverse = As) (hd : st.drop k = st') (hc : ∀ v s1, F = some (v, s1) → Ct K y As (zmk lg s) (.inl (some (.int v))) (zmk lg s1) 0) (hF : zbi F c = some r) (ev : ∀ v s1, c v s1 = some r → Ew K M (pc + 3, L, .int v :: st', zmk lg s1) g o h' g') : Ew K M (pc, L, st, zmk lg s) g o h' g' := by
  subst ha
  subst hd
  unfold zbi at hF
  split at hF
  · cases hF
  · next v s1 => exact Ew_call hs hk hw (hc v s1 rfl) (ev _ _ hF)
theorem Ex_cv {ix kd y k ci : Nat} {As st' : List Value} {F : Option zS} {c : zS → Option R} (hs : am_site M.2.1 M.2.2.2.2.1 (pc, L, st, zmk lg s) = some (ix, kd, y, k, ci)) (hk : k ≤ st.length) (hw : ((st.drop k).map fun v => v.category).sum ≤ 8) (ha : (st.take k).reverse = As) (hd : st.drop k = st') (hc : ∀ s1, F = some s1 → Ct K y As (zmk lg s) (.inl none) (zmk lg s1) 0) (hF : zbv F c = some r) (ev : ∀ s1, c s1 = some r → Ew K M (pc + 3, L, st', zmk lg s1) g o h' g') : Ew K M (pc, L, st, zmk lg s) g o h' g' := by
  subst ha
  subst hd
  unfold zbv at hF
  split at hF
  · cases hF
  · next s1 => exact Ew_call hs hk hw (hc s1 rfl) (ev _ hF)
/-- charAt of a String constant of the Emitter -/
theorem Ex_ct {i ix : Nat} {j : Int32} {T : List Int32} {c : Int32 → Option R} (hst : hx_st K) (hi : Nat.blt i 11 = true) (hT : js_b.getD i [] = T) (hln : Cond.methodLink (nd_mt M.1).1.cls ix js_chr.1 ∈ nm_Ts) (hR : (Nat.ble 4 (nd_fr M.1) && Nat.ble 85 (nd_lo M.1)) = true) (hins : M.2.1 pc = some (.invokevirtual ix, 3)) (h8 : (st.map fun v => v.category).sum ≤ 8) (hF : zct T j c = some r) (ev : ∀ v, c v = some r → Ew K M (pc + 3, L, .int v :: st, zmk lg s) g o h' g') : Ew K M (pc, L, .int j :: .ref (2000000 + i) :: st, zmk lg s) g o h' g' := by
  have hi' : i < 11 := Nat.le_of_ble_eq_true hi
  unfold zct at hF
  split at hF
  · cases hF
  · next hb =>
    have h0 : ¬ j < 0 := fun q => hb (Or.inl q)
    obtain ⟨k, rfl, hk⟩ := zn_of h0
    rw [zn_cl hk] at hF hb
    subst hT
    have hl := (js_l6 i hi').1
    exact Ew_ch hst hi' (by rw [hl]; exact Nat.lt_of_not_le (fun q => hb (Or.inr q))) zlen_le hln hR hins h8 (ev _ hF)
end EX
/-! putText -/
abbrev zM121 : eu_M := (121, am_in nd_i121, am_fl nd_f1, am_ct nd_k1, am_sl nd_ml nd_s121, fun _ => none, none)
theorem zf121_2_ok {K : cx_K} (hK : Kok K) (hst : hx_st K) {lg : Nat → Int64} {s' : zS} {a0 i : Nat} (h0 : zsh a0 = 1) (hi : i < 11) : ∀ (T : List Int32) (k : Nat) (s : zS), (js_b.getD i []).drop k = T → k ≤ 6 → zf121 a0 T s = some s' → Ew K zM121 (2, [some (.ref a0), some (.ref (2000000 + i)), some (.int (nI k))], [], zmk lg s) 0 (.inl none) (zmk lg s') 0 := by
  obtain ⟨l1, l2⟩ := js_l6 i hi
  intro T
  induction T with
  | nil =>
    intro k s hT hk hF
    rw [zf121] at hF
    have hlen : (js_b.getD i []).length ≤ k := by
      rcases Nat.lt_or_ge k (js_b.getD i []).length with q | q
      · have := congrArg List.length hT
        rw [List.length_drop, List.length_nil] at this
        omega
      · exact q
    refine Ew_p 2 (c' := (4, [some (.ref a0), some (.ref (2000000 + i)), some (.int (nI k))], [.ref (2000000 + i), .int (nI k)])) rfl ?_
    refine Ew_ln (M := zM121) hst hi zlen_le (nm_in (i := 1088) (by decide +kernel) rfl) rfl rfl (Nat.le_of_ble_eq_true rfl) ?_
    refine Ew_b (M := zM121) (b := nI (js_len.getD i 0) ≤ nI k) (i := .if_icmp .ge 18) (n := 3) rfl rfl (fun _ => ?_) (fun hn => absurd ((zn_le (by omega) (by omega)).mpr (by omega)) hn)
    exact Ex_rv (M := zM121) rfl rfl hF
  | cons x T ih =>
    intro k s hT hk hF
    rw [zf121] at hF
    have hlen : k < (js_b.getD i []).length := by
      have := congrArg List.length hT
      rw [List.length_drop, List.length_cons] at this
      omega
    have hx : (js_b.getD i []).getD k 0 = x ∧ (js_b.getD i []).drop (k + 1) = T := by
      rw [List.drop_eq_getElem_cons hlen] at hT
      obtain ⟨q1, q2⟩ := List.cons.inj hT
      refine ⟨?_, q2⟩
      rw [List.getD_eq_getElem?_getD, List.getElem?_eq_getElem hlen]
      exact q1
    refine Ew_p 2 (c' := (4, [some (.ref a0), some (.ref (2000000 + i)), some (.int (nI k))], [.ref (2000000 + i), .int (nI k)])) rfl ?_
    refine Ew_ln (M := zM121) hst hi zlen_le (nm_in (i := 1088) (by decide +kernel) rfl) rfl rfl (Nat.le_of_ble_eq_true rfl) ?_
    refine Ew_b (M := zM121) (b := nI (js_len.getD i 0) ≤ nI k) (i := .if_icmp .ge 18) (n := 3) rfl rfl (fun hn => absurd ((zn_le (by omega) (by omega)).mp hn) (by omega)) (fun _ => ?_)
    refine Ew_p 3 (c' := (13, [some (.ref a0), some (.ref (2000000 + i)), some (.int (nI k))], [.int (nI k), .ref (2000000 + i), .ref a0])) rfl ?_
    refine Ew_ch (M := zM121) hst hi (by omega) zlen_le (nm_in (i := 1098) (by decide +kernel) rfl) rfl rfl (Nat.le_of_ble_eq_true rfl) ?_
    rw [hx.1]
    refine Ex_cv (M := zM121) (As := [.ref a0, .int x]) (st' := []) (am_site_v (y := 13) (k := 2) (ci := 1) rfl rfl (zrcv rfl h0 rfl)) (Nat.le_of_ble_eq_true rfl) (Nat.le_of_ble_eq_true rfl) rfl rfl (fun _ hF => zf13_ok hK h0 hF) hF (fun s1 hF => ?_)
    refine Ew_p 2 (c' := (2, [some (.ref a0), some (.ref (2000000 + i)), some (.int (nI k + 1))], [])) rfl ?_
    rw [zn_a1]
    exact ih (k + 1) s1 hx.2 (by omega) hF
theorem zf121_ok {K : cx_K} (hK : Kok K) (hst : hx_st K) {lg : Nat → Int64} {s' : zS} {a0 i : Nat} {T : List Int32} (h0 : zsh a0 = 1) (hi : Nat.blt i 11 = true) (hT : js_b.getD i [] = T) {s : zS} (hF : zf121 a0 T s = some s') : Ct K 121 [.ref a0, .ref (2000000 + i)] (zmk lg s) (.inl none) (zmk lg s') 0 := by
  refine Ct_of2 hK nd_ok121 (mL := 3) (rt := none) rfl rfl (Nat.le_of_ble_eq_true rfl) zlen_le ?_
  refine Ew_p 2 (c' := (2, [some (.ref a0), some (.ref (2000000 + i)), some (.int 0)], [])) rfl ?_
  exact zf121_2_ok hK hst h0 (Nat.le_of_ble_eq_true hi) T 0 s hT (Nat.zero_le _) hF

/-! The methods as functions, and that the machine goes so (printed by wip/gen/fgen.py). -/
set_option maxRecDepth 100000
set_option linter.unusedVariables false
-- PaperParcelsModel.copyInside(IIII)V
abbrev zM199 : ev_M := (am_in nd_i199, am_fl nd_f11, am_ct nd_k11, am_sl nd_ml nd_s199, fun _ => none, none)
noncomputable def zf199_55 (a0 : Nat)  : Nat → Int32 → Int32 → Int32 → Int32 → zS → Option (zS)
  | 0, _, _, _, _, _ => none
  | n + 1, x1, x3, x5, x6, s =>
    zal s (zrf a0 27) x5 fun v1 =>
    if v1 ≤ x6 then
      some s
    else
      zal s (zrf a0 26) x5 fun v2 =>
      zal s (zrf a0 29) (((700 * x3) + v2) + x6) fun v3 =>
      zbv (zf197 a0 x1 v3 s) fun s5 =>
      zf199_55 a0 n x1 x3 x5 (x6 + 1) s5
theorem zf199_55_ok {K : cx_K} (hK : Kok K) {lg : Nat → Int64} {s' : zS} {a0 : Nat} (h0 : zsh a0 = 11)   {n : Nat} : ∀ {x1 : Int32} {x3 : Int32} {x5 : Int32} {x6 : Int32} {s : zS}, zf199_55 a0 n x1 x3 x5 x6 s = some s' → Ev K zM199 (55, [some (.ref a0), some (.int x1), none, some (.int x3), none, some (.int x5), some (.int x6)], [], zmk lg s) 0 (.inl none) (zmk lg s') 0 := by
  induction n with
  | zero => intro x1 x3 x5 x6 s hF; rw [zf199_55] at hF; cases hF
  | succ n ih =>
    intro x1 x3 x5 x6 s hF
    rw [zf199_55] at hF
    refine Ev_p 2 (c' := (58, [some (.ref a0), some (.int x1), none, some (.int x3), none, some (.int x5), some (.int x6)], [.ref a0, .int x6])) rfl ?_
    refine Ez_gr (M := zM199) (ci := 11) (f := 27) (t := 100) rfl rfl h0 rfl ?_
    refine Ev_p 1 (c' := (63, [some (.ref a0), some (.int x1), none, some (.int x3), none, some (.int x5), some (.int x6)], [.int x5, .ref (zrf a0 27), .int x6])) rfl ?_
    refine Ez_al (M := zM199) rfl (zty (ci := 11) (f := 27) (t := 100) h0 rfl) hF (fun v1 hF => ?_)
    refine Ev_p 0 (c' := (64, [some (.ref a0), some (.int x1), none, some (.int x3), none, some (.int x5), some (.int x6)], [.int v1, .int x6])) rfl ?_
    refine Ez_if (M := zM199) (b := v1 ≤ x6) rfl rfl hF (fun _ hF => ?_) (fun _ hF => ?_)
    · refine Ev_p 0 (c' := (99, [some (.ref a0), some (.int x1), none, some (.int x3), none, some (.int x5), some (.int x6)], [])) rfl ?_
      exact Ez_rv (M := zM199) rfl rfl hF
    · refine Ev_p 3 (c' := (70, [some (.ref a0), some (.int x1), none, some (.int x3), none, some (.int x5), some (.int x6)], [.ref a0, .int x1, .ref a0])) rfl ?_
      refine Ez_gr (M := zM199) (ci := 11) (f := 29) (t := 100) rfl rfl h0 rfl ?_
      refine Ev_p 4 (c' := (79, [some (.ref a0), some (.int x1), none, some (.int x3), none, some (.int x5), some (.int x6)], [.ref a0, .int (700 * x3), .ref (zrf a0 29), .int x1, .ref a0])) rfl ?_
      refine Ez_gr (M := zM199) (ci := 11) (f := 26) (t := 100) rfl rfl h0 rfl ?_
      refine Ev_p 1 (c' := (84, [some (.ref a0), some (.int x1), none, some (.int x3), none, some (.int x5), some (.int x6)], [.int x5, .ref (zrf a0 26), .int (700 * x3), .ref (zrf a0 29), .int x1, .ref a0])) rfl ?_
      refine Ez_al (M := zM199) rfl (zty (ci := 11) (f := 26) (t := 100) h0 rfl) hF (fun v2 hF => ?_)
      refine Ev_p 3 (c' := (89, [some (.ref a0), some (.int x1), none, some (.int x3), none, some (.int x5), some (.int x6)], [.int (((700 * x3) + v2) + x6), .ref (zrf a0 29), .int x1, .ref a0])) rfl ?_
      refine Ez_al (M := zM199) rfl (zty (ci := 11) (f := 29) (t := 100) h0 rfl) hF (fun v3 hF => ?_)
      refine Ev_p 0 (c' := (90, [some (.ref a0), some (.int x1), none, some (.int x3), none, some (.int x5), some (.int x6)], [.int v3, .int x1, .ref a0])) rfl ?_
      refine Ez_cv (M := zM199) (As := [.ref a0, .int x1, .int v3]) (st' := []) (am_site_v (y := 197) (k := 3) (ci := 11) rfl rfl (zrcv rfl h0 rfl)) (Nat.le_of_ble_eq_true rfl) (Nat.le_of_ble_eq_true rfl) rfl rfl (fun _ hF => zf197_ok hK h0 hF) hF (fun s5 hF => ?_)
      refine Ev_p 2 (c' := (55, [some (.ref a0), some (.int x1), none, some (.int x3), none, some (.int x5), some (.int (x6 + 1))], [])) rfl ?_
      exact ih hF
noncomputable def zf199_12 (a0 : Nat)  : Nat → Int32 → Int32 → Int32 → Int32 → Int32 → zS → Option (zS)
  | 0, _, _, _, _, _, _ => none
  | n + 1, x1, x2, x3, x5, x6, s =>
    if 3 ≤ x6 then
      zf199_55 a0 zfz x1 x3 x5 0 s
    else
      zal s (zrf a0 25) ((3 * x5) + x6) fun v1 =>
      zas s (zrf a0 25) ((3 * ((100 * x1) + x2)) + x6) v1 fun s2 =>
      zf199_12 a0 n x1 x2 x3 x5 (x6 + 1) s2
theorem zf199_12_ok {K : cx_K} (hK : Kok K) {lg : Nat → Int64} {s' : zS} {a0 : Nat} (h0 : zsh a0 = 11)   {n : Nat} : ∀ {x1 : Int32} {x2 : Int32} {x3 : Int32} {x5 : Int32} {x6 : Int32} {s : zS}, zf199_12 a0 n x1 x2 x3 x5 x6 s = some s' → Ev K zM199 (12, [some (.ref a0), some (.int x1), some (.int x2), some (.int x3), none, some (.int x5), some (.int x6)], [], zmk lg s) 0 (.inl none) (zmk lg s') 0 := by
  induction n with
  | zero => intro x1 x2 x3 x5 x6 s hF; rw [zf199_12] at hF; cases hF
  | succ n ih =>
    intro x1 x2 x3 x5 x6 s hF
    rw [zf199_12] at hF
    refine Ev_p 2 (c' := (15, [some (.ref a0), some (.int x1), some (.int x2), some (.int x3), none, some (.int x5), some (.int x6)], [.int 3, .int x6])) rfl ?_
    refine Ez_if (M := zM199) (b := 3 ≤ x6) rfl rfl hF (fun _ hF => ?_) (fun _ hF => ?_)
    · refine Ev_p 2 (c' := (55, [some (.ref a0), some (.int x1), some (.int x2), some (.int x3), none, some (.int x5), some (.int 0)], [])) rfl ?_
      refine Ev_w (L' := [some (.ref a0), some (.int x1), none, some (.int x3), none, some (.int x5), some (.int 0)]) (zle_c (zle_c (zle_n (zle_c (zle_c (zle_c (zle_c zle_0))))))) ?_
      exact zf199_55_ok hK h0 hF
    · refine Ev_p 1 (c' := (19, [some (.ref a0), some (.int x1), some (.int x2), some (.int x3), none, some (.int x5), some (.int x6)], [.ref a0])) rfl ?_
      refine Ez_gr (M := zM199) (ci := 11) (f := 25) (t := 100) rfl rfl h0 rfl ?_
      refine Ev_p 10 (c' := (34, [some (.ref a0), some (.int x1), some (.int x2), some (.int x3), none, some (.int x5), some (.int x6)], [.ref a0, .int ((3 * ((100 * x1) + x2)) + x6), .ref (zrf a0 25)])) rfl ?_
      refine Ez_gr (M := zM199) (ci := 11) (f := 25) (t := 100) rfl rfl h0 rfl ?_
      refine Ev_p 5 (c' := (44, [some (.ref a0), some (.int x1), some (.int x2), some (.int x3), none, some (.int x5), some (.int x6)], [.int ((3 * x5) + x6), .ref (zrf a0 25), .int ((3 * ((100 * x1) + x2)) + x6), .ref (zrf a0 25)])) rfl ?_
      refine Ez_al (M := zM199) rfl (zty (ci := 11) (f := 25) (t := 100) h0 rfl) hF (fun v1 hF => ?_)
      refine Ev_p 0 (c' := (45, [some (.ref a0), some (.int x1), some (.int x2), some (.int x3), none, some (.int x5), some (.int x6)], [.int v1, .int ((3 * ((100 * x1) + x2)) + x6), .ref (zrf a0 25)])) rfl ?_
      refine Ez_as (M := zM199) rfl (zty (ci := 11) (f := 25) (t := 100) h0 rfl) hF (fun s2 hF => ?_)
      refine Ev_p 2 (c' := (12, [some (.ref a0), some (.int x1), some (.int x2), some (.int x3), none, some (.int x5), some (.int (x6 + 1))], [])) rfl ?_
      exact ih hF
noncomputable def zf199 (a0 : Nat) (x1 : Int32) (x2 : Int32) (x3 : Int32) (x4 : Int32) (s : zS) : Option (zS) :=
  zf199_12 a0 zfz x1 x2 x3 ((100 * x3) + x4) 0 s
theorem zf199_ok {K : cx_K} (hK : Kok K) {lg : Nat → Int64} {s' : zS} {a0 : Nat} (h0 : zsh a0 = 11) {x1 : Int32} {x2 : Int32} {x3 : Int32} {x4 : Int32} {s : zS} (hF : zf199 a0 x1 x2 x3 x4 s = some s') : Ct K 199 [.ref a0, .int x1, .int x2, .int x3, .int x4] (zmk lg s) (.inl none) (zmk lg s') 0 := by
  unfold zf199 at hF
  refine Ct_of hK nd_ok199 (mL := 7) (rt := none) rfl rfl (Nat.le_of_ble_eq_true rfl) zlen_le ?_
  refine Ev_p 8 (c' := (12, [some (.ref a0), some (.int x1), some (.int x2), some (.int x3), some (.int x4), some (.int ((100 * x3) + x4)), some (.int 0)], [])) rfl ?_
  refine Ev_w (L' := [some (.ref a0), some (.int x1), some (.int x2), some (.int x3), none, some (.int ((100 * x3) + x4)), some (.int 0)]) (zle_c (zle_c (zle_c (zle_c (zle_n (zle_c (zle_c zle_0))))))) ?_
  exact zf199_12_ok hK h0 hF
-- PaperParcelsModel.copyNode(IIII)V
abbrev zM198 : ev_M := (am_in nd_i198, am_fl nd_f11, am_ct nd_k11, am_sl nd_ml nd_s198, fun _ => none, none)
noncomputable def zf198 (a0 : Nat) (x1 : Int32) (x2 : Int32) (x3 : Int32) (x4 : Int32) (s : zS) : Option (zS) :=
  zal s (zrf a0 23) ((100 * x2) + x3) fun v1 =>
  zbv (zf190 a0 x1 v1 x4 s) fun s3 =>
  zal s3 (zrf a0 22) x1 fun v4 =>
  zbv (zf199 a0 x1 (v4 - 1) x2 x3 s3) fun s6 =>
  some s6
theorem zf198_ok {K : cx_K} (hK : Kok K) {lg : Nat → Int64} {s' : zS} {a0 : Nat} (h0 : zsh a0 = 11) {x1 : Int32} {x2 : Int32} {x3 : Int32} {x4 : Int32} {s : zS} (hF : zf198 a0 x1 x2 x3 x4 s = some s') : Ct K 198 [.ref a0, .int x1, .int x2, .int x3, .int x4] (zmk lg s) (.inl none) (zmk lg s') 0 := by
  unfold zf198 at hF
  refine Ct_of hK nd_ok198 (mL := 5) (rt := none) rfl rfl (Nat.le_of_ble_eq_true rfl) zlen_le ?_
  refine Ev_p 3 (c' := (3, [some (.ref a0), some (.int x1), some (.int x2), some (.int x3), some (.int x4)], [.ref a0, .int x1, .ref a0])) rfl ?_
  refine Ez_gr (M := zM198) (ci := 11) (f := 23) (t := 100) rfl rfl h0 rfl ?_
  refine Ev_p 5 (c' := (12, [some (.ref a0), some (.int x1), some (.int x2), some (.int x3), some (.int x4)], [.int ((100 * x2) + x3), .ref (zrf a0 23), .int x1, .ref a0])) rfl ?_
  refine Ez_al (M := zM198) rfl (zty (ci := 11) (f := 23) (t := 100) h0 rfl) hF (fun v1 hF => ?_)
  refine Ev_p 1 (c' := (15, [some (.ref a0), some (.int x1), some (.int x2), some (.int x3), some (.int x4)], [.int x4, .int v1, .int x1, .ref a0])) rfl ?_
  refine Ez_cv (M := zM198) (As := [.ref a0, .int x1, .int v1, .int x4]) (st' := []) (am_site_v (y := 190) (k := 4) (ci := 11) rfl rfl (zrcv rfl h0 rfl)) (Nat.le_of_ble_eq_true rfl) (Nat.le_of_ble_eq_true rfl) rfl rfl (fun _ hF => zf190_ok hK h0 hF) hF (fun s3 hF => ?_)
  refine Ev_p 3 (c' := (21, [some (.ref a0), some (.int x1), some (.int x2), some (.int x3), some (.int x4)], [.ref a0, .int x1, .ref a0])) rfl ?_
  refine Ez_gr (M := zM198) (ci := 11) (f := 22) (t := 100) rfl rfl h0 rfl ?_
  refine Ev_p 1 (c' := (25, [some (.ref a0), some (.int x1), some (.int x2), some (.int x3), some (.int x4)], [.int x1, .ref (zrf a0 22), .int x1, .ref a0])) rfl ?_
  refine Ez_al (M := zM198) rfl (zty (ci := 11) (f := 22) (t := 100) h0 rfl) hF (fun v4 hF => ?_)
  refine Ev_p 4 (c' := (30, [some (.ref a0), some (.int x1), some (.int x2), some (.int x3), some (.int x4)], [.int x3, .int x2, .int (v4 - 1), .int x1, .ref a0])) rfl ?_
  refine Ez_cv (M := zM198) (As := [.ref a0, .int x1, .int (v4 - 1), .int x2, .int x3]) (st' := []) (am_site_v (y := 199) (k := 5) (ci := 11) rfl rfl (zrcv rfl h0 rfl)) (Nat.le_of_ble_eq_true rfl) (Nat.le_of_ble_eq_true rfl) rfl rfl (fun _ hF => zf199_ok hK h0 hF) hF (fun s6 hF => ?_)
  refine Ev_p 0 (c' := (33, [some (.ref a0), some (.int x1), some (.int x2), some (.int x3), some (.int x4)], [])) rfl ?_
  exact Ez_rv (M := zM198) rfl rfl hF
-- PaperParcelsModel.read(I)I
abbrev zM152 : ev_M := (am_in nd_i152, am_fl nd_f11, am_ct nd_k11, am_sl nd_ml nd_s152, fun _ => none, some .int)
noncomputable def zf152_72 (a0 : Nat)  : Nat → Int32 → Int32 → zS → Option (Int32 × zS)
  | 0, _, _, _ => none
  | n + 1, x1, x3, s =>
    zal s (zrf a0 22) 3 fun v1 =>
    if v1 ≤ x3 then
      zpb s a0 31 0 fun s2 =>
      some (0, s2)
    else
      zal s (zrf a0 24) (300 + x3) fun v3 =>
      zbv (zf198 a0 x1 3 x3 v3 s) fun s5 =>
      zf152_72 a0 n x1 (x3 + 1) s5
theorem zf152_72_ok {K : cx_K} (hK : Kok K) {lg : Nat → Int64} {v : Int32} {s' : zS} {a0 : Nat} (h0 : zsh a0 = 11)   {n : Nat} : ∀ {x1 : Int32} {x3 : Int32} {s : zS}, zf152_72 a0 n x1 x3 s = some (v, s') → Ev K zM152 (72, [some (.ref a0), some (.int x1), none, some (.int x3)], [], zmk lg s) 0 (.inl (some (.int v))) (zmk lg s') 0 := by
  induction n with
  | zero => intro x1 x3 s hF; rw [zf152_72] at hF; cases hF
  | succ n ih =>
    intro x1 x3 s hF
    rw [zf152_72] at hF
    refine Ev_p 2 (c' := (74, [some (.ref a0), some (.int x1), none, some (.int x3)], [.ref a0, .int x3])) rfl ?_
    refine Ez_gr (M := zM152) (ci := 11) (f := 22) (t := 100) rfl rfl h0 rfl ?_
    refine Ev_p 1 (c' := (78, [some (.ref a0), some (.int x1), none, some (.int x3)], [.int 3, .ref (zrf a0 22), .int x3])) rfl ?_
    refine Ez_al (M := zM152) rfl (zty (ci := 11) (f := 22) (t := 100) h0 rfl) hF (fun v1 hF => ?_)
    refine Ev_p 0 (c' := (79, [some (.ref a0), some (.int x1), none, some (.int x3)], [.int v1, .int x3])) rfl ?_
    refine Ez_if (M := zM152) (b := v1 ≤ x3) rfl rfl hF (fun _ hF => ?_) (fun _ hF => ?_)
    · refine Ev_p 2 (c' := (107, [some (.ref a0), some (.int x1), none, some (.int x3)], [.int 0, .ref a0])) rfl ?_
      refine Ez_pb (M := zM152) (ci := 11) (f := 31) rfl rfl h0 rfl hF (fun s2 hF => ?_)
      refine Ev_p 1 (c' := (111, [some (.ref a0), some (.int x1), none, some (.int x3)], [.int 0])) rfl ?_
      exact Ez_ri (M := zM152) rfl rfl hF
    · refine Ev_p 5 (c' := (87, [some (.ref a0), some (.int x1), none, some (.int x3)], [.ref a0, .int x3, .int 3, .int x1, .ref a0])) rfl ?_
      refine Ez_gr (M := zM152) (ci := 11) (f := 24) (t := 100) rfl rfl h0 rfl ?_
      refine Ev_p 3 (c' := (95, [some (.ref a0), some (.int x1), none, some (.int x3)], [.int (300 + x3), .ref (zrf a0 24), .int x3, .int 3, .int x1, .ref a0])) rfl ?_
      refine Ez_al (M := zM152) rfl (zty (ci := 11) (f := 24) (t := 100) h0 rfl) hF (fun v3 hF => ?_)
      refine Ev_p 0 (c' := (96, [some (.ref a0), some (.int x1), none, some (.int x3)], [.int v3, .int x3, .int 3, .int x1, .ref a0])) rfl ?_
      refine Ez_cv (M := zM152) (As := [.ref a0, .int x1, .int 3, .int x3, .int v3]) (st' := []) (am_site_v (y := 198) (k := 5) (ci := 11) rfl rfl (zrcv rfl h0 rfl)) (Nat.le_of_ble_eq_true rfl) (Nat.le_of_ble_eq_true rfl) rfl rfl (fun _ hF => zf198_ok hK h0 hF) hF (fun s5 hF => ?_)
      refine Ev_p 2 (c' := (72, [some (.ref a0), some (.int x1), none, some (.int (x3 + 1))], [])) rfl ?_
      exact ih hF
noncomputable def zf152_49 (a0 : Nat)  (x1 : Int32) (t0 : Int32) (s : zS) : Option (Int32 × zS) :=
  if t0 ≤ 0 then
    zas s (zrf a0 22) x1 0 fun s1 =>
    zas s1 (zrf a0 28) x1 0 fun s2 =>
    zf152_72 a0 zfz x1 0 s2
  else
    some (t0, s)
theorem zf152_49_ok {K : cx_K} (hK : Kok K) {lg : Nat → Int64} {v : Int32} {s' : zS} {a0 : Nat} (h0 : zsh a0 = 11)   {x1 : Int32} {t0 : Int32}  {s : zS} (hF : zf152_49 a0 x1 t0 s = some (v, s')) : Ev K zM152 (49, [some (.ref a0), some (.int x1), none, none], [.int t0], zmk lg s) 0 (.inl (some (.int v))) (zmk lg s') 0 := by
  unfold zf152_49 at hF
  refine Ev_p 2 (c' := (51, [some (.ref a0), some (.int x1), some (.int t0), none], [.int t0])) rfl ?_
  refine Ez_if (M := zM152) (b := t0 ≤ 0) rfl rfl hF (fun _ hF => ?_) (fun _ hF => ?_)
  · refine Ev_p 1 (c' := (57, [some (.ref a0), some (.int x1), some (.int t0), none], [.ref a0])) rfl ?_
    refine Ez_gr (M := zM152) (ci := 11) (f := 22) (t := 100) rfl rfl h0 rfl ?_
    refine Ev_p 2 (c' := (62, [some (.ref a0), some (.int x1), some (.int t0), none], [.int 0, .int x1, .ref (zrf a0 22)])) rfl ?_
    refine Ez_as (M := zM152) rfl (zty (ci := 11) (f := 22) (t := 100) h0 rfl) hF (fun s1 hF => ?_)
    refine Ev_p 1 (c' := (64, [some (.ref a0), some (.int x1), some (.int t0), none], [.ref a0])) rfl ?_
    refine Ez_gr (M := zM152) (ci := 11) (f := 28) (t := 100) rfl rfl h0 rfl ?_
    refine Ev_p 2 (c' := (69, [some (.ref a0), some (.int x1), some (.int t0), none], [.int 0, .int x1, .ref (zrf a0 28)])) rfl ?_
    refine Ez_as (M := zM152) rfl (zty (ci := 11) (f := 28) (t := 100) h0 rfl) hF (fun s2 hF => ?_)
    refine Ev_p 2 (c' := (72, [some (.ref a0), some (.int x1), some (.int t0), some (.int 0)], [])) rfl ?_
    refine Ev_w (L' := [some (.ref a0), some (.int x1), none, some (.int 0)]) (zle_c (zle_c (zle_n (zle_c zle_0)))) ?_
    exact zf152_72_ok hK h0 hF
  · refine Ev_p 1 (c' := (55, [some (.ref a0), some (.int x1), some (.int t0), none], [.int t0])) rfl ?_
    exact Ez_ri (M := zM152) rfl rfl hF
noncomputable def zf152_15 (a0 : Nat)  (x1 : Int32) (t0 : Int32) (s : zS) : Option (Int32 × zS) :=
  zpf s a0 0 t0 fun s1 =>
  zgf s1 a0 0 fun v2 =>
  if v2 ≤ 0 then
    zpf s1 a0 3 (-1) fun s3 =>
    zbi (zf153 a0 s3) fun v4 s5 =>
    if ¬ v4 = 0 then
      zf152_49 a0 x1 v4 s5
    else
      zbi (zf173 a0 s5) fun v6 s7 =>
      zf152_49 a0 x1 v6 s7
  else
    some (0, s1)
theorem zf152_15_ok {K : cx_K} (hK : Kok K) {lg : Nat → Int64} {v : Int32} {s' : zS} {a0 : Nat} (h0 : zsh a0 = 11)   {x1 : Int32} {t0 : Int32}  {s : zS} (hF : zf152_15 a0 x1 t0 s = some (v, s')) : Ev K zM152 (15, [some (.ref a0), some (.int x1), none, none], [.int t0, .ref a0], zmk lg s) 0 (.inl (some (.int v))) (zmk lg s') 0 := by
  unfold zf152_15 at hF
  refine Ev_p 0 (c' := (15, [some (.ref a0), some (.int x1), none, none], [.int t0, .ref a0])) rfl ?_
  refine Ez_pf (M := zM152) (ci := 11) (f := 0) rfl rfl h0 rfl hF (fun s1 hF => ?_)
  refine Ev_p 1 (c' := (19, [some (.ref a0), some (.int x1), none, none], [.ref a0])) rfl ?_
  refine Ez_gf (M := zM152) (ci := 11) (f := 0) rfl rfl h0 rfl hF (fun v2 hF => ?_)
  refine Ev_p 0 (c' := (22, [some (.ref a0), some (.int x1), none, none], [.int v2])) rfl ?_
  refine Ez_if (M := zM152) (b := v2 ≤ 0) rfl rfl hF (fun _ hF => ?_) (fun _ hF => ?_)
  · refine Ev_p 2 (c' := (29, [some (.ref a0), some (.int x1), none, none], [.int (-1), .ref a0])) rfl ?_
    refine Ez_pf (M := zM152) (ci := 11) (f := 3) rfl rfl h0 rfl hF (fun s3 hF => ?_)
    refine Ev_p 1 (c' := (33, [some (.ref a0), some (.int x1), none, none], [.ref a0])) rfl ?_
    refine Ez_ci (M := zM152) (As := [.ref a0]) (st' := []) (am_site_v (y := 153) (k := 1) (ci := 11) rfl rfl (zrcv rfl h0 rfl)) (Nat.le_of_ble_eq_true rfl) (Nat.le_of_ble_eq_true rfl) rfl rfl (fun _ _ hF => zf153_ok hK h0 hF) hF (fun v4 s5 hF => ?_)
    refine Ev_p 2 (c' := (38, [some (.ref a0), some (.int x1), some (.int v4), none], [.int v4])) rfl ?_
    refine Ez_if (M := zM152) (b := ¬ v4 = 0) rfl rfl hF (fun _ hF => ?_) (fun _ hF => ?_)
    · refine Ev_p 1 (c' := (49, [some (.ref a0), some (.int x1), some (.int v4), none], [.int v4])) rfl ?_
      refine Ev_w (L' := [some (.ref a0), some (.int x1), none, none]) (zle_c (zle_c (zle_n (zle_c zle_0)))) ?_
      exact zf152_49_ok hK h0 hF
    · refine Ev_p 1 (c' := (42, [some (.ref a0), some (.int x1), some (.int v4), none], [.ref a0])) rfl ?_
      refine Ez_ci (M := zM152) (As := [.ref a0]) (st' := []) (am_site_v (y := 173) (k := 1) (ci := 11) rfl rfl (zrcv rfl h0 rfl)) (Nat.le_of_ble_eq_true rfl) (Nat.le_of_ble_eq_true rfl) rfl rfl (fun _ _ hF => zf173_ok hK h0 hF) hF (fun v6 s7 hF => ?_)
      refine Ev_p 1 (c' := (49, [some (.ref a0), some (.int x1), some (.int v4), none], [.int v6])) rfl ?_
      refine Ev_w (L' := [some (.ref a0), some (.int x1), none, none]) (zle_c (zle_c (zle_n (zle_c zle_0)))) ?_
      exact zf152_49_ok hK h0 hF
  · refine Ev_p 1 (c' := (26, [some (.ref a0), some (.int x1), none, none], [.int 0])) rfl ?_
    exact Ez_ri (M := zM152) rfl rfl hF
noncomputable def zf152 (a0 : Nat) (x1 : Int32) (s : zS) : Option (Int32 × zS) :=
  if x1 = 0 then
    zf152_15 a0 x1 0 s
  else
    if ¬ x1 = 1 then
      zf152_15 a0 x1 1 s
    else
      zf152_15 a0 x1 0 s
theorem zf152_ok {K : cx_K} (hK : Kok K) {lg : Nat → Int64} {v : Int32} {s' : zS} {a0 : Nat} (h0 : zsh a0 = 11) {x1 : Int32} {s : zS} (hF : zf152 a0 x1 s = some (v, s')) : Ct K 152 [.ref a0, .int x1] (zmk lg s) (.inl (some (.int v))) (zmk lg s') 0 := by
  unfold zf152 at hF
  refine Ct_of hK nd_ok152 (mL := 4) (rt := some .int) rfl rfl (Nat.le_of_ble_eq_true rfl) zlen_le ?_
  refine Ev_p 2 (c' := (2, [some (.ref a0), some (.int x1), none, none], [.int x1, .ref a0])) rfl ?_
  refine Ez_if (M := zM152) (b := x1 = 0) rfl rfl hF (fun _ hF => ?_) (fun _ hF => ?_)
  · refine Ev_p 2 (c' := (15, [some (.ref a0), some (.int x1), none, none], [.int 0, .ref a0])) rfl ?_
    exact zf152_15_ok hK h0 hF
  · refine Ev_p 2 (c' := (7, [some (.ref a0), some (.int x1), none, none], [.int 1, .int x1, .ref a0])) rfl ?_
    refine Ez_if (M := zM152) (b := ¬ x1 = 1) rfl rfl hF (fun _ hF => ?_) (fun _ hF => ?_)
    · refine Ev_p 1 (c' := (15, [some (.ref a0), some (.int x1), none, none], [.int 1, .ref a0])) rfl ?_
      exact zf152_15_ok hK h0 hF
    · refine Ev_p 2 (c' := (15, [some (.ref a0), some (.int x1), none, none], [.int 0, .ref a0])) rfl ?_
      exact zf152_15_ok hK h0 hF
-- PaperParcelsModel.place()I
abbrev zM200 : ev_M := (am_in nd_i200, am_fl nd_f11, am_ct nd_k11, am_sl nd_ml nd_s200, fun _ => none, some .int)
noncomputable def zf200 (a0 : Nat) (s : zS) : Option (Int32 × zS) :=
  zpf s a0 0 0 fun s1 =>
  zgf s1 a0 3 fun v2 =>
  some (v2, s1)
theorem zf200_ok {K : cx_K} (hK : Kok K) {lg : Nat → Int64} {v : Int32} {s' : zS} {a0 : Nat} (h0 : zsh a0 = 11)  {s : zS} (hF : zf200 a0 s = some (v, s')) : Ct K 200 [.ref a0] (zmk lg s) (.inl (some (.int v))) (zmk lg s') 0 := by
  unfold zf200 at hF
  refine Ct_of hK nd_ok200 (mL := 1) (rt := some .int) rfl rfl (Nat.le_of_ble_eq_true rfl) zlen_le ?_
  refine Ev_p 2 (c' := (2, [some (.ref a0)], [.int 0, .ref a0])) rfl ?_
  refine Ez_pf (M := zM200) (ci := 11) (f := 0) rfl rfl h0 rfl hF (fun s1 hF => ?_)
  refine Ev_p 1 (c' := (6, [some (.ref a0)], [.ref a0])) rfl ?_
  refine Ez_gf (M := zM200) (ci := 11) (f := 3) rfl rfl h0 rfl hF (fun v2 hF => ?_)
  refine Ev_p 0 (c' := (9, [some (.ref a0)], [.int v2])) rfl ?_
  exact Ez_ri (M := zM200) rfl rfl hF
-- PaperParcelsModel.isSlot(I)Z
abbrev zM202 : ev_M := (am_in nd_i202, am_fl nd_f11, am_ct nd_k11, am_sl nd_ml nd_s202, fun _ => none, some .boolean)
noncomputable def zf202 (x0 : Int32) (s : zS) : Option (Int32 × zS) :=
  if x0 < 0 then
    zrb 0 s
  else
    if 2 < x0 then
      zrb 0 s
    else
      zrb 1 s
theorem zf202_ok {K : cx_K} (hK : Kok K) {lg : Nat → Int64} {v : Int32} {s' : zS}   {x0 : Int32} {s : zS} (hF : zf202 x0 s = some (v, s')) : Ct K 202 [.int x0] (zmk lg s) (.inl (some (.int v))) (zmk lg s') 0 := by
  unfold zf202 at hF
  refine Ct_of hK nd_ok202 (mL := 1) (rt := some .boolean) rfl rfl (Nat.le_of_ble_eq_true rfl) zlen_le ?_
  refine Ev_p 1 (c' := (1, [some (.int x0)], [.int x0])) rfl ?_
  refine Ez_if (M := zM202) (b := x0 < 0) rfl rfl hF (fun _ hF => ?_) (fun _ hF => ?_)
  · refine Ev_p 1 (c' := (14, [some (.int x0)], [.int 0])) rfl ?_
    exact Ez_rb (M := zM202) rfl rfl hF
  · refine Ev_p 2 (c' := (6, [some (.int x0)], [.int 2, .int x0])) rfl ?_
    refine Ez_if (M := zM202) (b := 2 < x0) rfl rfl hF (fun _ hF => ?_) (fun _ hF => ?_)
    · refine Ev_p 1 (c' := (14, [some (.int x0)], [.int 0])) rfl ?_
      exact Ez_rb (M := zM202) rfl rfl hF
    · refine Ev_p 2 (c' := (14, [some (.int x0)], [.int 1])) rfl ?_
      exact Ez_rb (M := zM202) rfl rfl hF
-- PaperParcelsModel.nodes(I)I
abbrev zM201 : ev_M := (am_in nd_i201, am_fl nd_f11, am_ct nd_k11, am_sl nd_ml nd_s201, fun _ => none, some .int)
noncomputable def zf201_13 (a0 : Nat)  (x1 : Int32) (t0 : Int32) (s : zS) : Option (Int32 × zS) :=
  zpf s a0 0 t0 fun s1 =>
  zgf s1 a0 0 fun v2 =>
  if ¬ v2 = 0 then
    some (0, s1)
  else
    zal s1 (zrf a0 22) x1 fun v3 =>
    some (v3, s1)
theorem zf201_13_ok {K : cx_K} (hK : Kok K) {lg : Nat → Int64} {v : Int32} {s' : zS} {a0 : Nat} (h0 : zsh a0 = 11)   {x1 : Int32} {t0 : Int32}  {s : zS} (hF : zf201_13 a0 x1 t0 s = some (v, s')) : Ev K zM201 (13, [some (.ref a0), some (.int x1)], [.int t0, .ref a0], zmk lg s) 0 (.inl (some (.int v))) (zmk lg s') 0 := by
  unfold zf201_13 at hF
  refine Ev_p 0 (c' := (13, [some (.ref a0), some (.int x1)], [.int t0, .ref a0])) rfl ?_
  refine Ez_pf (M := zM201) (ci := 11) (f := 0) rfl rfl h0 rfl hF (fun s1 hF => ?_)
  refine Ev_p 1 (c' := (17, [some (.ref a0), some (.int x1)], [.ref a0])) rfl ?_
  refine Ez_gf (M := zM201) (ci := 11) (f := 0) rfl rfl h0 rfl hF (fun v2 hF => ?_)
  refine Ev_p 0 (c' := (20, [some (.ref a0), some (.int x1)], [.int v2])) rfl ?_
  refine Ez_if (M := zM201) (b := ¬ v2 = 0) rfl rfl hF (fun _ hF => ?_) (fun _ hF => ?_)
  · refine Ev_p 1 (c' := (33, [some (.ref a0), some (.int x1)], [.int 0])) rfl ?_
    exact Ez_ri (M := zM201) rfl rfl hF
  · refine Ev_p 1 (c' := (24, [some (.ref a0), some (.int x1)], [.ref a0])) rfl ?_
    refine Ez_gr (M := zM201) (ci := 11) (f := 22) (t := 100) rfl rfl h0 rfl ?_
    refine Ev_p 1 (c' := (28, [some (.ref a0), some (.int x1)], [.int x1, .ref (zrf a0 22)])) rfl ?_
    refine Ez_al (M := zM201) rfl (zty (ci := 11) (f := 22) (t := 100) h0 rfl) hF (fun v3 hF => ?_)
    refine Ev_p 1 (c' := (33, [some (.ref a0), some (.int x1)], [.int v3])) rfl ?_
    exact Ez_ri (M := zM201) rfl rfl hF
noncomputable def zf201 (a0 : Nat) (x1 : Int32) (s : zS) : Option (Int32 × zS) :=
  zbi (zf202 x1 s) fun v1 s2 =>
  if v1 = 0 then
    zf201_13 a0 x1 1 s2
  else
    zf201_13 a0 x1 0 s2
theorem zf201_ok {K : cx_K} (hK : Kok K) {lg : Nat → Int64} {v : Int32} {s' : zS} {a0 : Nat} (h0 : zsh a0 = 11) {x1 : Int32} {s : zS} (hF : zf201 a0 x1 s = some (v, s')) : Ct K 201 [.ref a0, .int x1] (zmk lg s) (.inl (some (.int v))) (zmk lg s') 0 := by
  unfold zf201 at hF
  refine Ct_of hK nd_ok201 (mL := 2) (rt := some .int) rfl rfl (Nat.le_of_ble_eq_true rfl) zlen_le ?_
  refine Ev_p 2 (c' := (2, [some (.ref a0), some (.int x1)], [.int x1, .ref a0])) rfl ?_
  refine Ez_ci (M := zM201) (As := [.int x1]) (st' := [.ref a0]) (zsite_0 (y := 202) (k := 1) (ci := 11) rfl rfl) (Nat.le_of_ble_eq_true rfl) (Nat.le_of_ble_eq_true rfl) rfl rfl (fun _ _ hF => zf202_ok hK  hF) hF (fun v1 s2 hF => ?_)
  refine Ev_p 0 (c' := (5, [some (.ref a0), some (.int x1)], [.int v1, .ref a0])) rfl ?_
  refine Ez_if (M := zM201) (b := v1 = 0) rfl rfl hF (fun _ hF => ?_) (fun _ hF => ?_)
  · refine Ev_p 1 (c' := (13, [some (.ref a0), some (.int x1)], [.int 1, .ref a0])) rfl ?_
    exact zf201_13_ok hK h0 hF
  · refine Ev_p 2 (c' := (13, [some (.ref a0), some (.int x1)], [.int 0, .ref a0])) rfl ?_
    exact zf201_13_ok hK h0 hF
-- PaperParcelsModel.isNode(II)Z
abbrev zM204 : ev_M := (am_in nd_i204, am_fl nd_f11, am_ct nd_k11, am_sl nd_ml nd_s204, fun _ => none, some .boolean)
noncomputable def zf204_31 (a0 : Nat)  (t0 : Int32) (s : zS) : Option (Int32 × zS) :=
  zpf s a0 0 t0 fun s1 =>
  zgf s1 a0 0 fun v2 =>
  if ¬ v2 = 0 then
    zrb 0 s1
  else
    zrb 1 s1
theorem zf204_31_ok {K : cx_K} (hK : Kok K) {lg : Nat → Int64} {v : Int32} {s' : zS} {a0 : Nat} (h0 : zsh a0 = 11)   {t0 : Int32}  {s : zS} (hF : zf204_31 a0 t0 s = some (v, s')) : Ev K zM204 (31, [some (.ref a0), none, none], [.int t0, .ref a0], zmk lg s) 0 (.inl (some (.int v))) (zmk lg s') 0 := by
  unfold zf204_31 at hF
  refine Ev_p 0 (c' := (31, [some (.ref a0), none, none], [.int t0, .ref a0])) rfl ?_
  refine Ez_pf (M := zM204) (ci := 11) (f := 0) rfl rfl h0 rfl hF (fun s1 hF => ?_)
  refine Ev_p 1 (c' := (35, [some (.ref a0), none, none], [.ref a0])) rfl ?_
  refine Ez_gf (M := zM204) (ci := 11) (f := 0) rfl rfl h0 rfl hF (fun v2 hF => ?_)
  refine Ev_p 0 (c' := (38, [some (.ref a0), none, none], [.int v2])) rfl ?_
  refine Ez_if (M := zM204) (b := ¬ v2 = 0) rfl rfl hF (fun _ hF => ?_) (fun _ hF => ?_)
  · refine Ev_p 1 (c' := (46, [some (.ref a0), none, none], [.int 0])) rfl ?_
    exact Ez_rb (M := zM204) rfl rfl hF
  · refine Ev_p 2 (c' := (46, [some (.ref a0), none, none], [.int 1])) rfl ?_
    exact Ez_rb (M := zM204) rfl rfl hF
noncomputable def zf204 (a0 : Nat) (x1 : Int32) (x2 : Int32) (s : zS) : Option (Int32 × zS) :=
  zbi (zf202 x1 s) fun v1 s2 =>
  if ¬ v1 = 0 then
    if x2 < 0 then
      zf204_31 a0 2 s2
    else
      zal s2 (zrf a0 22) x1 fun v3 =>
      if x2 < v3 then
        zf204_31 a0 0 s2
      else
        zf204_31 a0 2 s2
  else
    zf204_31 a0 1 s2
theorem zf204_ok {K : cx_K} (hK : Kok K) {lg : Nat → Int64} {v : Int32} {s' : zS} {a0 : Nat} (h0 : zsh a0 = 11) {x1 : Int32} {x2 : Int32} {s : zS} (hF : zf204 a0 x1 x2 s = some (v, s')) : Ct K 204 [.ref a0, .int x1, .int x2] (zmk lg s) (.inl (some (.int v))) (zmk lg s') 0 := by
  unfold zf204 at hF
  refine Ct_of hK nd_ok204 (mL := 3) (rt := some .boolean) rfl rfl (Nat.le_of_ble_eq_true rfl) zlen_le ?_
  refine Ev_p 2 (c' := (2, [some (.ref a0), some (.int x1), some (.int x2)], [.int x1, .ref a0])) rfl ?_
  refine Ez_ci (M := zM204) (As := [.int x1]) (st' := [.ref a0]) (zsite_0 (y := 202) (k := 1) (ci := 11) rfl rfl) (Nat.le_of_ble_eq_true rfl) (Nat.le_of_ble_eq_true rfl) rfl rfl (fun _ _ hF => zf202_ok hK  hF) hF (fun v1 s2 hF => ?_)
  refine Ev_p 0 (c' := (5, [some (.ref a0), some (.int x1), some (.int x2)], [.int v1, .ref a0])) rfl ?_
  refine Ez_if (M := zM204) (b := ¬ v1 = 0) rfl rfl hF (fun _ hF => ?_) (fun _ hF => ?_)
  · refine Ev_p 1 (c' := (13, [some (.ref a0), some (.int x1), some (.int x2)], [.int x2, .ref a0])) rfl ?_
    refine Ez_if (M := zM204) (b := x2 < 0) rfl rfl hF (fun _ hF => ?_) (fun _ hF => ?_)
    · refine Ev_p 2 (c' := (31, [some (.ref a0), some (.int x1), some (.int x2)], [.int 2, .ref a0])) rfl ?_
      refine Ev_w (L' := [some (.ref a0), none, none]) (zle_c (zle_n (zle_n zle_0))) ?_
      exact zf204_31_ok hK h0 hF
    · refine Ev_p 2 (c' := (18, [some (.ref a0), some (.int x1), some (.int x2)], [.ref a0, .int x2, .ref a0])) rfl ?_
      refine Ez_gr (M := zM204) (ci := 11) (f := 22) (t := 100) rfl rfl h0 rfl ?_
      refine Ev_p 1 (c' := (22, [some (.ref a0), some (.int x1), some (.int x2)], [.int x1, .ref (zrf a0 22), .int x2, .ref a0])) rfl ?_
      refine Ez_al (M := zM204) rfl (zty (ci := 11) (f := 22) (t := 100) h0 rfl) hF (fun v3 hF => ?_)
      refine Ev_p 0 (c' := (23, [some (.ref a0), some (.int x1), some (.int x2)], [.int v3, .int x2, .ref a0])) rfl ?_
      refine Ez_if (M := zM204) (b := x2 < v3) rfl rfl hF (fun _ hF => ?_) (fun _ hF => ?_)
      · refine Ev_p 1 (c' := (31, [some (.ref a0), some (.int x1), some (.int x2)], [.int 0, .ref a0])) rfl ?_
        refine Ev_w (L' := [some (.ref a0), none, none]) (zle_c (zle_n (zle_n zle_0))) ?_
        exact zf204_31_ok hK h0 hF
      · refine Ev_p 2 (c' := (31, [some (.ref a0), some (.int x1), some (.int x2)], [.int 2, .ref a0])) rfl ?_
        refine Ev_w (L' := [some (.ref a0), none, none]) (zle_c (zle_n (zle_n zle_0))) ?_
        exact zf204_31_ok hK h0 hF
  · refine Ev_p 2 (c' := (31, [some (.ref a0), some (.int x1), some (.int x2)], [.int 1, .ref a0])) rfl ?_
    refine Ev_w (L' := [some (.ref a0), none, none]) (zle_c (zle_n (zle_n zle_0))) ?_
    exact zf204_31_ok hK h0 hF
-- PaperParcelsModel.kind(II)I
abbrev zM203 : ev_M := (am_in nd_i203, am_fl nd_f11, am_ct nd_k11, am_sl nd_ml nd_s203, fun _ => none, some .int)
noncomputable def zf203 (a0 : Nat) (x1 : Int32) (x2 : Int32) (s : zS) : Option (Int32 × zS) :=
  zbi (zf204 a0 x1 x2 s) fun v1 s2 =>
  if v1 = 0 then
    some (0, s2)
  else
    zal s2 (zrf a0 23) ((100 * x1) + x2) fun v3 =>
    some (v3, s2)
theorem zf203_ok {K : cx_K} (hK : Kok K) {lg : Nat → Int64} {v : Int32} {s' : zS} {a0 : Nat} (h0 : zsh a0 = 11) {x1 : Int32} {x2 : Int32} {s : zS} (hF : zf203 a0 x1 x2 s = some (v, s')) : Ct K 203 [.ref a0, .int x1, .int x2] (zmk lg s) (.inl (some (.int v))) (zmk lg s') 0 := by
  unfold zf203 at hF
  refine Ct_of hK nd_ok203 (mL := 3) (rt := some .int) rfl rfl (Nat.le_of_ble_eq_true rfl) zlen_le ?_
  refine Ev_p 3 (c' := (3, [some (.ref a0), some (.int x1), some (.int x2)], [.int x2, .int x1, .ref a0])) rfl ?_
  refine Ez_ci (M := zM203) (As := [.ref a0, .int x1, .int x2]) (st' := []) (am_site_v (y := 204) (k := 3) (ci := 11) rfl rfl (zrcv rfl h0 rfl)) (Nat.le_of_ble_eq_true rfl) (Nat.le_of_ble_eq_true rfl) rfl rfl (fun _ _ hF => zf204_ok hK h0 hF) hF (fun v1 s2 hF => ?_)
  refine Ev_p 0 (c' := (6, [some (.ref a0), some (.int x1), some (.int x2)], [.int v1])) rfl ?_
  refine Ez_if (M := zM203) (b := v1 = 0) rfl rfl hF (fun _ hF => ?_) (fun _ hF => ?_)
  · refine Ev_p 1 (c' := (24, [some (.ref a0), some (.int x1), some (.int x2)], [.int 0])) rfl ?_
    exact Ez_ri (M := zM203) rfl rfl hF
  · refine Ev_p 1 (c' := (10, [some (.ref a0), some (.int x1), some (.int x2)], [.ref a0])) rfl ?_
    refine Ez_gr (M := zM203) (ci := 11) (f := 23) (t := 100) rfl rfl h0 rfl ?_
    refine Ev_p 5 (c' := (19, [some (.ref a0), some (.int x1), some (.int x2)], [.int ((100 * x1) + x2), .ref (zrf a0 23)])) rfl ?_
    refine Ez_al (M := zM203) rfl (zty (ci := 11) (f := 23) (t := 100) h0 rfl) hF (fun v3 hF => ?_)
    refine Ev_p 1 (c' := (24, [some (.ref a0), some (.int x1), some (.int x2)], [.int v3])) rfl ?_
    exact Ez_ri (M := zM203) rfl rfl hF
-- PaperParcelsModel.above(II)I
abbrev zM205 : ev_M := (am_in nd_i205, am_fl nd_f11, am_ct nd_k11, am_sl nd_ml nd_s205, fun _ => none, some .int)
noncomputable def zf205 (a0 : Nat) (x1 : Int32) (x2 : Int32) (s : zS) : Option (Int32 × zS) :=
  zbi (zf204 a0 x1 x2 s) fun v1 s2 =>
  if v1 = 0 then
    some (0, s2)
  else
    zal s2 (zrf a0 24) ((100 * x1) + x2) fun v3 =>
    some (v3, s2)
theorem zf205_ok {K : cx_K} (hK : Kok K) {lg : Nat → Int64} {v : Int32} {s' : zS} {a0 : Nat} (h0 : zsh a0 = 11) {x1 : Int32} {x2 : Int32} {s : zS} (hF : zf205 a0 x1 x2 s = some (v, s')) : Ct K 205 [.ref a0, .int x1, .int x2] (zmk lg s) (.inl (some (.int v))) (zmk lg s') 0 := by
  unfold zf205 at hF
  refine Ct_of hK nd_ok205 (mL := 3) (rt := some .int) rfl rfl (Nat.le_of_ble_eq_true rfl) zlen_le ?_
  refine Ev_p 3 (c' := (3, [some (.ref a0), some (.int x1), some (.int x2)], [.int x2, .int x1, .ref a0])) rfl ?_
  refine Ez_ci (M := zM205) (As := [.ref a0, .int x1, .int x2]) (st' := []) (am_site_v (y := 204) (k := 3) (ci := 11) rfl rfl (zrcv rfl h0 rfl)) (Nat.le_of_ble_eq_true rfl) (Nat.le_of_ble_eq_true rfl) rfl rfl (fun _ _ hF => zf204_ok hK h0 hF) hF (fun v1 s2 hF => ?_)
  refine Ev_p 0 (c' := (6, [some (.ref a0), some (.int x1), some (.int x2)], [.int v1])) rfl ?_
  refine Ez_if (M := zM205) (b := v1 = 0) rfl rfl hF (fun _ hF => ?_) (fun _ hF => ?_)
  · refine Ev_p 1 (c' := (24, [some (.ref a0), some (.int x1), some (.int x2)], [.int 0])) rfl ?_
    exact Ez_ri (M := zM205) rfl rfl hF
  · refine Ev_p 1 (c' := (10, [some (.ref a0), some (.int x1), some (.int x2)], [.ref a0])) rfl ?_
    refine Ez_gr (M := zM205) (ci := 11) (f := 24) (t := 100) rfl rfl h0 rfl ?_
    refine Ev_p 5 (c' := (19, [some (.ref a0), some (.int x1), some (.int x2)], [.int ((100 * x1) + x2), .ref (zrf a0 24)])) rfl ?_
    refine Ez_al (M := zM205) rfl (zty (ci := 11) (f := 24) (t := 100) h0 rfl) hF (fun v3 hF => ?_)
    refine Ev_p 1 (c' := (24, [some (.ref a0), some (.int x1), some (.int x2)], [.int v3])) rfl ?_
    exact Ez_ri (M := zM205) rfl rfl hF
-- PaperParcelsModel.refuse(I)I
abbrev zM207 : ev_M := (am_in nd_i207, am_fl nd_f11, am_ct nd_k11, am_sl nd_ml nd_s207, fun _ => none, some .int)
noncomputable def zf207 (a0 : Nat) (x1 : Int32) (s : zS) : Option (Int32 × zS) :=
  zpf s a0 0 x1 fun s1 =>
  some (0, s1)
theorem zf207_ok {K : cx_K} (hK : Kok K) {lg : Nat → Int64} {v : Int32} {s' : zS} {a0 : Nat} (h0 : zsh a0 = 11) {x1 : Int32} {s : zS} (hF : zf207 a0 x1 s = some (v, s')) : Ct K 207 [.ref a0, .int x1] (zmk lg s) (.inl (some (.int v))) (zmk lg s') 0 := by
  unfold zf207 at hF
  refine Ct_of hK nd_ok207 (mL := 2) (rt := some .int) rfl rfl (Nat.le_of_ble_eq_true rfl) zlen_le ?_
  refine Ev_p 2 (c' := (2, [some (.ref a0), some (.int x1)], [.int x1, .ref a0])) rfl ?_
  refine Ez_pf (M := zM207) (ci := 11) (f := 0) rfl rfl h0 rfl hF (fun s1 hF => ?_)
  refine Ev_p 1 (c' := (6, [some (.ref a0), some (.int x1)], [.int 0])) rfl ?_
  exact Ez_ri (M := zM207) rfl rfl hF
-- PaperParcelsModel.look(III)I
abbrev zM206 : ev_M := (am_in nd_i206, am_fl nd_f11, am_ct nd_k11, am_sl nd_ml nd_s206, fun _ => none, some .int)
noncomputable def zf206_9 (a0 : Nat)   (s : zS) : Option (Int32 × zS) :=
  zbi (zf207 a0 1 s) fun v1 s2 =>
  some (v1, s2)
theorem zf206_9_ok {K : cx_K} (hK : Kok K) {lg : Nat → Int64} {v : Int32} {s' : zS} {a0 : Nat} (h0 : zsh a0 = 11)     {s : zS} (hF : zf206_9 a0 s = some (v, s')) : Ev K zM206 (9, [some (.ref a0), none, none, none], [], zmk lg s) 0 (.inl (some (.int v))) (zmk lg s') 0 := by
  unfold zf206_9 at hF
  refine Ev_p 2 (c' := (11, [some (.ref a0), none, none, none], [.int 1, .ref a0])) rfl ?_
  refine Ez_ci (M := zM206) (As := [.ref a0, .int 1]) (st' := []) (am_site_v (y := 207) (k := 2) (ci := 11) rfl rfl (zrcv rfl h0 rfl)) (Nat.le_of_ble_eq_true rfl) (Nat.le_of_ble_eq_true rfl) rfl rfl (fun _ _ hF => zf207_ok hK h0 hF) hF (fun v1 s2 hF => ?_)
  refine Ev_p 0 (c' := (14, [some (.ref a0), none, none, none], [.int v1])) rfl ?_
  exact Ez_ri (M := zM206) rfl rfl hF
noncomputable def zf206 (a0 : Nat) (x1 : Int32) (x2 : Int32) (x3 : Int32) (s : zS) : Option (Int32 × zS) :=
  if x3 < 0 then
    zf206_9 a0 s
  else
    if x3 ≤ 2 then
      zbi (zf204 a0 x1 x2 s) fun v1 s2 =>
      if v1 = 0 then
        some (0, s2)
      else
        zal s2 (zrf a0 25) ((3 * ((100 * x1) + x2)) + x3) fun v3 =>
        some (v3, s2)
    else
      zf206_9 a0 s
theorem zf206_ok {K : cx_K} (hK : Kok K) {lg : Nat → Int64} {v : Int32} {s' : zS} {a0 : Nat} (h0 : zsh a0 = 11) {x1 : Int32} {x2 : Int32} {x3 : Int32} {s : zS} (hF : zf206 a0 x1 x2 x3 s = some (v, s')) : Ct K 206 [.ref a0, .int x1, .int x2, .int x3] (zmk lg s) (.inl (some (.int v))) (zmk lg s') 0 := by
  unfold zf206 at hF
  refine Ct_of hK nd_ok206 (mL := 4) (rt := some .int) rfl rfl (Nat.le_of_ble_eq_true rfl) zlen_le ?_
  refine Ev_p 1 (c' := (1, [some (.ref a0), some (.int x1), some (.int x2), some (.int x3)], [.int x3])) rfl ?_
  refine Ez_if (M := zM206) (b := x3 < 0) rfl rfl hF (fun _ hF => ?_) (fun _ hF => ?_)
  · refine Ev_p 0 (c' := (9, [some (.ref a0), some (.int x1), some (.int x2), some (.int x3)], [])) rfl ?_
    refine Ev_w (L' := [some (.ref a0), none, none, none]) (zle_c (zle_n (zle_n (zle_n zle_0)))) ?_
    exact zf206_9_ok hK h0 hF
  · refine Ev_p 2 (c' := (6, [some (.ref a0), some (.int x1), some (.int x2), some (.int x3)], [.int 2, .int x3])) rfl ?_
    refine Ez_if (M := zM206) (b := x3 ≤ 2) rfl rfl hF (fun _ hF => ?_) (fun _ hF => ?_)
    · refine Ev_p 3 (c' := (18, [some (.ref a0), some (.int x1), some (.int x2), some (.int x3)], [.int x2, .int x1, .ref a0])) rfl ?_
      refine Ez_ci (M := zM206) (As := [.ref a0, .int x1, .int x2]) (st' := []) (am_site_v (y := 204) (k := 3) (ci := 11) rfl rfl (zrcv rfl h0 rfl)) (Nat.le_of_ble_eq_true rfl) (Nat.le_of_ble_eq_true rfl) rfl rfl (fun _ _ hF => zf204_ok hK h0 hF) hF (fun v1 s2 hF => ?_)
      refine Ev_p 0 (c' := (21, [some (.ref a0), some (.int x1), some (.int x2), some (.int x3)], [.int v1])) rfl ?_
      refine Ez_if (M := zM206) (b := v1 = 0) rfl rfl hF (fun _ hF => ?_) (fun _ hF => ?_)
      · refine Ev_p 1 (c' := (43, [some (.ref a0), some (.int x1), some (.int x2), some (.int x3)], [.int 0])) rfl ?_
        exact Ez_ri (M := zM206) rfl rfl hF
      · refine Ev_p 1 (c' := (25, [some (.ref a0), some (.int x1), some (.int x2), some (.int x3)], [.ref a0])) rfl ?_
        refine Ez_gr (M := zM206) (ci := 11) (f := 25) (t := 100) rfl rfl h0 rfl ?_
        refine Ev_p 9 (c' := (38, [some (.ref a0), some (.int x1), some (.int x2), some (.int x3)], [.int ((3 * ((100 * x1) + x2)) + x3), .ref (zrf a0 25)])) rfl ?_
        refine Ez_al (M := zM206) rfl (zty (ci := 11) (f := 25) (t := 100) h0 rfl) hF (fun v3 hF => ?_)
        refine Ev_p 1 (c' := (43, [some (.ref a0), some (.int x1), some (.int x2), some (.int x3)], [.int v3])) rfl ?_
        exact Ez_ri (M := zM206) rfl rfl hF
    · refine Ev_p 0 (c' := (9, [some (.ref a0), some (.int x1), some (.int x2), some (.int x3)], [])) rfl ?_
      refine Ev_w (L' := [some (.ref a0), none, none, none]) (zle_c (zle_n (zle_n (zle_n zle_0)))) ?_
      exact zf206_9_ok hK h0 hF
-- PaperParcelsModel.letters(II)I
abbrev zM208 : ev_M := (am_in nd_i208, am_fl nd_f11, am_ct nd_k11, am_sl nd_ml nd_s208, fun _ => none, some .int)
noncomputable def zf208 (a0 : Nat) (x1 : Int32) (x2 : Int32) (s : zS) : Option (Int32 × zS) :=
  zbi (zf204 a0 x1 x2 s) fun v1 s2 =>
  if v1 = 0 then
    some (0, s2)
  else
    zal s2 (zrf a0 27) ((100 * x1) + x2) fun v3 =>
    some (v3, s2)
theorem zf208_ok {K : cx_K} (hK : Kok K) {lg : Nat → Int64} {v : Int32} {s' : zS} {a0 : Nat} (h0 : zsh a0 = 11) {x1 : Int32} {x2 : Int32} {s : zS} (hF : zf208 a0 x1 x2 s = some (v, s')) : Ct K 208 [.ref a0, .int x1, .int x2] (zmk lg s) (.inl (some (.int v))) (zmk lg s') 0 := by
  unfold zf208 at hF
  refine Ct_of hK nd_ok208 (mL := 3) (rt := some .int) rfl rfl (Nat.le_of_ble_eq_true rfl) zlen_le ?_
  refine Ev_p 3 (c' := (3, [some (.ref a0), some (.int x1), some (.int x2)], [.int x2, .int x1, .ref a0])) rfl ?_
  refine Ez_ci (M := zM208) (As := [.ref a0, .int x1, .int x2]) (st' := []) (am_site_v (y := 204) (k := 3) (ci := 11) rfl rfl (zrcv rfl h0 rfl)) (Nat.le_of_ble_eq_true rfl) (Nat.le_of_ble_eq_true rfl) rfl rfl (fun _ _ hF => zf204_ok hK h0 hF) hF (fun v1 s2 hF => ?_)
  refine Ev_p 0 (c' := (6, [some (.ref a0), some (.int x1), some (.int x2)], [.int v1])) rfl ?_
  refine Ez_if (M := zM208) (b := v1 = 0) rfl rfl hF (fun _ hF => ?_) (fun _ hF => ?_)
  · refine Ev_p 1 (c' := (24, [some (.ref a0), some (.int x1), some (.int x2)], [.int 0])) rfl ?_
    exact Ez_ri (M := zM208) rfl rfl hF
  · refine Ev_p 1 (c' := (10, [some (.ref a0), some (.int x1), some (.int x2)], [.ref a0])) rfl ?_
    refine Ez_gr (M := zM208) (ci := 11) (f := 27) (t := 100) rfl rfl h0 rfl ?_
    refine Ev_p 5 (c' := (19, [some (.ref a0), some (.int x1), some (.int x2)], [.int ((100 * x1) + x2), .ref (zrf a0 27)])) rfl ?_
    refine Ez_al (M := zM208) rfl (zty (ci := 11) (f := 27) (t := 100) h0 rfl) hF (fun v3 hF => ?_)
    refine Ev_p 1 (c' := (24, [some (.ref a0), some (.int x1), some (.int x2)], [.int v3])) rfl ?_
    exact Ez_ri (M := zM208) rfl rfl hF
-- PaperParcelsModel.letter(III)I
abbrev zM209 : ev_M := (am_in nd_i209, am_fl nd_f11, am_ct nd_k11, am_sl nd_ml nd_s209, fun _ => none, some .int)
noncomputable def zf209 (a0 : Nat) (x1 : Int32) (x2 : Int32) (x3 : Int32) (s : zS) : Option (Int32 × zS) :=
  zbi (zf204 a0 x1 x2 s) fun v1 s2 =>
  if ¬ v1 = 0 then
    if x3 < 0 then
      some ((-1), s2)
    else
      zal s2 (zrf a0 27) ((100 * x1) + x2) fun v3 =>
      if v3 ≤ x3 then
        some ((-1), s2)
      else
        zal s2 (zrf a0 26) ((100 * x1) + x2) fun v4 =>
        zal s2 (zrf a0 29) (((700 * x1) + v4) + x3) fun v5 =>
        some (v5, s2)
  else
    some (0, s2)
theorem zf209_ok {K : cx_K} (hK : Kok K) {lg : Nat → Int64} {v : Int32} {s' : zS} {a0 : Nat} (h0 : zsh a0 = 11) {x1 : Int32} {x2 : Int32} {x3 : Int32} {s : zS} (hF : zf209 a0 x1 x2 x3 s = some (v, s')) : Ct K 209 [.ref a0, .int x1, .int x2, .int x3] (zmk lg s) (.inl (some (.int v))) (zmk lg s') 0 := by
  unfold zf209 at hF
  refine Ct_of hK nd_ok209 (mL := 4) (rt := some .int) rfl rfl (Nat.le_of_ble_eq_true rfl) zlen_le ?_
  refine Ev_p 3 (c' := (3, [some (.ref a0), some (.int x1), some (.int x2), some (.int x3)], [.int x2, .int x1, .ref a0])) rfl ?_
  refine Ez_ci (M := zM209) (As := [.ref a0, .int x1, .int x2]) (st' := []) (am_site_v (y := 204) (k := 3) (ci := 11) rfl rfl (zrcv rfl h0 rfl)) (Nat.le_of_ble_eq_true rfl) (Nat.le_of_ble_eq_true rfl) rfl rfl (fun _ _ hF => zf204_ok hK h0 hF) hF (fun v1 s2 hF => ?_)
  refine Ev_p 0 (c' := (6, [some (.ref a0), some (.int x1), some (.int x2), some (.int x3)], [.int v1])) rfl ?_
  refine Ez_if (M := zM209) (b := ¬ v1 = 0) rfl rfl hF (fun _ hF => ?_) (fun _ hF => ?_)
  · refine Ev_p 1 (c' := (12, [some (.ref a0), some (.int x1), some (.int x2), some (.int x3)], [.int x3])) rfl ?_
    refine Ez_if (M := zM209) (b := x3 < 0) rfl rfl hF (fun _ hF => ?_) (fun _ hF => ?_)
    · refine Ev_p 1 (c' := (58, [some (.ref a0), some (.int x1), some (.int x2), some (.int x3)], [.int (-1)])) rfl ?_
      exact Ez_ri (M := zM209) rfl rfl hF
    · refine Ev_p 2 (c' := (17, [some (.ref a0), some (.int x1), some (.int x2), some (.int x3)], [.ref a0, .int x3])) rfl ?_
      refine Ez_gr (M := zM209) (ci := 11) (f := 27) (t := 100) rfl rfl h0 rfl ?_
      refine Ev_p 5 (c' := (26, [some (.ref a0), some (.int x1), some (.int x2), some (.int x3)], [.int ((100 * x1) + x2), .ref (zrf a0 27), .int x3])) rfl ?_
      refine Ez_al (M := zM209) rfl (zty (ci := 11) (f := 27) (t := 100) h0 rfl) hF (fun v3 hF => ?_)
      refine Ev_p 0 (c' := (27, [some (.ref a0), some (.int x1), some (.int x2), some (.int x3)], [.int v3, .int x3])) rfl ?_
      refine Ez_if (M := zM209) (b := v3 ≤ x3) rfl rfl hF (fun _ hF => ?_) (fun _ hF => ?_)
      · refine Ev_p 1 (c' := (58, [some (.ref a0), some (.int x1), some (.int x2), some (.int x3)], [.int (-1)])) rfl ?_
        exact Ez_ri (M := zM209) rfl rfl hF
      · refine Ev_p 1 (c' := (31, [some (.ref a0), some (.int x1), some (.int x2), some (.int x3)], [.ref a0])) rfl ?_
        refine Ez_gr (M := zM209) (ci := 11) (f := 29) (t := 100) rfl rfl h0 rfl ?_
        refine Ev_p 4 (c' := (40, [some (.ref a0), some (.int x1), some (.int x2), some (.int x3)], [.ref a0, .int (700 * x1), .ref (zrf a0 29)])) rfl ?_
        refine Ez_gr (M := zM209) (ci := 11) (f := 26) (t := 100) rfl rfl h0 rfl ?_
        refine Ev_p 5 (c' := (49, [some (.ref a0), some (.int x1), some (.int x2), some (.int x3)], [.int ((100 * x1) + x2), .ref (zrf a0 26), .int (700 * x1), .ref (zrf a0 29)])) rfl ?_
        refine Ez_al (M := zM209) rfl (zty (ci := 11) (f := 26) (t := 100) h0 rfl) hF (fun v4 hF => ?_)
        refine Ev_p 3 (c' := (53, [some (.ref a0), some (.int x1), some (.int x2), some (.int x3)], [.int (((700 * x1) + v4) + x3), .ref (zrf a0 29)])) rfl ?_
        refine Ez_al (M := zM209) rfl (zty (ci := 11) (f := 29) (t := 100) h0 rfl) hF (fun v5 hF => ?_)
        refine Ev_p 1 (c' := (58, [some (.ref a0), some (.int x1), some (.int x2), some (.int x3)], [.int v5])) rfl ?_
        exact Ez_ri (M := zM209) rfl rfl hF
  · refine Ev_p 1 (c' := (10, [some (.ref a0), some (.int x1), some (.int x2), some (.int x3)], [.int 0])) rfl ?_
    exact Ez_ri (M := zM209) rfl rfl hF

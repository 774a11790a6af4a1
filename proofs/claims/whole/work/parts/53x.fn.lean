/-! The methods as functions, and that the machine goes so (printed by wip/gen/fgen.py). -/
set_option maxRecDepth 100000
set_option linter.unusedVariables false
-- PaperParcelsModel.say(II)V
abbrev zM232 : ev_M := (am_in nd_i232, am_fl nd_f11, am_ct nd_k11, am_sl nd_ml nd_s232, fun _ => none, none)
noncomputable def zf232 (a0 : Nat) (x1 : Int32) (x2 : Int32) (s : zS) : Option (zS) :=
  zal s (zrf a0 52) x1 fun v1 =>
  zas s (zrf a0 51) ((2400 * x1) + v1) x2 fun s2 =>
  zal s2 (zrf a0 52) x1 fun v3 =>
  zas s2 (zrf a0 52) x1 (v3 + 1) fun s4 =>
  some s4
theorem zf232_ok {K : cx_K} (hK : Kok K) {lg : Nat → Int64} {s' : zS} {a0 : Nat} (h0 : zsh a0 = 11) {x1 : Int32} {x2 : Int32} {s : zS} (hF : zf232 a0 x1 x2 s = some s') : Ct K 232 [.ref a0, .int x1, .int x2] (zmk lg s) (.inl none) (zmk lg s') 0 := by
  unfold zf232 at hF
  refine Ct_of hK nd_ok232 (mL := 3) (rt := none) rfl rfl (Nat.le_of_ble_eq_true rfl) zlen_le ?_
  refine Ev_p 1 (c' := (1, [some (.ref a0), some (.int x1), some (.int x2)], [.ref a0])) rfl ?_
  refine Ez_gr (M := zM232) (ci := 11) (f := 51) (t := 100) rfl rfl h0 rfl ?_
  refine Ev_p 4 (c' := (10, [some (.ref a0), some (.int x1), some (.int x2)], [.ref a0, .int (2400 * x1), .ref (zrf a0 51)])) rfl ?_
  refine Ez_gr (M := zM232) (ci := 11) (f := 52) (t := 100) rfl rfl h0 rfl ?_
  refine Ev_p 1 (c' := (14, [some (.ref a0), some (.int x1), some (.int x2)], [.int x1, .ref (zrf a0 52), .int (2400 * x1), .ref (zrf a0 51)])) rfl ?_
  refine Ez_al (M := zM232) rfl (zty (ci := 11) (f := 52) (t := 100) h0 rfl) hF (fun v1 hF => ?_)
  refine Ev_p 2 (c' := (17, [some (.ref a0), some (.int x1), some (.int x2)], [.int x2, .int ((2400 * x1) + v1), .ref (zrf a0 51)])) rfl ?_
  refine Ez_as (M := zM232) rfl (zty (ci := 11) (f := 51) (t := 100) h0 rfl) hF (fun s2 hF => ?_)
  refine Ev_p 1 (c' := (19, [some (.ref a0), some (.int x1), some (.int x2)], [.ref a0])) rfl ?_
  refine Ez_gr (M := zM232) (ci := 11) (f := 52) (t := 100) rfl rfl h0 rfl ?_
  refine Ev_p 2 (c' := (24, [some (.ref a0), some (.int x1), some (.int x2)], [.int x1, .ref (zrf a0 52), .int x1, .ref (zrf a0 52)])) rfl ?_
  refine Ez_al (M := zM232) rfl (zty (ci := 11) (f := 52) (t := 100) h0 rfl) hF (fun v3 hF => ?_)
  refine Ev_p 2 (c' := (27, [some (.ref a0), some (.int x1), some (.int x2)], [.int (v3 + 1), .int x1, .ref (zrf a0 52)])) rfl ?_
  refine Ez_as (M := zM232) rfl (zty (ci := 11) (f := 52) (t := 100) h0 rfl) hF (fun s4 hF => ?_)
  refine Ev_p 0 (c' := (28, [some (.ref a0), some (.int x1), some (.int x2)], [])) rfl ?_
  exact Ez_rv (M := zM232) rfl rfl hF
-- PaperParcelsModel.sayAll(IJ)V
abbrev zM231 : ev_M := (am_in nd_i231, am_fl nd_f11, am_ct nd_k11, am_sl nd_ml nd_s231, fun _ => none, none)
noncomputable def zf231_3 (a0 : Nat)  : Nat → Int32 → Int64 → zS → Option (zS)
  | 0, _, _, _ => none
  | n + 1, x1, x4, s =>
    if (lg_cmp x4 0) = 0 then
      some s
    else
      zbv (zf232 a0 x1 (Int64.toInt32 (x4 &&& 255)) s) fun s2 =>
      zf231_3 a0 n x1 ((Int64.toUInt64 x4 >>> (Int64.toUInt64 (Int32.toInt64 8) &&& Int64.toUInt64 63)).toInt64) s2
theorem zf231_3_ok {K : cx_K} (hK : Kok K) {lg : Nat → Int64} {s' : zS} {a0 : Nat} (h0 : zsh a0 = 11)   {n : Nat} : ∀ {x1 : Int32} {x4 : Int64} {s : zS}, zf231_3 a0 n x1 x4 s = some s' → Ev K zM231 (3, [some (.ref a0), some (.int x1), none, none, some (.long x4), none], [], zmk lg s) 0 (.inl none) (zmk lg s') 0 := by
  induction n with
  | zero => intro x1 x4 s hF; rw [zf231_3] at hF; cases hF
  | succ n ih =>
    intro x1 x4 s hF
    rw [zf231_3] at hF
    refine Ev_p 3 (c' := (7, [some (.ref a0), some (.int x1), none, none, some (.long x4), none], [.int (lg_cmp x4 0)])) rfl ?_
    refine Ez_if (M := zM231) (b := (lg_cmp x4 0) = 0) rfl rfl hF (fun _ hF => ?_) (fun _ hF => ?_)
    · refine Ev_p 0 (c' := (32, [some (.ref a0), some (.int x1), none, none, some (.long x4), none], [])) rfl ?_
      exact Ez_rv (M := zM231) rfl rfl hF
    · refine Ev_p 3 (c' := (14, [some (.ref a0), some (.int x1), none, none, some (.long x4), none], [.long x4, .int x1, .ref a0])) rfl ?_
      refine Ez_ldc2_w (M := zM231) (x := 255) rfl rfl ?_
      refine Ev_p 2 (c' := (19, [some (.ref a0), some (.int x1), none, none, some (.long x4), none], [.int (Int64.toInt32 (x4 &&& 255)), .int x1, .ref a0])) rfl ?_
      refine Ez_cv (M := zM231) (As := [.ref a0, .int x1, .int (Int64.toInt32 (x4 &&& 255))]) (st' := []) (am_site_v (y := 232) (k := 3) (ci := 11) rfl rfl (zrcv rfl h0 rfl)) (Nat.le_of_ble_eq_true rfl) (Nat.le_of_ble_eq_true rfl) rfl rfl (fun _ hF => zf232_ok hK h0 hF) hF (fun s2 hF => ?_)
      refine Ev_p 5 (c' := (3, [some (.ref a0), some (.int x1), none, none, some (.long ((Int64.toUInt64 x4 >>> (Int64.toUInt64 (Int32.toInt64 8) &&& Int64.toUInt64 63)).toInt64)), none], [])) rfl ?_
      exact ih hF
noncomputable def zf231 (a0 : Nat) (x1 : Int32) (x2 : Int64) (s : zS) : Option (zS) :=
  zf231_3 a0 zfz x1 x2 s
theorem zf231_ok {K : cx_K} (hK : Kok K) {lg : Nat → Int64} {s' : zS} {a0 : Nat} (h0 : zsh a0 = 11) {x1 : Int32} {x2 : Int64} {s : zS} (hF : zf231 a0 x1 x2 s = some s') : Ct K 231 [.ref a0, .int x1, .long x2] (zmk lg s) (.inl none) (zmk lg s') 0 := by
  unfold zf231 at hF
  refine Ct_of hK nd_ok231 (mL := 6) (rt := none) rfl rfl (Nat.le_of_ble_eq_true rfl) zlen_le ?_
  refine Ev_p 2 (c' := (3, [some (.ref a0), some (.int x1), some (.long x2), none, some (.long x2), none], [])) rfl ?_
  refine Ev_w (L' := [some (.ref a0), some (.int x1), none, none, some (.long x2), none]) (zle_c (zle_c (zle_n (zle_c (zle_c (zle_c zle_0)))))) ?_
  exact zf231_3_ok hK h0 hF
-- PaperParcelsModel.sayAttribute(IIII)V
abbrev zM233 : ev_M := (am_in nd_i233, am_fl nd_f11, am_ct nd_k11, am_sl nd_ml nd_s233, fun _ => none, none)
noncomputable def zf233_37 (a0 : Nat)  (x1 : Int32) (x4 : Int32) (s : zS) : Option (zS) :=
  zbv (zf232 a0 x1 x4 s) fun s2 =>
  zbv (zf232 a0 x1 34 s2) fun s4 =>
  some s4
theorem zf233_37_ok {K : cx_K} (hK : Kok K) {lg : Nat → Int64} {s' : zS} {a0 : Nat} (h0 : zsh a0 = 11)   {x1 : Int32} {x4 : Int32}  {s : zS} (hF : zf233_37 a0 x1 x4 s = some s') : Ev K zM233 (37, [some (.ref a0), some (.int x1), none, none, some (.int x4)], [], zmk lg s) 0 (.inl none) (zmk lg s') 0 := by
  unfold zf233_37 at hF
  refine Ev_p 3 (c' := (41, [some (.ref a0), some (.int x1), none, none, some (.int x4)], [.int x4, .int x1, .ref a0])) rfl ?_
  refine Ez_cv (M := zM233) (As := [.ref a0, .int x1, .int x4]) (st' := []) (am_site_v (y := 232) (k := 3) (ci := 11) rfl rfl (zrcv rfl h0 rfl)) (Nat.le_of_ble_eq_true rfl) (Nat.le_of_ble_eq_true rfl) rfl rfl (fun _ hF => zf232_ok hK h0 hF) hF (fun s2 hF => ?_)
  refine Ev_p 3 (c' := (48, [some (.ref a0), some (.int x1), none, none, some (.int x4)], [.int 34, .int x1, .ref a0])) rfl ?_
  refine Ez_cv (M := zM233) (As := [.ref a0, .int x1, .int 34]) (st' := []) (am_site_v (y := 232) (k := 3) (ci := 11) rfl rfl (zrcv rfl h0 rfl)) (Nat.le_of_ble_eq_true rfl) (Nat.le_of_ble_eq_true rfl) rfl rfl (fun _ hF => zf232_ok hK h0 hF) hF (fun s4 hF => ?_)
  refine Ev_p 0 (c' := (51, [some (.ref a0), some (.int x1), none, none, some (.int x4)], [])) rfl ?_
  exact Ez_rv (M := zM233) rfl rfl hF
noncomputable def zf233 (a0 : Nat) (x1 : Int32) (x2 : Int32) (x3 : Int32) (x4 : Int32) (s : zS) : Option (zS) :=
  zbv (zf232 a0 x1 32 s) fun s2 =>
  zbv (zf232 a0 x1 x2 s2) fun s4 =>
  zbv (zf232 a0 x1 61 s4) fun s6 =>
  zbv (zf232 a0 x1 34 s6) fun s8 =>
  if x3 ≤ 0 then
    zf233_37 a0 x1 x4 s8
  else
    zbv (zf232 a0 x1 x3 s8) fun s10 =>
    zf233_37 a0 x1 x4 s10
theorem zf233_ok {K : cx_K} (hK : Kok K) {lg : Nat → Int64} {s' : zS} {a0 : Nat} (h0 : zsh a0 = 11) {x1 : Int32} {x2 : Int32} {x3 : Int32} {x4 : Int32} {s : zS} (hF : zf233 a0 x1 x2 x3 x4 s = some s') : Ct K 233 [.ref a0, .int x1, .int x2, .int x3, .int x4] (zmk lg s) (.inl none) (zmk lg s') 0 := by
  unfold zf233 at hF
  refine Ct_of hK nd_ok233 (mL := 5) (rt := none) rfl rfl (Nat.le_of_ble_eq_true rfl) zlen_le ?_
  refine Ev_p 3 (c' := (4, [some (.ref a0), some (.int x1), some (.int x2), some (.int x3), some (.int x4)], [.int 32, .int x1, .ref a0])) rfl ?_
  refine Ez_cv (M := zM233) (As := [.ref a0, .int x1, .int 32]) (st' := []) (am_site_v (y := 232) (k := 3) (ci := 11) rfl rfl (zrcv rfl h0 rfl)) (Nat.le_of_ble_eq_true rfl) (Nat.le_of_ble_eq_true rfl) rfl rfl (fun _ hF => zf232_ok hK h0 hF) hF (fun s2 hF => ?_)
  refine Ev_p 3 (c' := (10, [some (.ref a0), some (.int x1), some (.int x2), some (.int x3), some (.int x4)], [.int x2, .int x1, .ref a0])) rfl ?_
  refine Ez_cv (M := zM233) (As := [.ref a0, .int x1, .int x2]) (st' := []) (am_site_v (y := 232) (k := 3) (ci := 11) rfl rfl (zrcv rfl h0 rfl)) (Nat.le_of_ble_eq_true rfl) (Nat.le_of_ble_eq_true rfl) rfl rfl (fun _ hF => zf232_ok hK h0 hF) hF (fun s4 hF => ?_)
  refine Ev_p 3 (c' := (17, [some (.ref a0), some (.int x1), some (.int x2), some (.int x3), some (.int x4)], [.int 61, .int x1, .ref a0])) rfl ?_
  refine Ez_cv (M := zM233) (As := [.ref a0, .int x1, .int 61]) (st' := []) (am_site_v (y := 232) (k := 3) (ci := 11) rfl rfl (zrcv rfl h0 rfl)) (Nat.le_of_ble_eq_true rfl) (Nat.le_of_ble_eq_true rfl) rfl rfl (fun _ hF => zf232_ok hK h0 hF) hF (fun s6 hF => ?_)
  refine Ev_p 3 (c' := (24, [some (.ref a0), some (.int x1), some (.int x2), some (.int x3), some (.int x4)], [.int 34, .int x1, .ref a0])) rfl ?_
  refine Ez_cv (M := zM233) (As := [.ref a0, .int x1, .int 34]) (st' := []) (am_site_v (y := 232) (k := 3) (ci := 11) rfl rfl (zrcv rfl h0 rfl)) (Nat.le_of_ble_eq_true rfl) (Nat.le_of_ble_eq_true rfl) rfl rfl (fun _ hF => zf232_ok hK h0 hF) hF (fun s8 hF => ?_)
  refine Ev_p 1 (c' := (28, [some (.ref a0), some (.int x1), some (.int x2), some (.int x3), some (.int x4)], [.int x3])) rfl ?_
  refine Ez_if (M := zM233) (b := x3 ≤ 0) rfl rfl hF (fun _ hF => ?_) (fun _ hF => ?_)
  · refine Ev_p 0 (c' := (37, [some (.ref a0), some (.int x1), some (.int x2), some (.int x3), some (.int x4)], [])) rfl ?_
    refine Ev_w (L' := [some (.ref a0), some (.int x1), none, none, some (.int x4)]) (zle_c (zle_c (zle_n (zle_n (zle_c zle_0))))) ?_
    exact zf233_37_ok hK h0 hF
  · refine Ev_p 3 (c' := (34, [some (.ref a0), some (.int x1), some (.int x2), some (.int x3), some (.int x4)], [.int x3, .int x1, .ref a0])) rfl ?_
    refine Ez_cv (M := zM233) (As := [.ref a0, .int x1, .int x3]) (st' := []) (am_site_v (y := 232) (k := 3) (ci := 11) rfl rfl (zrcv rfl h0 rfl)) (Nat.le_of_ble_eq_true rfl) (Nat.le_of_ble_eq_true rfl) rfl rfl (fun _ hF => zf232_ok hK h0 hF) hF (fun s10 hF => ?_)
    refine Ev_p 0 (c' := (37, [some (.ref a0), some (.int x1), some (.int x2), some (.int x3), some (.int x4)], [])) rfl ?_
    refine Ev_w (L' := [some (.ref a0), some (.int x1), none, none, some (.int x4)]) (zle_c (zle_c (zle_n (zle_n (zle_c zle_0))))) ?_
    exact zf233_37_ok hK h0 hF
-- PaperParcelsModel.sayStyles(I)V
abbrev zM228 : ev_M := (am_in nd_i228, am_fl nd_f11, am_ct nd_k11, am_sl nd_ml nd_s228, fun _ => none, none)
noncomputable def zf228_165 (a0 : Nat) (k77 : Int32 → zS → Option (zS)) (x2 : Int32) (x3 : Int32) (t0 : Int32) (t1 : Int32) (t2 : Int32) (s : zS) : Option (zS) :=
  zbv (zf233 a0 t2 t1 t0 (48 + (x3 - x3 / 10 * 10)) s) fun s2 =>
  zal s2 (zrf a0 55) ((3 * x2) + 2) fun v3 =>
  zbv (zf233 a0 0 107 0 (48 + v3) s2) fun s5 =>
  zbv (zf231 a0 0 15919 s5) fun s7 =>
  k77 (x2 + 1) s7
theorem zf228_165_ok {K : cx_K} (hK : Kok K) {lg : Nat → Int64} {s' : zS} {a0 : Nat} (h0 : zsh a0 = 11) {k77 : Int32 → zS → Option (zS)} (hk77 : ∀ x2 s, k77 x2 s = some s' → Ev K zM228 (77, [some (.ref a0), none, some (.int x2), none], [], zmk lg s) 0 (.inl none) (zmk lg s') 0) {x2 : Int32} {x3 : Int32} {t0 : Int32} {t1 : Int32} {t2 : Int32}  {s : zS} (hF : zf228_165 a0 k77 x2 x3 t0 t1 t2 s = some s') : Ev K zM228 (165, [some (.ref a0), none, some (.int x2), some (.int x3)], [.int t0, .int t1, .int t2, .ref a0], zmk lg s) 0 (.inl none) (zmk lg s') 0 := by
  unfold zf228_165 at hF
  refine Ev_p 5 (c' := (172, [some (.ref a0), none, some (.int x2), some (.int x3)], [.int (48 + (x3 - x3 / 10 * 10)), .int t0, .int t1, .int t2, .ref a0])) rfl ?_
  refine Ez_cv (M := zM228) (As := [.ref a0, .int t2, .int t1, .int t0, .int (48 + (x3 - x3 / 10 * 10))]) (st' := []) (am_site_v (y := 233) (k := 5) (ci := 11) rfl rfl (zrcv rfl h0 rfl)) (Nat.le_of_ble_eq_true rfl) (Nat.le_of_ble_eq_true rfl) rfl rfl (fun _ hF => zf233_ok hK h0 hF) hF (fun s2 hF => ?_)
  refine Ev_p 6 (c' := (183, [some (.ref a0), none, some (.int x2), some (.int x3)], [.ref a0, .int 48, .int 0, .int 107, .int 0, .ref a0])) rfl ?_
  refine Ez_gr (M := zM228) (ci := 11) (f := 55) (t := 100) rfl rfl h0 rfl ?_
  refine Ev_p 5 (c' := (191, [some (.ref a0), none, some (.int x2), some (.int x3)], [.int ((3 * x2) + 2), .ref (zrf a0 55), .int 48, .int 0, .int 107, .int 0, .ref a0])) rfl ?_
  refine Ez_al (M := zM228) rfl (zty (ci := 11) (f := 55) (t := 100) h0 rfl) hF (fun v3 hF => ?_)
  refine Ev_p 1 (c' := (193, [some (.ref a0), none, some (.int x2), some (.int x3)], [.int (48 + v3), .int 0, .int 107, .int 0, .ref a0])) rfl ?_
  refine Ez_cv (M := zM228) (As := [.ref a0, .int 0, .int 107, .int 0, .int (48 + v3)]) (st' := []) (am_site_v (y := 233) (k := 5) (ci := 11) rfl rfl (zrcv rfl h0 rfl)) (Nat.le_of_ble_eq_true rfl) (Nat.le_of_ble_eq_true rfl) rfl rfl (fun _ hF => zf233_ok hK h0 hF) hF (fun s5 hF => ?_)
  refine Ev_p 2 (c' := (198, [some (.ref a0), none, some (.int x2), some (.int x3)], [.int 0, .ref a0])) rfl ?_
  refine Ez_ldc2_w (M := zM228) (x := 15919) rfl rfl ?_
  refine Ev_p 0 (c' := (201, [some (.ref a0), none, some (.int x2), some (.int x3)], [.long 15919, .int 0, .ref a0])) rfl ?_
  refine Ez_cv (M := zM228) (As := [.ref a0, .int 0, .long 15919]) (st' := []) (am_site_v (y := 231) (k := 3) (ci := 11) rfl rfl (zrcv rfl h0 rfl)) (Nat.le_of_ble_eq_true rfl) (Nat.le_of_ble_eq_true rfl) rfl rfl (fun _ hF => zf231_ok hK h0 hF) hF (fun s7 hF => ?_)
  refine Ev_p 2 (c' := (77, [some (.ref a0), none, some (.int (x2 + 1)), some (.int x3)], [])) rfl ?_
  refine Ev_w (L' := [some (.ref a0), none, some (.int (x2 + 1)), none]) (zle_c (zle_c (zle_c (zle_n zle_0)))) ?_
  exact hk77 _ _ hF
noncomputable def zf228_210 (a0 : Nat)   (s : zS) : Option (zS) :=
  zgf s a0 56 fun v1 =>
  if v1 ≤ 0 then
    some s
  else
    zbv (zf231 a0 0 1047801660 s) fun s3 =>
    some s3
theorem zf228_210_ok {K : cx_K} (hK : Kok K) {lg : Nat → Int64} {s' : zS} {a0 : Nat} (h0 : zsh a0 = 11)     {s : zS} (hF : zf228_210 a0 s = some s') : Ev K zM228 (210, [some (.ref a0), none, none, none], [], zmk lg s) 0 (.inl none) (zmk lg s') 0 := by
  unfold zf228_210 at hF
  refine Ev_p 1 (c' := (211, [some (.ref a0), none, none, none], [.ref a0])) rfl ?_
  refine Ez_gf (M := zM228) (ci := 11) (f := 56) rfl rfl h0 rfl hF (fun v1 hF => ?_)
  refine Ev_p 0 (c' := (214, [some (.ref a0), none, none, none], [.int v1])) rfl ?_
  refine Ez_if (M := zM228) (b := v1 ≤ 0) rfl rfl hF (fun _ hF => ?_) (fun _ hF => ?_)
  · refine Ev_p 0 (c' := (225, [some (.ref a0), none, none, none], [])) rfl ?_
    exact Ez_rv (M := zM228) rfl rfl hF
  · refine Ev_p 2 (c' := (219, [some (.ref a0), none, none, none], [.int 0, .ref a0])) rfl ?_
    refine Ez_ldc2_w (M := zM228) (x := 1047801660) rfl rfl ?_
    refine Ev_p 0 (c' := (222, [some (.ref a0), none, none, none], [.long 1047801660, .int 0, .ref a0])) rfl ?_
    refine Ez_cv (M := zM228) (As := [.ref a0, .int 0, .long 1047801660]) (st' := []) (am_site_v (y := 231) (k := 3) (ci := 11) rfl rfl (zrcv rfl h0 rfl)) (Nat.le_of_ble_eq_true rfl) (Nat.le_of_ble_eq_true rfl) rfl rfl (fun _ hF => zf231_ok hK h0 hF) hF (fun s3 hF => ?_)
    refine Ev_p 0 (c' := (225, [some (.ref a0), none, none, none], [])) rfl ?_
    exact Ez_rv (M := zM228) rfl rfl hF
noncomputable def zf228_77 (a0 : Nat)  : Nat → Int32 → zS → Option (zS)
  | 0, _, _ => none
  | n + 1, x2, s =>
    zgf s a0 56 fun v1 =>
    if v1 ≤ x2 then
      zf228_210 a0 s
    else
      zgf s a0 56 fun v2 =>
      if 26 < v2 then
        zf228_210 a0 s
      else
        zbv (zf231 a0 0 29500 s) fun s4 =>
        zbv (zf233 a0 0 110 0 (65 + x2) s4) fun s6 =>
        zal s6 (zrf a0 55) (3 * x2) fun v7 =>
        zbv (zf233 a0 0 98 0 (48 + v7) s6) fun s9 =>
        zal s9 (zrf a0 55) ((3 * x2) + 1) fun v10 =>
        if v10 ≤ 9 then
          zf228_165 a0 (zf228_77 a0 n) x2 v10 0 122 0 s9
        else
          zf228_165 a0 (zf228_77 a0 n) x2 v10 (48 + (v10 / 10)) 122 0 s9
theorem zf228_77_ok {K : cx_K} (hK : Kok K) {lg : Nat → Int64} {s' : zS} {a0 : Nat} (h0 : zsh a0 = 11)   {n : Nat} : ∀ {x2 : Int32} {s : zS}, zf228_77 a0 n x2 s = some s' → Ev K zM228 (77, [some (.ref a0), none, some (.int x2), none], [], zmk lg s) 0 (.inl none) (zmk lg s') 0 := by
  induction n with
  | zero => intro x2 s hF; rw [zf228_77] at hF; cases hF
  | succ n ih =>
    intro x2 s hF
    rw [zf228_77] at hF
    refine Ev_p 2 (c' := (79, [some (.ref a0), none, some (.int x2), none], [.ref a0, .int x2])) rfl ?_
    refine Ez_gf (M := zM228) (ci := 11) (f := 56) rfl rfl h0 rfl hF (fun v1 hF => ?_)
    refine Ev_p 0 (c' := (82, [some (.ref a0), none, some (.int x2), none], [.int v1, .int x2])) rfl ?_
    refine Ez_if (M := zM228) (b := v1 ≤ x2) rfl rfl hF (fun _ hF => ?_) (fun _ hF => ?_)
    · refine Ev_p 0 (c' := (210, [some (.ref a0), none, some (.int x2), none], [])) rfl ?_
      refine Ev_w (L' := [some (.ref a0), none, none, none]) (zle_c (zle_c (zle_n (zle_c zle_0)))) ?_
      exact zf228_210_ok hK h0 hF
    · refine Ev_p 1 (c' := (86, [some (.ref a0), none, some (.int x2), none], [.ref a0])) rfl ?_
      refine Ez_gf (M := zM228) (ci := 11) (f := 56) rfl rfl h0 rfl hF (fun v2 hF => ?_)
      refine Ev_p 1 (c' := (91, [some (.ref a0), none, some (.int x2), none], [.int 26, .int v2])) rfl ?_
      refine Ez_if (M := zM228) (b := 26 < v2) rfl rfl hF (fun _ hF => ?_) (fun _ hF => ?_)
      · refine Ev_p 0 (c' := (210, [some (.ref a0), none, some (.int x2), none], [])) rfl ?_
        refine Ev_w (L' := [some (.ref a0), none, none, none]) (zle_c (zle_c (zle_n (zle_c zle_0)))) ?_
        exact zf228_210_ok hK h0 hF
      · refine Ev_p 2 (c' := (96, [some (.ref a0), none, some (.int x2), none], [.int 0, .ref a0])) rfl ?_
        refine Ez_ldc2_w (M := zM228) (x := 29500) rfl rfl ?_
        refine Ev_p 0 (c' := (99, [some (.ref a0), none, some (.int x2), none], [.long 29500, .int 0, .ref a0])) rfl ?_
        refine Ez_cv (M := zM228) (As := [.ref a0, .int 0, .long 29500]) (st' := []) (am_site_v (y := 231) (k := 3) (ci := 11) rfl rfl (zrcv rfl h0 rfl)) (Nat.le_of_ble_eq_true rfl) (Nat.le_of_ble_eq_true rfl) rfl rfl (fun _ hF => zf231_ok hK h0 hF) hF (fun s4 hF => ?_)
        refine Ev_p 7 (c' := (111, [some (.ref a0), none, some (.int x2), none], [.int (65 + x2), .int 0, .int 110, .int 0, .ref a0])) rfl ?_
        refine Ez_cv (M := zM228) (As := [.ref a0, .int 0, .int 110, .int 0, .int (65 + x2)]) (st' := []) (am_site_v (y := 233) (k := 5) (ci := 11) rfl rfl (zrcv rfl h0 rfl)) (Nat.le_of_ble_eq_true rfl) (Nat.le_of_ble_eq_true rfl) rfl rfl (fun _ hF => zf233_ok hK h0 hF) hF (fun s6 hF => ?_)
        refine Ev_p 6 (c' := (122, [some (.ref a0), none, some (.int x2), none], [.ref a0, .int 48, .int 0, .int 98, .int 0, .ref a0])) rfl ?_
        refine Ez_gr (M := zM228) (ci := 11) (f := 55) (t := 100) rfl rfl h0 rfl ?_
        refine Ev_p 3 (c' := (128, [some (.ref a0), none, some (.int x2), none], [.int (3 * x2), .ref (zrf a0 55), .int 48, .int 0, .int 98, .int 0, .ref a0])) rfl ?_
        refine Ez_al (M := zM228) rfl (zty (ci := 11) (f := 55) (t := 100) h0 rfl) hF (fun v7 hF => ?_)
        refine Ev_p 1 (c' := (130, [some (.ref a0), none, some (.int x2), none], [.int (48 + v7), .int 0, .int 98, .int 0, .ref a0])) rfl ?_
        refine Ez_cv (M := zM228) (As := [.ref a0, .int 0, .int 98, .int 0, .int (48 + v7)]) (st' := []) (am_site_v (y := 233) (k := 5) (ci := 11) rfl rfl (zrcv rfl h0 rfl)) (Nat.le_of_ble_eq_true rfl) (Nat.le_of_ble_eq_true rfl) rfl rfl (fun _ hF => zf233_ok hK h0 hF) hF (fun s9 hF => ?_)
        refine Ev_p 1 (c' := (134, [some (.ref a0), none, some (.int x2), none], [.ref a0])) rfl ?_
        refine Ez_gr (M := zM228) (ci := 11) (f := 55) (t := 100) rfl rfl h0 rfl ?_
        refine Ev_p 5 (c' := (142, [some (.ref a0), none, some (.int x2), none], [.int ((3 * x2) + 1), .ref (zrf a0 55)])) rfl ?_
        refine Ez_al (M := zM228) rfl (zty (ci := 11) (f := 55) (t := 100) h0 rfl) hF (fun v10 hF => ?_)
        refine Ev_p 6 (c' := (151, [some (.ref a0), none, some (.int x2), some (.int v10)], [.int 9, .int v10, .int 122, .int 0, .ref a0])) rfl ?_
        refine Ez_if (M := zM228) (b := v10 ≤ 9) rfl rfl hF (fun _ hF => ?_) (fun _ hF => ?_)
        · refine Ev_p 1 (c' := (165, [some (.ref a0), none, some (.int x2), some (.int v10)], [.int 0, .int 122, .int 0, .ref a0])) rfl ?_
          exact zf228_165_ok hK h0 (fun _ _ hF => ih hF) hF
        · refine Ev_p 6 (c' := (165, [some (.ref a0), none, some (.int x2), some (.int v10)], [.int (48 + (v10 / 10)), .int 122, .int 0, .ref a0])) rfl ?_
          exact zf228_165_ok hK h0 (fun _ _ hF => ih hF) hF
noncomputable def zf228_72 (a0 : Nat)  (t0 : Int64) (t1 : Int32) (s : zS) : Option (zS) :=
  zbv (zf231 a0 t1 t0 s) fun s2 =>
  zf228_77 a0 zfz 0 s2
theorem zf228_72_ok {K : cx_K} (hK : Kok K) {lg : Nat → Int64} {s' : zS} {a0 : Nat} (h0 : zsh a0 = 11)   {t0 : Int64} {t1 : Int32}  {s : zS} (hF : zf228_72 a0 t0 t1 s = some s') : Ev K zM228 (72, [some (.ref a0), none, none, none], [.long t0, .int t1, .ref a0], zmk lg s) 0 (.inl none) (zmk lg s') 0 := by
  unfold zf228_72 at hF
  refine Ev_p 0 (c' := (72, [some (.ref a0), none, none, none], [.long t0, .int t1, .ref a0])) rfl ?_
  refine Ez_cv (M := zM228) (As := [.ref a0, .int t1, .long t0]) (st' := []) (am_site_v (y := 231) (k := 3) (ci := 11) rfl rfl (zrcv rfl h0 rfl)) (Nat.le_of_ble_eq_true rfl) (Nat.le_of_ble_eq_true rfl) rfl rfl (fun _ hF => zf231_ok hK h0 hF) hF (fun s2 hF => ?_)
  refine Ev_p 2 (c' := (77, [some (.ref a0), none, some (.int 0), none], [])) rfl ?_
  exact zf228_77_ok hK h0 hF
noncomputable def zf228_7 (a0 : Nat)  : Nat → Int32 → Int32 → zS → Option (zS)
  | 0, _, _, _ => none
  | n + 1, x1, x2, s =>
    zal s (zrf a0 22) x1 fun v1 =>
    if v1 ≤ x2 then
      zas s (zrf a0 52) 0 0 fun s2 =>
      zbv (zf231 a0 0 29756 s2) fun s4 =>
      zgf s4 a0 56 fun v5 =>
      if ¬ v5 = 0 then
        zf228_72 a0 62 0 s4
      else
        zf228_72 a0 15919 0 s4
    else
      zbi (zf229 a0 x1 x2 s) fun v6 s7 =>
      if v6 = 0 then
        zf228_7 a0 n x1 (x2 + 1) s7
      else
        zbi (zf230 a0 x1 x2 s7) fun v8 s9 =>
        zf228_7 a0 n x1 (x2 + 1) s9
theorem zf228_7_ok {K : cx_K} (hK : Kok K) {lg : Nat → Int64} {s' : zS} {a0 : Nat} (h0 : zsh a0 = 11)   {n : Nat} : ∀ {x1 : Int32} {x2 : Int32} {s : zS}, zf228_7 a0 n x1 x2 s = some s' → Ev K zM228 (7, [some (.ref a0), some (.int x1), some (.int x2), none], [], zmk lg s) 0 (.inl none) (zmk lg s') 0 := by
  induction n with
  | zero => intro x1 x2 s hF; rw [zf228_7] at hF; cases hF
  | succ n ih =>
    intro x1 x2 s hF
    rw [zf228_7] at hF
    refine Ev_p 2 (c' := (9, [some (.ref a0), some (.int x1), some (.int x2), none], [.ref a0, .int x2])) rfl ?_
    refine Ez_gr (M := zM228) (ci := 11) (f := 22) (t := 100) rfl rfl h0 rfl ?_
    refine Ev_p 1 (c' := (13, [some (.ref a0), some (.int x1), some (.int x2), none], [.int x1, .ref (zrf a0 22), .int x2])) rfl ?_
    refine Ez_al (M := zM228) rfl (zty (ci := 11) (f := 22) (t := 100) h0 rfl) hF (fun v1 hF => ?_)
    refine Ev_p 0 (c' := (14, [some (.ref a0), some (.int x1), some (.int x2), none], [.int v1, .int x2])) rfl ?_
    refine Ez_if (M := zM228) (b := v1 ≤ x2) rfl rfl hF (fun _ hF => ?_) (fun _ hF => ?_)
    · refine Ev_p 1 (c' := (40, [some (.ref a0), some (.int x1), some (.int x2), none], [.ref a0])) rfl ?_
      refine Ez_gr (M := zM228) (ci := 11) (f := 52) (t := 100) rfl rfl h0 rfl ?_
      refine Ev_p 2 (c' := (45, [some (.ref a0), some (.int x1), some (.int x2), none], [.int 0, .int 0, .ref (zrf a0 52)])) rfl ?_
      refine Ez_as (M := zM228) rfl (zty (ci := 11) (f := 52) (t := 100) h0 rfl) hF (fun s2 hF => ?_)
      refine Ev_p 2 (c' := (48, [some (.ref a0), some (.int x1), some (.int x2), none], [.int 0, .ref a0])) rfl ?_
      refine Ez_ldc2_w (M := zM228) (x := 29756) rfl rfl ?_
      refine Ev_p 0 (c' := (51, [some (.ref a0), some (.int x1), some (.int x2), none], [.long 29756, .int 0, .ref a0])) rfl ?_
      refine Ez_cv (M := zM228) (As := [.ref a0, .int 0, .long 29756]) (st' := []) (am_site_v (y := 231) (k := 3) (ci := 11) rfl rfl (zrcv rfl h0 rfl)) (Nat.le_of_ble_eq_true rfl) (Nat.le_of_ble_eq_true rfl) rfl rfl (fun _ hF => zf231_ok hK h0 hF) hF (fun s4 hF => ?_)
      refine Ev_p 3 (c' := (57, [some (.ref a0), some (.int x1), some (.int x2), none], [.ref a0, .int 0, .ref a0])) rfl ?_
      refine Ez_gf (M := zM228) (ci := 11) (f := 56) rfl rfl h0 rfl hF (fun v5 hF => ?_)
      refine Ev_p 0 (c' := (60, [some (.ref a0), some (.int x1), some (.int x2), none], [.int v5, .int 0, .ref a0])) rfl ?_
      refine Ez_if (M := zM228) (b := ¬ v5 = 0) rfl rfl hF (fun _ hF => ?_) (fun _ hF => ?_)
      · refine Ev_p 0 (c' := (69, [some (.ref a0), some (.int x1), some (.int x2), none], [.int 0, .ref a0])) rfl ?_
        refine Ez_ldc2_w (M := zM228) (x := 62) rfl rfl ?_
        refine Ev_p 0 (c' := (72, [some (.ref a0), some (.int x1), some (.int x2), none], [.long 62, .int 0, .ref a0])) rfl ?_
        refine Ev_w (L' := [some (.ref a0), none, none, none]) (zle_c (zle_n (zle_n (zle_c zle_0)))) ?_
        exact zf228_72_ok hK h0 hF
      · refine Ev_p 0 (c' := (63, [some (.ref a0), some (.int x1), some (.int x2), none], [.int 0, .ref a0])) rfl ?_
        refine Ez_ldc2_w (M := zM228) (x := 15919) rfl rfl ?_
        refine Ev_p 1 (c' := (72, [some (.ref a0), some (.int x1), some (.int x2), none], [.long 15919, .int 0, .ref a0])) rfl ?_
        refine Ev_w (L' := [some (.ref a0), none, none, none]) (zle_c (zle_n (zle_n (zle_c zle_0)))) ?_
        exact zf228_72_ok hK h0 hF
    · refine Ev_p 3 (c' := (20, [some (.ref a0), some (.int x1), some (.int x2), none], [.int x2, .int x1, .ref a0])) rfl ?_
      refine Ez_ci (M := zM228) (As := [.ref a0, .int x1, .int x2]) (st' := []) (am_site_v (y := 229) (k := 3) (ci := 11) rfl rfl (zrcv rfl h0 rfl)) (Nat.le_of_ble_eq_true rfl) (Nat.le_of_ble_eq_true rfl) rfl rfl (fun _ _ hF => zf229_ok hK h0 hF) hF (fun v6 s7 hF => ?_)
      refine Ev_p 0 (c' := (23, [some (.ref a0), some (.int x1), some (.int x2), none], [.int v6])) rfl ?_
      refine Ez_if (M := zM228) (b := v6 = 0) rfl rfl hF (fun _ hF => ?_) (fun _ hF => ?_)
      · refine Ev_p 2 (c' := (7, [some (.ref a0), some (.int x1), some (.int (x2 + 1)), none], [])) rfl ?_
        exact ih hF
      · refine Ev_p 3 (c' := (29, [some (.ref a0), some (.int x1), some (.int x2), none], [.int x2, .int x1, .ref a0])) rfl ?_
        refine Ez_ci (M := zM228) (As := [.ref a0, .int x1, .int x2]) (st' := []) (am_site_v (y := 230) (k := 3) (ci := 11) rfl rfl (zrcv rfl h0 rfl)) (Nat.le_of_ble_eq_true rfl) (Nat.le_of_ble_eq_true rfl) rfl rfl (fun _ _ hF => zf230_ok hK h0 hF) hF (fun v8 s9 hF => ?_)
        refine Ev_p 3 (c' := (7, [some (.ref a0), some (.int x1), some (.int (x2 + 1)), some (.int v8)], [])) rfl ?_
        refine Ev_w (L' := [some (.ref a0), some (.int x1), some (.int (x2 + 1)), none]) (zle_c (zle_c (zle_c (zle_n zle_0)))) ?_
        exact ih hF
noncomputable def zf228 (a0 : Nat) (x1 : Int32) (s : zS) : Option (zS) :=
  zpf s a0 56 0 fun s1 =>
  zf228_7 a0 zfz x1 0 s1
theorem zf228_ok {K : cx_K} (hK : Kok K) {lg : Nat → Int64} {s' : zS} {a0 : Nat} (h0 : zsh a0 = 11) {x1 : Int32} {s : zS} (hF : zf228 a0 x1 s = some s') : Ct K 228 [.ref a0, .int x1] (zmk lg s) (.inl none) (zmk lg s') 0 := by
  unfold zf228 at hF
  refine Ct_of hK nd_ok228 (mL := 4) (rt := none) rfl rfl (Nat.le_of_ble_eq_true rfl) zlen_le ?_
  refine Ev_p 2 (c' := (2, [some (.ref a0), some (.int x1), none, none], [.int 0, .ref a0])) rfl ?_
  refine Ez_pf (M := zM228) (ci := 11) (f := 56) rfl rfl h0 rfl hF (fun s1 hF => ?_)
  refine Ev_p 2 (c' := (7, [some (.ref a0), some (.int x1), some (.int 0), none], [])) rfl ?_
  exact zf228_7_ok hK h0 hF
-- PaperParcelsModel.letterOf(I)I
abbrev zM235 : ev_M := (am_in nd_i235, am_fl nd_f11, am_ct nd_k11, am_sl nd_ml nd_s235, fun _ => none, some .int)
noncomputable def zf235 (x0 : Int32) (s : zS) : Option (Int32 × zS) :=
  if ¬ x0 = 0 then
    if ¬ x0 = 1 then
      if ¬ x0 = 3 then
        some (105, s)
      else
        some (108, s)
    else
      some (112, s)
  else
    some (100, s)
theorem zf235_ok {K : cx_K} (hK : Kok K) {lg : Nat → Int64} {v : Int32} {s' : zS}   {x0 : Int32} {s : zS} (hF : zf235 x0 s = some (v, s')) : Ct K 235 [.int x0] (zmk lg s) (.inl (some (.int v))) (zmk lg s') 0 := by
  unfold zf235 at hF
  refine Ct_of hK nd_ok235 (mL := 1) (rt := some .int) rfl rfl (Nat.le_of_ble_eq_true rfl) zlen_le ?_
  refine Ev_p 1 (c' := (1, [some (.int x0)], [.int x0])) rfl ?_
  refine Ez_if (M := zM235) (b := ¬ x0 = 0) rfl rfl hF (fun _ hF => ?_) (fun _ hF => ?_)
  · refine Ev_p 2 (c' := (11, [some (.int x0)], [.int 1, .int x0])) rfl ?_
    refine Ez_if (M := zM235) (b := ¬ x0 = 1) rfl rfl hF (fun _ hF => ?_) (fun _ hF => ?_)
    · refine Ev_p 2 (c' := (21, [some (.int x0)], [.int 3, .int x0])) rfl ?_
      refine Ez_if (M := zM235) (b := ¬ x0 = 3) rfl rfl hF (fun _ hF => ?_) (fun _ hF => ?_)
      · refine Ev_p 1 (c' := (31, [some (.int x0)], [.int 105])) rfl ?_
        exact Ez_ri (M := zM235) rfl rfl hF
      · refine Ev_p 2 (c' := (31, [some (.int x0)], [.int 108])) rfl ?_
        exact Ez_ri (M := zM235) rfl rfl hF
    · refine Ev_p 2 (c' := (31, [some (.int x0)], [.int 112])) rfl ?_
      exact Ez_ri (M := zM235) rfl rfl hF
  · refine Ev_p 2 (c' := (31, [some (.int x0)], [.int 100])) rfl ?_
    exact Ez_ri (M := zM235) rfl rfl hF
-- PaperParcelsModel.sayRun(II)V
abbrev zM236 : ev_M := (am_in nd_i236, am_fl nd_f11, am_ct nd_k11, am_sl nd_ml nd_s236, fun _ => none, none)
noncomputable def zf236_46 (a0 : Nat)  : Nat → Int32 → Int32 → Int32 → Int32 → zS → Option (zS)
  | 0, _, _, _, _, _ => none
  | n + 1, x1, x2, x3, x4, s =>
    zal s (zrf a0 27) ((100 * x1) + x2) fun v1 =>
    if v1 ≤ x4 then
      if x3 = 0 then
        some s
      else
        zbv (zf231 a0 1 1048063804 s) fun s3 =>
        some s3
    else
      zal s (zrf a0 26) ((100 * x1) + x2) fun v4 =>
      zal s (zrf a0 29) (((700 * x1) + v4) + x4) fun v5 =>
      zbv (zf232 a0 1 v5 s) fun s7 =>
      zf236_46 a0 n x1 x2 x3 (x4 + 1) s7
theorem zf236_46_ok {K : cx_K} (hK : Kok K) {lg : Nat → Int64} {s' : zS} {a0 : Nat} (h0 : zsh a0 = 11)   {n : Nat} : ∀ {x1 : Int32} {x2 : Int32} {x3 : Int32} {x4 : Int32} {s : zS}, zf236_46 a0 n x1 x2 x3 x4 s = some s' → Ev K zM236 (46, [some (.ref a0), some (.int x1), some (.int x2), some (.int x3), some (.int x4)], [], zmk lg s) 0 (.inl none) (zmk lg s') 0 := by
  induction n with
  | zero => intro x1 x2 x3 x4 s hF; rw [zf236_46] at hF; cases hF
  | succ n ih =>
    intro x1 x2 x3 x4 s hF
    rw [zf236_46] at hF
    refine Ev_p 2 (c' := (49, [some (.ref a0), some (.int x1), some (.int x2), some (.int x3), some (.int x4)], [.ref a0, .int x4])) rfl ?_
    refine Ez_gr (M := zM236) (ci := 11) (f := 27) (t := 100) rfl rfl h0 rfl ?_
    refine Ev_p 5 (c' := (58, [some (.ref a0), some (.int x1), some (.int x2), some (.int x3), some (.int x4)], [.int ((100 * x1) + x2), .ref (zrf a0 27), .int x4])) rfl ?_
    refine Ez_al (M := zM236) rfl (zty (ci := 11) (f := 27) (t := 100) h0 rfl) hF (fun v1 hF => ?_)
    refine Ev_p 0 (c' := (59, [some (.ref a0), some (.int x1), some (.int x2), some (.int x3), some (.int x4)], [.int v1, .int x4])) rfl ?_
    refine Ez_if (M := zM236) (b := v1 ≤ x4) rfl rfl hF (fun _ hF => ?_) (fun _ hF => ?_)
    · refine Ev_p 1 (c' := (99, [some (.ref a0), some (.int x1), some (.int x2), some (.int x3), some (.int x4)], [.int x3])) rfl ?_
      refine Ez_if (M := zM236) (b := x3 = 0) rfl rfl hF (fun _ hF => ?_) (fun _ hF => ?_)
      · refine Ev_p 0 (c' := (110, [some (.ref a0), some (.int x1), some (.int x2), some (.int x3), some (.int x4)], [])) rfl ?_
        exact Ez_rv (M := zM236) rfl rfl hF
      · refine Ev_p 2 (c' := (104, [some (.ref a0), some (.int x1), some (.int x2), some (.int x3), some (.int x4)], [.int 1, .ref a0])) rfl ?_
        refine Ez_ldc2_w (M := zM236) (x := 1048063804) rfl rfl ?_
        refine Ev_p 0 (c' := (107, [some (.ref a0), some (.int x1), some (.int x2), some (.int x3), some (.int x4)], [.long 1048063804, .int 1, .ref a0])) rfl ?_
        refine Ez_cv (M := zM236) (As := [.ref a0, .int 1, .long 1048063804]) (st' := []) (am_site_v (y := 231) (k := 3) (ci := 11) rfl rfl (zrcv rfl h0 rfl)) (Nat.le_of_ble_eq_true rfl) (Nat.le_of_ble_eq_true rfl) rfl rfl (fun _ hF => zf231_ok hK h0 hF) hF (fun s3 hF => ?_)
        refine Ev_p 0 (c' := (110, [some (.ref a0), some (.int x1), some (.int x2), some (.int x3), some (.int x4)], [])) rfl ?_
        exact Ez_rv (M := zM236) rfl rfl hF
    · refine Ev_p 3 (c' := (65, [some (.ref a0), some (.int x1), some (.int x2), some (.int x3), some (.int x4)], [.ref a0, .int 1, .ref a0])) rfl ?_
      refine Ez_gr (M := zM236) (ci := 11) (f := 29) (t := 100) rfl rfl h0 rfl ?_
      refine Ev_p 4 (c' := (74, [some (.ref a0), some (.int x1), some (.int x2), some (.int x3), some (.int x4)], [.ref a0, .int (700 * x1), .ref (zrf a0 29), .int 1, .ref a0])) rfl ?_
      refine Ez_gr (M := zM236) (ci := 11) (f := 26) (t := 100) rfl rfl h0 rfl ?_
      refine Ev_p 5 (c' := (83, [some (.ref a0), some (.int x1), some (.int x2), some (.int x3), some (.int x4)], [.int ((100 * x1) + x2), .ref (zrf a0 26), .int (700 * x1), .ref (zrf a0 29), .int 1, .ref a0])) rfl ?_
      refine Ez_al (M := zM236) rfl (zty (ci := 11) (f := 26) (t := 100) h0 rfl) hF (fun v4 hF => ?_)
      refine Ev_p 3 (c' := (88, [some (.ref a0), some (.int x1), some (.int x2), some (.int x3), some (.int x4)], [.int (((700 * x1) + v4) + x4), .ref (zrf a0 29), .int 1, .ref a0])) rfl ?_
      refine Ez_al (M := zM236) rfl (zty (ci := 11) (f := 29) (t := 100) h0 rfl) hF (fun v5 hF => ?_)
      refine Ev_p 0 (c' := (89, [some (.ref a0), some (.int x1), some (.int x2), some (.int x3), some (.int x4)], [.int v5, .int 1, .ref a0])) rfl ?_
      refine Ez_cv (M := zM236) (As := [.ref a0, .int 1, .int v5]) (st' := []) (am_site_v (y := 232) (k := 3) (ci := 11) rfl rfl (zrcv rfl h0 rfl)) (Nat.le_of_ble_eq_true rfl) (Nat.le_of_ble_eq_true rfl) rfl rfl (fun _ hF => zf232_ok hK h0 hF) hF (fun s7 hF => ?_)
      refine Ev_p 2 (c' := (46, [some (.ref a0), some (.int x1), some (.int x2), some (.int x3), some (.int (x4 + 1))], [])) rfl ?_
      exact ih hF
noncomputable def zf236 (a0 : Nat) (x1 : Int32) (x2 : Int32) (s : zS) : Option (zS) :=
  zbi (zf229 a0 x1 x2 s) fun v1 s2 =>
  if v1 = 0 then
    zf236_46 a0 zfz x1 x2 v1 0 s2
  else
    zbv (zf231 a0 1 30780 s2) fun s4 =>
    zbi (zf230 a0 x1 x2 s4) fun v5 s6 =>
    zbv (zf233 a0 1 121 0 (65 + v5) s6) fun s8 =>
    zbv (zf232 a0 1 62 s8) fun s10 =>
    zf236_46 a0 zfz x1 x2 v1 0 s10
theorem zf236_ok {K : cx_K} (hK : Kok K) {lg : Nat → Int64} {s' : zS} {a0 : Nat} (h0 : zsh a0 = 11) {x1 : Int32} {x2 : Int32} {s : zS} (hF : zf236 a0 x1 x2 s = some s') : Ct K 236 [.ref a0, .int x1, .int x2] (zmk lg s) (.inl none) (zmk lg s') 0 := by
  unfold zf236 at hF
  refine Ct_of hK nd_ok236 (mL := 5) (rt := none) rfl rfl (Nat.le_of_ble_eq_true rfl) zlen_le ?_
  refine Ev_p 3 (c' := (3, [some (.ref a0), some (.int x1), some (.int x2), none, none], [.int x2, .int x1, .ref a0])) rfl ?_
  refine Ez_ci (M := zM236) (As := [.ref a0, .int x1, .int x2]) (st' := []) (am_site_v (y := 229) (k := 3) (ci := 11) rfl rfl (zrcv rfl h0 rfl)) (Nat.le_of_ble_eq_true rfl) (Nat.le_of_ble_eq_true rfl) rfl rfl (fun _ _ hF => zf229_ok hK h0 hF) hF (fun v1 s2 hF => ?_)
  refine Ev_p 2 (c' := (8, [some (.ref a0), some (.int x1), some (.int x2), some (.int v1), none], [.int v1])) rfl ?_
  refine Ez_if (M := zM236) (b := v1 = 0) rfl rfl hF (fun _ hF => ?_) (fun _ hF => ?_)
  · refine Ev_p 2 (c' := (46, [some (.ref a0), some (.int x1), some (.int x2), some (.int v1), some (.int 0)], [])) rfl ?_
    exact zf236_46_ok hK h0 hF
  · refine Ev_p 2 (c' := (13, [some (.ref a0), some (.int x1), some (.int x2), some (.int v1), none], [.int 1, .ref a0])) rfl ?_
    refine Ez_ldc2_w (M := zM236) (x := 30780) rfl rfl ?_
    refine Ev_p 0 (c' := (16, [some (.ref a0), some (.int x1), some (.int x2), some (.int v1), none], [.long 30780, .int 1, .ref a0])) rfl ?_
    refine Ez_cv (M := zM236) (As := [.ref a0, .int 1, .long 30780]) (st' := []) (am_site_v (y := 231) (k := 3) (ci := 11) rfl rfl (zrcv rfl h0 rfl)) (Nat.le_of_ble_eq_true rfl) (Nat.le_of_ble_eq_true rfl) rfl rfl (fun _ hF => zf231_ok hK h0 hF) hF (fun s4 hF => ?_)
    refine Ev_p 8 (c' := (29, [some (.ref a0), some (.int x1), some (.int x2), some (.int v1), none], [.int x2, .int x1, .ref a0, .int 65, .int 0, .int 121, .int 1, .ref a0])) rfl ?_
    refine Ez_ci (M := zM236) (As := [.ref a0, .int x1, .int x2]) (st' := [.int 65, .int 0, .int 121, .int 1, .ref a0]) (am_site_v (y := 230) (k := 3) (ci := 11) rfl rfl (zrcv rfl h0 rfl)) (Nat.le_of_ble_eq_true rfl) (Nat.le_of_ble_eq_true rfl) rfl rfl (fun _ _ hF => zf230_ok hK h0 hF) hF (fun v5 s6 hF => ?_)
    refine Ev_p 1 (c' := (33, [some (.ref a0), some (.int x1), some (.int x2), some (.int v1), none], [.int (65 + v5), .int 0, .int 121, .int 1, .ref a0])) rfl ?_
    refine Ez_cv (M := zM236) (As := [.ref a0, .int 1, .int 121, .int 0, .int (65 + v5)]) (st' := []) (am_site_v (y := 233) (k := 5) (ci := 11) rfl rfl (zrcv rfl h0 rfl)) (Nat.le_of_ble_eq_true rfl) (Nat.le_of_ble_eq_true rfl) rfl rfl (fun _ hF => zf233_ok hK h0 hF) hF (fun s8 hF => ?_)
    refine Ev_p 3 (c' := (40, [some (.ref a0), some (.int x1), some (.int x2), some (.int v1), none], [.int 62, .int 1, .ref a0])) rfl ?_
    refine Ez_cv (M := zM236) (As := [.ref a0, .int 1, .int 62]) (st' := []) (am_site_v (y := 232) (k := 3) (ci := 11) rfl rfl (zrcv rfl h0 rfl)) (Nat.le_of_ble_eq_true rfl) (Nat.le_of_ble_eq_true rfl) rfl rfl (fun _ hF => zf232_ok hK h0 hF) hF (fun s10 hF => ?_)
    refine Ev_p 2 (c' := (46, [some (.ref a0), some (.int x1), some (.int x2), some (.int v1), some (.int 0)], [])) rfl ?_
    exact zf236_46_ok hK h0 hF
-- PaperParcelsModel.sayNodes(I)V
abbrev zM234 : ev_M := (am_in nd_i234, am_fl nd_f11, am_ct nd_k11, am_sl nd_ml nd_s234, fun _ => none, none)
noncomputable def zf234_251 (a0 : Nat) (k11 : Int32 → Int32 → Int32 → zS → Option (zS)) (x1 : Int32) (x2 : Int32) (x3 : Int32) (x5 : Int32) (t0 : Int64) (t1 : Int32) (s : zS) : Option (zS) :=
  zbv (zf231 a0 t1 t0 s) fun s2 =>
  if x5 = 0 then
    k11 x1 x2 (x3 + 1) s2
  else
    k11 x1 x3 (x3 + 1) s2
theorem zf234_251_ok {K : cx_K} (hK : Kok K) {lg : Nat → Int64} {s' : zS} {a0 : Nat} (h0 : zsh a0 = 11) {k11 : Int32 → Int32 → Int32 → zS → Option (zS)} (hk11 : ∀ x1 x2 x3 s, k11 x1 x2 x3 s = some s' → Ev K zM234 (11, [some (.ref a0), some (.int x1), some (.int x2), some (.int x3), none, none], [], zmk lg s) 0 (.inl none) (zmk lg s') 0) {x1 : Int32} {x2 : Int32} {x3 : Int32} {x5 : Int32} {t0 : Int64} {t1 : Int32}  {s : zS} (hF : zf234_251 a0 k11 x1 x2 x3 x5 t0 t1 s = some s') : Ev K zM234 (251, [some (.ref a0), some (.int x1), some (.int x2), some (.int x3), none, some (.int x5)], [.long t0, .int t1, .ref a0], zmk lg s) 0 (.inl none) (zmk lg s') 0 := by
  unfold zf234_251 at hF
  refine Ev_p 0 (c' := (251, [some (.ref a0), some (.int x1), some (.int x2), some (.int x3), none, some (.int x5)], [.long t0, .int t1, .ref a0])) rfl ?_
  refine Ez_cv (M := zM234) (As := [.ref a0, .int t1, .long t0]) (st' := []) (am_site_v (y := 231) (k := 3) (ci := 11) rfl rfl (zrcv rfl h0 rfl)) (Nat.le_of_ble_eq_true rfl) (Nat.le_of_ble_eq_true rfl) rfl rfl (fun _ hF => zf231_ok hK h0 hF) hF (fun s2 hF => ?_)
  refine Ev_p 1 (c' := (256, [some (.ref a0), some (.int x1), some (.int x2), some (.int x3), none, some (.int x5)], [.int x5])) rfl ?_
  refine Ez_if (M := zM234) (b := x5 = 0) rfl rfl hF (fun _ hF => ?_) (fun _ hF => ?_)
  · refine Ev_p 4 (c' := (11, [some (.ref a0), some (.int x1), some (.int x2), some (.int (x3 + 1)), none, some (.int x5)], [])) rfl ?_
    refine Ev_w (L' := [some (.ref a0), some (.int x1), some (.int x2), some (.int (x3 + 1)), none, none]) (zle_c (zle_c (zle_c (zle_c (zle_c (zle_n zle_0)))))) ?_
    exact hk11 _ _ _ _ hF
  · refine Ev_p 5 (c' := (11, [some (.ref a0), some (.int x1), some (.int x3), some (.int (x3 + 1)), none, some (.int x5)], [])) rfl ?_
    refine Ev_w (L' := [some (.ref a0), some (.int x1), some (.int x3), some (.int (x3 + 1)), none, none]) (zle_c (zle_c (zle_c (zle_c (zle_c (zle_n zle_0)))))) ?_
    exact hk11 _ _ _ _ hF
noncomputable def zf234_233 (a0 : Nat) (k11 : Int32 → Int32 → Int32 → zS → Option (zS)) (x1 : Int32) (x2 : Int32) (x3 : Int32) (t0 : Int32) (s : zS) : Option (zS) :=
  if t0 = 0 then
    zf234_251 a0 k11 x1 x2 x3 t0 15919 1 s
  else
    zf234_251 a0 k11 x1 x2 x3 t0 62 1 s
theorem zf234_233_ok {K : cx_K} (hK : Kok K) {lg : Nat → Int64} {s' : zS} {a0 : Nat} (h0 : zsh a0 = 11) {k11 : Int32 → Int32 → Int32 → zS → Option (zS)} (hk11 : ∀ x1 x2 x3 s, k11 x1 x2 x3 s = some s' → Ev K zM234 (11, [some (.ref a0), some (.int x1), some (.int x2), some (.int x3), none, none], [], zmk lg s) 0 (.inl none) (zmk lg s') 0) {x1 : Int32} {x2 : Int32} {x3 : Int32} {t0 : Int32}  {s : zS} (hF : zf234_233 a0 k11 x1 x2 x3 t0 s = some s') : Ev K zM234 (233, [some (.ref a0), some (.int x1), some (.int x2), some (.int x3), none, none], [.int t0], zmk lg s) 0 (.inl none) (zmk lg s') 0 := by
  unfold zf234_233 at hF
  refine Ev_p 4 (c' := (239, [some (.ref a0), some (.int x1), some (.int x2), some (.int x3), none, some (.int t0)], [.int t0, .int 1, .ref a0])) rfl ?_
  refine Ez_if (M := zM234) (b := t0 = 0) rfl rfl hF (fun _ hF => ?_) (fun _ hF => ?_)
  · refine Ev_p 0 (c' := (248, [some (.ref a0), some (.int x1), some (.int x2), some (.int x3), none, some (.int t0)], [.int 1, .ref a0])) rfl ?_
    refine Ez_ldc2_w (M := zM234) (x := 15919) rfl rfl ?_
    refine Ev_p 0 (c' := (251, [some (.ref a0), some (.int x1), some (.int x2), some (.int x3), none, some (.int t0)], [.long 15919, .int 1, .ref a0])) rfl ?_
    exact zf234_251_ok hK h0 hk11 hF
  · refine Ev_p 0 (c' := (242, [some (.ref a0), some (.int x1), some (.int x2), some (.int x3), none, some (.int t0)], [.int 1, .ref a0])) rfl ?_
    refine Ez_ldc2_w (M := zM234) (x := 62) rfl rfl ?_
    refine Ev_p 1 (c' := (251, [some (.ref a0), some (.int x1), some (.int x2), some (.int x3), none, some (.int t0)], [.long 62, .int 1, .ref a0])) rfl ?_
    exact zf234_251_ok hK h0 hk11 hF
noncomputable def zf234_199 (a0 : Nat) (k11 : Int32 → Int32 → Int32 → zS → Option (zS)) (x1 : Int32) (x2 : Int32) (x3 : Int32) (s : zS) : Option (zS) :=
  zal s (zrf a0 22) x1 fun v1 =>
  if v1 ≤ (x3 + 1) then
    zf234_233 a0 k11 x1 x2 x3 0 s
  else
    zal s (zrf a0 24) (((100 * x1) + x3) + 1) fun v2 =>
    if ¬ v2 = x3 then
      zf234_233 a0 k11 x1 x2 x3 0 s
    else
      zf234_233 a0 k11 x1 x2 x3 1 s
theorem zf234_199_ok {K : cx_K} (hK : Kok K) {lg : Nat → Int64} {s' : zS} {a0 : Nat} (h0 : zsh a0 = 11) {k11 : Int32 → Int32 → Int32 → zS → Option (zS)} (hk11 : ∀ x1 x2 x3 s, k11 x1 x2 x3 s = some s' → Ev K zM234 (11, [some (.ref a0), some (.int x1), some (.int x2), some (.int x3), none, none], [], zmk lg s) 0 (.inl none) (zmk lg s') 0) {x1 : Int32} {x2 : Int32} {x3 : Int32}  {s : zS} (hF : zf234_199 a0 k11 x1 x2 x3 s = some s') : Ev K zM234 (199, [some (.ref a0), some (.int x1), some (.int x2), some (.int x3), none, none], [], zmk lg s) 0 (.inl none) (zmk lg s') 0 := by
  unfold zf234_199 at hF
  refine Ev_p 4 (c' := (203, [some (.ref a0), some (.int x1), some (.int x2), some (.int x3), none, none], [.ref a0, .int (x3 + 1)])) rfl ?_
  refine Ez_gr (M := zM234) (ci := 11) (f := 22) (t := 100) rfl rfl h0 rfl ?_
  refine Ev_p 1 (c' := (207, [some (.ref a0), some (.int x1), some (.int x2), some (.int x3), none, none], [.int x1, .ref (zrf a0 22), .int (x3 + 1)])) rfl ?_
  refine Ez_al (M := zM234) rfl (zty (ci := 11) (f := 22) (t := 100) h0 rfl) hF (fun v1 hF => ?_)
  refine Ev_p 0 (c' := (208, [some (.ref a0), some (.int x1), some (.int x2), some (.int x3), none, none], [.int v1, .int (x3 + 1)])) rfl ?_
  refine Ez_if (M := zM234) (b := v1 ≤ (x3 + 1)) rfl rfl hF (fun _ hF => ?_) (fun _ hF => ?_)
  · refine Ev_p 1 (c' := (233, [some (.ref a0), some (.int x1), some (.int x2), some (.int x3), none, none], [.int 0])) rfl ?_
    exact zf234_233_ok hK h0 hk11 hF
  · refine Ev_p 1 (c' := (212, [some (.ref a0), some (.int x1), some (.int x2), some (.int x3), none, none], [.ref a0])) rfl ?_
    refine Ez_gr (M := zM234) (ci := 11) (f := 24) (t := 100) rfl rfl h0 rfl ?_
    refine Ev_p 7 (c' := (223, [some (.ref a0), some (.int x1), some (.int x2), some (.int x3), none, none], [.int (((100 * x1) + x3) + 1), .ref (zrf a0 24)])) rfl ?_
    refine Ez_al (M := zM234) rfl (zty (ci := 11) (f := 24) (t := 100) h0 rfl) hF (fun v2 hF => ?_)
    refine Ev_p 1 (c' := (225, [some (.ref a0), some (.int x1), some (.int x2), some (.int x3), none, none], [.int x3, .int v2])) rfl ?_
    refine Ez_if (M := zM234) (b := ¬ v2 = x3) rfl rfl hF (fun _ hF => ?_) (fun _ hF => ?_)
    · refine Ev_p 1 (c' := (233, [some (.ref a0), some (.int x1), some (.int x2), some (.int x3), none, none], [.int 0])) rfl ?_
      exact zf234_233_ok hK h0 hk11 hF
    · refine Ev_p 2 (c' := (233, [some (.ref a0), some (.int x1), some (.int x2), some (.int x3), none, none], [.int 1])) rfl ?_
      exact zf234_233_ok hK h0 hk11 hF
noncomputable def zf234_137 (a0 : Nat) (k11 : Int32 → Int32 → Int32 → zS → Option (zS)) (x1 : Int32) (x2 : Int32) (x3 : Int32) (s : zS) : Option (zS) :=
  zal s (zrf a0 22) x1 fun v1 =>
  if v1 ≤ x3 then
    k11 x1 x2 (x3 + 1) s
  else
    zbv (zf232 a0 1 60 s) fun s3 =>
    zal s3 (zrf a0 23) ((100 * x1) + x3) fun v4 =>
    zbi (zf235 v4 s3) fun v5 s6 =>
    zbv (zf232 a0 1 v5 s6) fun s8 =>
    zbi (zf229 a0 x1 x3 s8) fun v9 s10 =>
    if v9 = 0 then
      zf234_199 a0 k11 x1 x2 x3 s10
    else
      zbi (zf230 a0 x1 x3 s10) fun v11 s12 =>
      zbv (zf233 a0 1 121 0 (65 + v11) s12) fun s14 =>
      zf234_199 a0 k11 x1 x2 x3 s14
theorem zf234_137_ok {K : cx_K} (hK : Kok K) {lg : Nat → Int64} {s' : zS} {a0 : Nat} (h0 : zsh a0 = 11) {k11 : Int32 → Int32 → Int32 → zS → Option (zS)} (hk11 : ∀ x1 x2 x3 s, k11 x1 x2 x3 s = some s' → Ev K zM234 (11, [some (.ref a0), some (.int x1), some (.int x2), some (.int x3), none, none], [], zmk lg s) 0 (.inl none) (zmk lg s') 0) {x1 : Int32} {x2 : Int32} {x3 : Int32}  {s : zS} (hF : zf234_137 a0 k11 x1 x2 x3 s = some s') : Ev K zM234 (137, [some (.ref a0), some (.int x1), some (.int x2), some (.int x3), none, none], [], zmk lg s) 0 (.inl none) (zmk lg s') 0 := by
  unfold zf234_137 at hF
  refine Ev_p 2 (c' := (139, [some (.ref a0), some (.int x1), some (.int x2), some (.int x3), none, none], [.ref a0, .int x3])) rfl ?_
  refine Ez_gr (M := zM234) (ci := 11) (f := 22) (t := 100) rfl rfl h0 rfl ?_
  refine Ev_p 1 (c' := (143, [some (.ref a0), some (.int x1), some (.int x2), some (.int x3), none, none], [.int x1, .ref (zrf a0 22), .int x3])) rfl ?_
  refine Ez_al (M := zM234) rfl (zty (ci := 11) (f := 22) (t := 100) h0 rfl) hF (fun v1 hF => ?_)
  refine Ev_p 0 (c' := (144, [some (.ref a0), some (.int x1), some (.int x2), some (.int x3), none, none], [.int v1, .int x3])) rfl ?_
  refine Ez_if (M := zM234) (b := v1 ≤ x3) rfl rfl hF (fun _ hF => ?_) (fun _ hF => ?_)
  · refine Ev_p 2 (c' := (11, [some (.ref a0), some (.int x1), some (.int x2), some (.int (x3 + 1)), none, none], [])) rfl ?_
    exact hk11 _ _ _ _ hF
  · refine Ev_p 3 (c' := (151, [some (.ref a0), some (.int x1), some (.int x2), some (.int x3), none, none], [.int 60, .int 1, .ref a0])) rfl ?_
    refine Ez_cv (M := zM234) (As := [.ref a0, .int 1, .int 60]) (st' := []) (am_site_v (y := 232) (k := 3) (ci := 11) rfl rfl (zrcv rfl h0 rfl)) (Nat.le_of_ble_eq_true rfl) (Nat.le_of_ble_eq_true rfl) rfl rfl (fun _ hF => zf232_ok hK h0 hF) hF (fun s3 hF => ?_)
    refine Ev_p 3 (c' := (157, [some (.ref a0), some (.int x1), some (.int x2), some (.int x3), none, none], [.ref a0, .int 1, .ref a0])) rfl ?_
    refine Ez_gr (M := zM234) (ci := 11) (f := 23) (t := 100) rfl rfl h0 rfl ?_
    refine Ev_p 5 (c' := (166, [some (.ref a0), some (.int x1), some (.int x2), some (.int x3), none, none], [.int ((100 * x1) + x3), .ref (zrf a0 23), .int 1, .ref a0])) rfl ?_
    refine Ez_al (M := zM234) rfl (zty (ci := 11) (f := 23) (t := 100) h0 rfl) hF (fun v4 hF => ?_)
    refine Ev_p 0 (c' := (167, [some (.ref a0), some (.int x1), some (.int x2), some (.int x3), none, none], [.int v4, .int 1, .ref a0])) rfl ?_
    refine Ez_ci (M := zM234) (As := [.int v4]) (st' := [.int 1, .ref a0]) (zsite_0 (y := 235) (k := 1) (ci := 11) rfl rfl) (Nat.le_of_ble_eq_true rfl) (Nat.le_of_ble_eq_true rfl) rfl rfl (fun _ _ hF => zf235_ok hK  hF) hF (fun v5 s6 hF => ?_)
    refine Ev_p 0 (c' := (170, [some (.ref a0), some (.int x1), some (.int x2), some (.int x3), none, none], [.int v5, .int 1, .ref a0])) rfl ?_
    refine Ez_cv (M := zM234) (As := [.ref a0, .int 1, .int v5]) (st' := []) (am_site_v (y := 232) (k := 3) (ci := 11) rfl rfl (zrcv rfl h0 rfl)) (Nat.le_of_ble_eq_true rfl) (Nat.le_of_ble_eq_true rfl) rfl rfl (fun _ hF => zf232_ok hK h0 hF) hF (fun s8 hF => ?_)
    refine Ev_p 3 (c' := (176, [some (.ref a0), some (.int x1), some (.int x2), some (.int x3), none, none], [.int x3, .int x1, .ref a0])) rfl ?_
    refine Ez_ci (M := zM234) (As := [.ref a0, .int x1, .int x3]) (st' := []) (am_site_v (y := 229) (k := 3) (ci := 11) rfl rfl (zrcv rfl h0 rfl)) (Nat.le_of_ble_eq_true rfl) (Nat.le_of_ble_eq_true rfl) rfl rfl (fun _ _ hF => zf229_ok hK h0 hF) hF (fun v9 s10 hF => ?_)
    refine Ev_p 0 (c' := (179, [some (.ref a0), some (.int x1), some (.int x2), some (.int x3), none, none], [.int v9])) rfl ?_
    refine Ez_if (M := zM234) (b := v9 = 0) rfl rfl hF (fun _ hF => ?_) (fun _ hF => ?_)
    · refine Ev_p 0 (c' := (199, [some (.ref a0), some (.int x1), some (.int x2), some (.int x3), none, none], [])) rfl ?_
      exact zf234_199_ok hK h0 hk11 hF
    · refine Ev_p 8 (c' := (192, [some (.ref a0), some (.int x1), some (.int x2), some (.int x3), none, none], [.int x3, .int x1, .ref a0, .int 65, .int 0, .int 121, .int 1, .ref a0])) rfl ?_
      refine Ez_ci (M := zM234) (As := [.ref a0, .int x1, .int x3]) (st' := [.int 65, .int 0, .int 121, .int 1, .ref a0]) (am_site_v (y := 230) (k := 3) (ci := 11) rfl rfl (zrcv rfl h0 rfl)) (Nat.le_of_ble_eq_true rfl) (Nat.le_of_ble_eq_true rfl) rfl rfl (fun _ _ hF => zf230_ok hK h0 hF) hF (fun v11 s12 hF => ?_)
      refine Ev_p 1 (c' := (196, [some (.ref a0), some (.int x1), some (.int x2), some (.int x3), none, none], [.int (65 + v11), .int 0, .int 121, .int 1, .ref a0])) rfl ?_
      refine Ez_cv (M := zM234) (As := [.ref a0, .int 1, .int 121, .int 0, .int (65 + v11)]) (st' := []) (am_site_v (y := 233) (k := 5) (ci := 11) rfl rfl (zrcv rfl h0 rfl)) (Nat.le_of_ble_eq_true rfl) (Nat.le_of_ble_eq_true rfl) rfl rfl (fun _ hF => zf233_ok hK h0 hF) hF (fun s14 hF => ?_)
      refine Ev_p 0 (c' := (199, [some (.ref a0), some (.int x1), some (.int x2), some (.int x3), none, none], [])) rfl ?_
      exact zf234_199_ok hK h0 hk11 hF
noncomputable def zf234_48 (a0 : Nat) (k11 : Int32 → Int32 → Int32 → zS → Option (zS)) : Nat → Int32 → Int32 → Int32 → Int32 → zS → Option (zS)
  | 0, _, _, _, _, _ => none
  | n + 1, x1, x2, x3, x4, s =>
    if x2 = x4 then
      zal s (zrf a0 22) x1 fun v1 =>
      if v1 ≤ x3 then
        zf234_137 a0 k11 x1 x2 x3 s
      else
        zal s (zrf a0 23) ((100 * x1) + x3) fun v2 =>
        if ¬ v2 = 2 then
          zf234_137 a0 k11 x1 x2 x3 s
        else
          zbv (zf236 a0 x1 x3 s) fun s4 =>
          k11 x1 x2 (x3 + 1) s4
    else
      zbv (zf231 a0 1 12092 s) fun s6 =>
      zal s6 (zrf a0 23) ((100 * x1) + x2) fun v7 =>
      zbi (zf235 v7 s6) fun v8 s9 =>
      zbv (zf232 a0 1 v8 s9) fun s11 =>
      zbv (zf232 a0 1 62 s11) fun s13 =>
      zal s13 (zrf a0 24) ((100 * x1) + x2) fun v14 =>
      zf234_48 a0 k11 n x1 v14 x3 x4 s13
theorem zf234_48_ok {K : cx_K} (hK : Kok K) {lg : Nat → Int64} {s' : zS} {a0 : Nat} (h0 : zsh a0 = 11) {k11 : Int32 → Int32 → Int32 → zS → Option (zS)} (hk11 : ∀ x1 x2 x3 s, k11 x1 x2 x3 s = some s' → Ev K zM234 (11, [some (.ref a0), some (.int x1), some (.int x2), some (.int x3), none, none], [], zmk lg s) 0 (.inl none) (zmk lg s') 0) {n : Nat} : ∀ {x1 : Int32} {x2 : Int32} {x3 : Int32} {x4 : Int32} {s : zS}, zf234_48 a0 k11 n x1 x2 x3 x4 s = some s' → Ev K zM234 (48, [some (.ref a0), some (.int x1), some (.int x2), some (.int x3), some (.int x4), none], [], zmk lg s) 0 (.inl none) (zmk lg s') 0 := by
  induction n with
  | zero => intro x1 x2 x3 x4 s hF; rw [zf234_48] at hF; cases hF
  | succ n ih =>
    intro x1 x2 x3 x4 s hF
    rw [zf234_48] at hF
    refine Ev_p 2 (c' := (51, [some (.ref a0), some (.int x1), some (.int x2), some (.int x3), some (.int x4), none], [.int x4, .int x2])) rfl ?_
    refine Ez_if (M := zM234) (b := x2 = x4) rfl rfl hF (fun _ hF => ?_) (fun _ hF => ?_)
    · refine Ev_p 2 (c' := (105, [some (.ref a0), some (.int x1), some (.int x2), some (.int x3), some (.int x4), none], [.ref a0, .int x3])) rfl ?_
      refine Ez_gr (M := zM234) (ci := 11) (f := 22) (t := 100) rfl rfl h0 rfl ?_
      refine Ev_p 1 (c' := (109, [some (.ref a0), some (.int x1), some (.int x2), some (.int x3), some (.int x4), none], [.int x1, .ref (zrf a0 22), .int x3])) rfl ?_
      refine Ez_al (M := zM234) rfl (zty (ci := 11) (f := 22) (t := 100) h0 rfl) hF (fun v1 hF => ?_)
      refine Ev_p 0 (c' := (110, [some (.ref a0), some (.int x1), some (.int x2), some (.int x3), some (.int x4), none], [.int v1, .int x3])) rfl ?_
      refine Ez_if (M := zM234) (b := v1 ≤ x3) rfl rfl hF (fun _ hF => ?_) (fun _ hF => ?_)
      · refine Ev_p 0 (c' := (137, [some (.ref a0), some (.int x1), some (.int x2), some (.int x3), some (.int x4), none], [])) rfl ?_
        refine Ev_w (L' := [some (.ref a0), some (.int x1), some (.int x2), some (.int x3), none, none]) (zle_c (zle_c (zle_c (zle_c (zle_n (zle_c zle_0)))))) ?_
        exact zf234_137_ok hK h0 hk11 hF
      · refine Ev_p 1 (c' := (114, [some (.ref a0), some (.int x1), some (.int x2), some (.int x3), some (.int x4), none], [.ref a0])) rfl ?_
        refine Ez_gr (M := zM234) (ci := 11) (f := 23) (t := 100) rfl rfl h0 rfl ?_
        refine Ev_p 5 (c' := (123, [some (.ref a0), some (.int x1), some (.int x2), some (.int x3), some (.int x4), none], [.int ((100 * x1) + x3), .ref (zrf a0 23)])) rfl ?_
        refine Ez_al (M := zM234) rfl (zty (ci := 11) (f := 23) (t := 100) h0 rfl) hF (fun v2 hF => ?_)
        refine Ev_p 1 (c' := (125, [some (.ref a0), some (.int x1), some (.int x2), some (.int x3), some (.int x4), none], [.int 2, .int v2])) rfl ?_
        refine Ez_if (M := zM234) (b := ¬ v2 = 2) rfl rfl hF (fun _ hF => ?_) (fun _ hF => ?_)
        · refine Ev_p 0 (c' := (137, [some (.ref a0), some (.int x1), some (.int x2), some (.int x3), some (.int x4), none], [])) rfl ?_
          refine Ev_w (L' := [some (.ref a0), some (.int x1), some (.int x2), some (.int x3), none, none]) (zle_c (zle_c (zle_c (zle_c (zle_n (zle_c zle_0)))))) ?_
          exact zf234_137_ok hK h0 hk11 hF
        · refine Ev_p 3 (c' := (131, [some (.ref a0), some (.int x1), some (.int x2), some (.int x3), some (.int x4), none], [.int x3, .int x1, .ref a0])) rfl ?_
          refine Ez_cv (M := zM234) (As := [.ref a0, .int x1, .int x3]) (st' := []) (am_site_v (y := 236) (k := 3) (ci := 11) rfl rfl (zrcv rfl h0 rfl)) (Nat.le_of_ble_eq_true rfl) (Nat.le_of_ble_eq_true rfl) rfl rfl (fun _ hF => zf236_ok hK h0 hF) hF (fun s4 hF => ?_)
          refine Ev_p 3 (c' := (11, [some (.ref a0), some (.int x1), some (.int x2), some (.int (x3 + 1)), some (.int x4), none], [])) rfl ?_
          refine Ev_w (L' := [some (.ref a0), some (.int x1), some (.int x2), some (.int (x3 + 1)), none, none]) (zle_c (zle_c (zle_c (zle_c (zle_n (zle_c zle_0)))))) ?_
          exact hk11 _ _ _ _ hF
    · refine Ev_p 2 (c' := (56, [some (.ref a0), some (.int x1), some (.int x2), some (.int x3), some (.int x4), none], [.int 1, .ref a0])) rfl ?_
      refine Ez_ldc2_w (M := zM234) (x := 12092) rfl rfl ?_
      refine Ev_p 0 (c' := (59, [some (.ref a0), some (.int x1), some (.int x2), some (.int x3), some (.int x4), none], [.long 12092, .int 1, .ref a0])) rfl ?_
      refine Ez_cv (M := zM234) (As := [.ref a0, .int 1, .long 12092]) (st' := []) (am_site_v (y := 231) (k := 3) (ci := 11) rfl rfl (zrcv rfl h0 rfl)) (Nat.le_of_ble_eq_true rfl) (Nat.le_of_ble_eq_true rfl) rfl rfl (fun _ hF => zf231_ok hK h0 hF) hF (fun s6 hF => ?_)
      refine Ev_p 3 (c' := (65, [some (.ref a0), some (.int x1), some (.int x2), some (.int x3), some (.int x4), none], [.ref a0, .int 1, .ref a0])) rfl ?_
      refine Ez_gr (M := zM234) (ci := 11) (f := 23) (t := 100) rfl rfl h0 rfl ?_
      refine Ev_p 5 (c' := (74, [some (.ref a0), some (.int x1), some (.int x2), some (.int x3), some (.int x4), none], [.int ((100 * x1) + x2), .ref (zrf a0 23), .int 1, .ref a0])) rfl ?_
      refine Ez_al (M := zM234) rfl (zty (ci := 11) (f := 23) (t := 100) h0 rfl) hF (fun v7 hF => ?_)
      refine Ev_p 0 (c' := (75, [some (.ref a0), some (.int x1), some (.int x2), some (.int x3), some (.int x4), none], [.int v7, .int 1, .ref a0])) rfl ?_
      refine Ez_ci (M := zM234) (As := [.int v7]) (st' := [.int 1, .ref a0]) (zsite_0 (y := 235) (k := 1) (ci := 11) rfl rfl) (Nat.le_of_ble_eq_true rfl) (Nat.le_of_ble_eq_true rfl) rfl rfl (fun _ _ hF => zf235_ok hK  hF) hF (fun v8 s9 hF => ?_)
      refine Ev_p 0 (c' := (78, [some (.ref a0), some (.int x1), some (.int x2), some (.int x3), some (.int x4), none], [.int v8, .int 1, .ref a0])) rfl ?_
      refine Ez_cv (M := zM234) (As := [.ref a0, .int 1, .int v8]) (st' := []) (am_site_v (y := 232) (k := 3) (ci := 11) rfl rfl (zrcv rfl h0 rfl)) (Nat.le_of_ble_eq_true rfl) (Nat.le_of_ble_eq_true rfl) rfl rfl (fun _ hF => zf232_ok hK h0 hF) hF (fun s11 hF => ?_)
      refine Ev_p 3 (c' := (85, [some (.ref a0), some (.int x1), some (.int x2), some (.int x3), some (.int x4), none], [.int 62, .int 1, .ref a0])) rfl ?_
      refine Ez_cv (M := zM234) (As := [.ref a0, .int 1, .int 62]) (st' := []) (am_site_v (y := 232) (k := 3) (ci := 11) rfl rfl (zrcv rfl h0 rfl)) (Nat.le_of_ble_eq_true rfl) (Nat.le_of_ble_eq_true rfl) rfl rfl (fun _ hF => zf232_ok hK h0 hF) hF (fun s13 hF => ?_)
      refine Ev_p 1 (c' := (89, [some (.ref a0), some (.int x1), some (.int x2), some (.int x3), some (.int x4), none], [.ref a0])) rfl ?_
      refine Ez_gr (M := zM234) (ci := 11) (f := 24) (t := 100) rfl rfl h0 rfl ?_
      refine Ev_p 5 (c' := (98, [some (.ref a0), some (.int x1), some (.int x2), some (.int x3), some (.int x4), none], [.int ((100 * x1) + x2), .ref (zrf a0 24)])) rfl ?_
      refine Ez_al (M := zM234) rfl (zty (ci := 11) (f := 24) (t := 100) h0 rfl) hF (fun v14 hF => ?_)
      refine Ev_p 2 (c' := (48, [some (.ref a0), some (.int x1), some (.int v14), some (.int x3), some (.int x4), none], [])) rfl ?_
      exact ih hF
noncomputable def zf234_11 (a0 : Nat)  : Nat → Int32 → Int32 → Int32 → zS → Option (zS)
  | 0, _, _, _, _ => none
  | n + 1, x1, x2, x3, s =>
    zal s (zrf a0 22) x1 fun v1 =>
    if v1 < x3 then
      some s
    else
      zal s (zrf a0 22) x1 fun v2 =>
      if v2 ≤ x3 then
        zf234_48 a0 (zf234_11 a0 n) zfz x1 x2 x3 (-1) s
      else
        zal s (zrf a0 24) ((100 * x1) + x3) fun v3 =>
        zf234_48 a0 (zf234_11 a0 n) zfz x1 x2 x3 v3 s
theorem zf234_11_ok {K : cx_K} (hK : Kok K) {lg : Nat → Int64} {s' : zS} {a0 : Nat} (h0 : zsh a0 = 11)   {n : Nat} : ∀ {x1 : Int32} {x2 : Int32} {x3 : Int32} {s : zS}, zf234_11 a0 n x1 x2 x3 s = some s' → Ev K zM234 (11, [some (.ref a0), some (.int x1), some (.int x2), some (.int x3), none, none], [], zmk lg s) 0 (.inl none) (zmk lg s') 0 := by
  induction n with
  | zero => intro x1 x2 x3 s hF; rw [zf234_11] at hF; cases hF
  | succ n ih =>
    intro x1 x2 x3 s hF
    rw [zf234_11] at hF
    refine Ev_p 2 (c' := (13, [some (.ref a0), some (.int x1), some (.int x2), some (.int x3), none, none], [.ref a0, .int x3])) rfl ?_
    refine Ez_gr (M := zM234) (ci := 11) (f := 22) (t := 100) rfl rfl h0 rfl ?_
    refine Ev_p 1 (c' := (17, [some (.ref a0), some (.int x1), some (.int x2), some (.int x3), none, none], [.int x1, .ref (zrf a0 22), .int x3])) rfl ?_
    refine Ez_al (M := zM234) rfl (zty (ci := 11) (f := 22) (t := 100) h0 rfl) hF (fun v1 hF => ?_)
    refine Ev_p 0 (c' := (18, [some (.ref a0), some (.int x1), some (.int x2), some (.int x3), none, none], [.int v1, .int x3])) rfl ?_
    refine Ez_if (M := zM234) (b := v1 < x3) rfl rfl hF (fun _ hF => ?_) (fun _ hF => ?_)
    · refine Ev_p 0 (c' := (271, [some (.ref a0), some (.int x1), some (.int x2), some (.int x3), none, none], [])) rfl ?_
      exact Ez_rv (M := zM234) rfl rfl hF
    · refine Ev_p 2 (c' := (23, [some (.ref a0), some (.int x1), some (.int x2), some (.int x3), none, none], [.ref a0, .int x3])) rfl ?_
      refine Ez_gr (M := zM234) (ci := 11) (f := 22) (t := 100) rfl rfl h0 rfl ?_
      refine Ev_p 1 (c' := (27, [some (.ref a0), some (.int x1), some (.int x2), some (.int x3), none, none], [.int x1, .ref (zrf a0 22), .int x3])) rfl ?_
      refine Ez_al (M := zM234) rfl (zty (ci := 11) (f := 22) (t := 100) h0 rfl) hF (fun v2 hF => ?_)
      refine Ev_p 0 (c' := (28, [some (.ref a0), some (.int x1), some (.int x2), some (.int x3), none, none], [.int v2, .int x3])) rfl ?_
      refine Ez_if (M := zM234) (b := v2 ≤ x3) rfl rfl hF (fun _ hF => ?_) (fun _ hF => ?_)
      · refine Ev_p 2 (c' := (48, [some (.ref a0), some (.int x1), some (.int x2), some (.int x3), some (.int (-1)), none], [])) rfl ?_
        exact zf234_48_ok hK h0 (fun _ _ _ _ hF => ih hF) hF
      · refine Ev_p 1 (c' := (32, [some (.ref a0), some (.int x1), some (.int x2), some (.int x3), none, none], [.ref a0])) rfl ?_
        refine Ez_gr (M := zM234) (ci := 11) (f := 24) (t := 100) rfl rfl h0 rfl ?_
        refine Ev_p 5 (c' := (41, [some (.ref a0), some (.int x1), some (.int x2), some (.int x3), none, none], [.int ((100 * x1) + x3), .ref (zrf a0 24)])) rfl ?_
        refine Ez_al (M := zM234) rfl (zty (ci := 11) (f := 24) (t := 100) h0 rfl) hF (fun v3 hF => ?_)
        refine Ev_p 2 (c' := (48, [some (.ref a0), some (.int x1), some (.int x2), some (.int x3), some (.int v3), none], [])) rfl ?_
        exact zf234_48_ok hK h0 (fun _ _ _ _ hF => ih hF) hF
noncomputable def zf234 (a0 : Nat) (x1 : Int32) (s : zS) : Option (zS) :=
  zas s (zrf a0 52) 1 0 fun s1 =>
  zf234_11 a0 zfz x1 (-1) 0 s1
theorem zf234_ok {K : cx_K} (hK : Kok K) {lg : Nat → Int64} {s' : zS} {a0 : Nat} (h0 : zsh a0 = 11) {x1 : Int32} {s : zS} (hF : zf234 a0 x1 s = some s') : Ct K 234 [.ref a0, .int x1] (zmk lg s) (.inl none) (zmk lg s') 0 := by
  unfold zf234 at hF
  refine Ct_of hK nd_ok234 (mL := 6) (rt := none) rfl rfl (Nat.le_of_ble_eq_true rfl) zlen_le ?_
  refine Ev_p 1 (c' := (1, [some (.ref a0), some (.int x1), none, none, none, none], [.ref a0])) rfl ?_
  refine Ez_gr (M := zM234) (ci := 11) (f := 52) (t := 100) rfl rfl h0 rfl ?_
  refine Ev_p 2 (c' := (6, [some (.ref a0), some (.int x1), none, none, none, none], [.int 0, .int 1, .ref (zrf a0 52)])) rfl ?_
  refine Ez_as (M := zM234) rfl (zty (ci := 11) (f := 52) (t := 100) h0 rfl) hF (fun s1 hF => ?_)
  refine Ev_p 4 (c' := (11, [some (.ref a0), some (.int x1), some (.int (-1)), some (.int 0), none, none], [])) rfl ?_
  exact zf234_11_ok hK h0 hF

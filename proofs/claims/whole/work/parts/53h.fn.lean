/-! The methods as functions, and that the machine goes so (printed by wip/gen/fgen.py). -/
set_option maxRecDepth 100000
set_option linter.unusedVariables false
-- PaperParcels$Paper.addCopy(LPaperParcels$Paper;II)V
abbrev zM80 : ev_M := (am_in nd_i80, am_fl nd_f2, am_ct nd_k2, am_sl nd_ml nd_s80, fun _ => none, none)
noncomputable def zf80_23 (a0 : Nat) (a1 : Nat)  : Nat → Int32 → Int32 → zS → Option (zS)
  | 0, _, _, _ => none
  | n + 1, x2, x4, s =>
    zal s (zrf a1 4) x2 fun v1 =>
    if v1 ≤ x4 then
      zgf s a0 6 fun v2 =>
      zgf s (zrf a0 5) 1 fun v3 =>
      zgf s a0 6 fun v4 =>
      zal s (zrf a0 3) (v4 - 1) fun v5 =>
      zas s (zrf a0 4) (v2 - 1) (v3 - v5) fun s6 =>
      some s6
    else
      zal s (zrf a1 3) x2 fun v7 =>
      zbi (zf18 (zrf a1 5) (v7 + x4) s) fun v8 s9 =>
      zbv (zf13 (zrf a0 5) v8 s9) fun s11 =>
      zf80_23 a0 a1 n x2 (x4 + 1) s11
theorem zf80_23_ok {K : cx_K} (hK : Kok K) {lg : Nat → Int64} {s' : zS} {a0 : Nat} {a1 : Nat} (h0 : zsh a0 = 2) (h1 : zsh a1 = 2)   {n : Nat} : ∀ {x2 : Int32} {x4 : Int32} {s : zS}, zf80_23 a0 a1 n x2 x4 s = some s' → Ev K zM80 (23, [some (.ref a0), some (.ref a1), some (.int x2), none, some (.int x4)], [], zmk lg s) 0 (.inl none) (zmk lg s') 0 := by
  induction n with
  | zero => intro x2 x4 s hF; rw [zf80_23] at hF; cases hF
  | succ n ih =>
    intro x2 x4 s hF
    rw [zf80_23] at hF
    refine Ev_p 2 (c' := (26, [some (.ref a0), some (.ref a1), some (.int x2), none, some (.int x4)], [.ref a1, .int x4])) rfl ?_
    refine Ez_gr (M := zM80) (ci := 2) (f := 4) (t := 100) rfl rfl h1 rfl ?_
    refine Ev_p 1 (c' := (30, [some (.ref a0), some (.ref a1), some (.int x2), none, some (.int x4)], [.int x2, .ref (zrf a1 4), .int x4])) rfl ?_
    refine Ez_al (M := zM80) rfl (zty (ci := 2) (f := 4) (t := 100) h1 rfl) hF (fun v1 hF => ?_)
    refine Ev_p 0 (c' := (31, [some (.ref a0), some (.ref a1), some (.int x2), none, some (.int x4)], [.int v1, .int x4])) rfl ?_
    refine Ez_if (M := zM80) (b := v1 ≤ x4) rfl rfl hF (fun _ hF => ?_) (fun _ hF => ?_)
    · refine Ev_p 1 (c' := (64, [some (.ref a0), some (.ref a1), some (.int x2), none, some (.int x4)], [.ref a0])) rfl ?_
      refine Ez_gr (M := zM80) (ci := 2) (f := 4) (t := 100) rfl rfl h0 rfl ?_
      refine Ev_p 1 (c' := (68, [some (.ref a0), some (.ref a1), some (.int x2), none, some (.int x4)], [.ref a0, .ref (zrf a0 4)])) rfl ?_
      refine Ez_gf (M := zM80) (ci := 2) (f := 6) rfl rfl h0 rfl hF (fun v2 hF => ?_)
      refine Ev_p 3 (c' := (74, [some (.ref a0), some (.ref a1), some (.int x2), none, some (.int x4)], [.ref a0, .int (v2 - 1), .ref (zrf a0 4)])) rfl ?_
      refine Ez_gr (M := zM80) (ci := 2) (f := 5) (t := 1) rfl rfl h0 rfl ?_
      refine Ev_p 0 (c' := (77, [some (.ref a0), some (.ref a1), some (.int x2), none, some (.int x4)], [.ref (zrf a0 5), .int (v2 - 1), .ref (zrf a0 4)])) rfl ?_
      refine Ez_gf (M := zM80) (ci := 1) (f := 1) rfl rfl (zty (ci := 2) (f := 5) (t := 1) h0 rfl) rfl hF (fun v3 hF => ?_)
      refine Ev_p 1 (c' := (81, [some (.ref a0), some (.ref a1), some (.int x2), none, some (.int x4)], [.ref a0, .int v3, .int (v2 - 1), .ref (zrf a0 4)])) rfl ?_
      refine Ez_gr (M := zM80) (ci := 2) (f := 3) (t := 100) rfl rfl h0 rfl ?_
      refine Ev_p 1 (c' := (85, [some (.ref a0), some (.ref a1), some (.int x2), none, some (.int x4)], [.ref a0, .ref (zrf a0 3), .int v3, .int (v2 - 1), .ref (zrf a0 4)])) rfl ?_
      refine Ez_gf (M := zM80) (ci := 2) (f := 6) rfl rfl h0 rfl hF (fun v4 hF => ?_)
      refine Ev_p 2 (c' := (90, [some (.ref a0), some (.ref a1), some (.int x2), none, some (.int x4)], [.int (v4 - 1), .ref (zrf a0 3), .int v3, .int (v2 - 1), .ref (zrf a0 4)])) rfl ?_
      refine Ez_al (M := zM80) rfl (zty (ci := 2) (f := 3) (t := 100) h0 rfl) hF (fun v5 hF => ?_)
      refine Ev_p 1 (c' := (92, [some (.ref a0), some (.ref a1), some (.int x2), none, some (.int x4)], [.int (v3 - v5), .int (v2 - 1), .ref (zrf a0 4)])) rfl ?_
      refine Ez_as (M := zM80) rfl (zty (ci := 2) (f := 4) (t := 100) h0 rfl) hF (fun s6 hF => ?_)
      refine Ev_p 0 (c' := (93, [some (.ref a0), some (.ref a1), some (.int x2), none, some (.int x4)], [])) rfl ?_
      exact Ez_rv (M := zM80) rfl rfl hF
    · refine Ev_p 1 (c' := (35, [some (.ref a0), some (.ref a1), some (.int x2), none, some (.int x4)], [.ref a0])) rfl ?_
      refine Ez_gr (M := zM80) (ci := 2) (f := 5) (t := 1) rfl rfl h0 rfl ?_
      refine Ev_p 1 (c' := (39, [some (.ref a0), some (.ref a1), some (.int x2), none, some (.int x4)], [.ref a1, .ref (zrf a0 5)])) rfl ?_
      refine Ez_gr (M := zM80) (ci := 2) (f := 5) (t := 1) rfl rfl h1 rfl ?_
      refine Ev_p 1 (c' := (43, [some (.ref a0), some (.ref a1), some (.int x2), none, some (.int x4)], [.ref a1, .ref (zrf a1 5), .ref (zrf a0 5)])) rfl ?_
      refine Ez_gr (M := zM80) (ci := 2) (f := 3) (t := 100) rfl rfl h1 rfl ?_
      refine Ev_p 1 (c' := (47, [some (.ref a0), some (.ref a1), some (.int x2), none, some (.int x4)], [.int x2, .ref (zrf a1 3), .ref (zrf a1 5), .ref (zrf a0 5)])) rfl ?_
      refine Ez_al (M := zM80) rfl (zty (ci := 2) (f := 3) (t := 100) h1 rfl) hF (fun v7 hF => ?_)
      refine Ev_p 2 (c' := (51, [some (.ref a0), some (.ref a1), some (.int x2), none, some (.int x4)], [.int (v7 + x4), .ref (zrf a1 5), .ref (zrf a0 5)])) rfl ?_
      refine Ez_ci (M := zM80) (As := [.ref (zrf a1 5), .int (v7 + x4)]) (st' := [.ref (zrf a0 5)]) (am_site_v (y := 18) (k := 2) (ci := 1) rfl rfl (zrcv rfl (zty (ci := 2) (f := 5) (t := 1) h1 rfl) rfl)) (Nat.le_of_ble_eq_true rfl) (Nat.le_of_ble_eq_true rfl) rfl rfl (fun _ _ hF => zf18_ok hK (zty (ci := 2) (f := 5) (t := 1) h1 rfl) hF) hF (fun v8 s9 hF => ?_)
      refine Ev_p 0 (c' := (54, [some (.ref a0), some (.ref a1), some (.int x2), none, some (.int x4)], [.int v8, .ref (zrf a0 5)])) rfl ?_
      refine Ez_cv (M := zM80) (As := [.ref (zrf a0 5), .int v8]) (st' := []) (am_site_v (y := 13) (k := 2) (ci := 1) rfl rfl (zrcv rfl (zty (ci := 2) (f := 5) (t := 1) h0 rfl) rfl)) (Nat.le_of_ble_eq_true rfl) (Nat.le_of_ble_eq_true rfl) rfl rfl (fun _ hF => zf13_ok hK (zty (ci := 2) (f := 5) (t := 1) h0 rfl) hF) hF (fun s11 hF => ?_)
      refine Ev_p 2 (c' := (23, [some (.ref a0), some (.ref a1), some (.int x2), none, some (.int (x4 + 1))], [])) rfl ?_
      exact ih hF
noncomputable def zf80 (a0 : Nat) (a1 : Nat) (x2 : Int32) (x3 : Int32) (s : zS) : Option (zS) :=
  zal s (zrf a1 0) x2 fun v1 =>
  zal s (zrf a1 2) x2 fun v2 =>
  zbi (zf75 a0 v1 x3 v2 s) fun v3 s4 =>
  if v3 = 0 then
    some s4
  else
    zf80_23 a0 a1 zfz x2 0 s4
theorem zf80_ok {K : cx_K} (hK : Kok K) {lg : Nat → Int64} {s' : zS} {a0 : Nat} {a1 : Nat} (h0 : zsh a0 = 2) (h1 : zsh a1 = 2) {x2 : Int32} {x3 : Int32} {s : zS} (hF : zf80 a0 a1 x2 x3 s = some s') : Ct K 80 [.ref a0, .ref a1, .int x2, .int x3] (zmk lg s) (.inl none) (zmk lg s') 0 := by
  unfold zf80 at hF
  refine Ct_of hK nd_ok80 (mL := 5) (rt := none) rfl rfl (Nat.le_of_ble_eq_true rfl) zlen_le ?_
  refine Ev_p 2 (c' := (2, [some (.ref a0), some (.ref a1), some (.int x2), some (.int x3), none], [.ref a1, .ref a0])) rfl ?_
  refine Ez_gr (M := zM80) (ci := 2) (f := 0) (t := 100) rfl rfl h1 rfl ?_
  refine Ev_p 1 (c' := (6, [some (.ref a0), some (.ref a1), some (.int x2), some (.int x3), none], [.int x2, .ref (zrf a1 0), .ref a0])) rfl ?_
  refine Ez_al (M := zM80) rfl (zty (ci := 2) (f := 0) (t := 100) h1 rfl) hF (fun v1 hF => ?_)
  refine Ev_p 2 (c' := (9, [some (.ref a0), some (.ref a1), some (.int x2), some (.int x3), none], [.ref a1, .int x3, .int v1, .ref a0])) rfl ?_
  refine Ez_gr (M := zM80) (ci := 2) (f := 2) (t := 100) rfl rfl h1 rfl ?_
  refine Ev_p 1 (c' := (13, [some (.ref a0), some (.ref a1), some (.int x2), some (.int x3), none], [.int x2, .ref (zrf a1 2), .int x3, .int v1, .ref a0])) rfl ?_
  refine Ez_al (M := zM80) rfl (zty (ci := 2) (f := 2) (t := 100) h1 rfl) hF (fun v2 hF => ?_)
  refine Ev_p 0 (c' := (14, [some (.ref a0), some (.ref a1), some (.int x2), some (.int x3), none], [.int v2, .int x3, .int v1, .ref a0])) rfl ?_
  refine Ez_ci (M := zM80) (As := [.ref a0, .int v1, .int x3, .int v2]) (st' := []) (am_site_v (y := 75) (k := 4) (ci := 2) rfl rfl (zrcv rfl h0 rfl)) (Nat.le_of_ble_eq_true rfl) (Nat.le_of_ble_eq_true rfl) rfl rfl (fun _ _ hF => zf75_ok hK h0 hF) hF (fun v3 s4 hF => ?_)
  refine Ev_p 0 (c' := (17, [some (.ref a0), some (.ref a1), some (.int x2), some (.int x3), none], [.int v3])) rfl ?_
  refine Ez_if (M := zM80) (b := v3 = 0) rfl rfl hF (fun _ hF => ?_) (fun _ hF => ?_)
  · refine Ev_p 0 (c' := (93, [some (.ref a0), some (.ref a1), some (.int x2), some (.int x3), none], [])) rfl ?_
    exact Ez_rv (M := zM80) rfl rfl hF
  · refine Ev_p 2 (c' := (23, [some (.ref a0), some (.ref a1), some (.int x2), some (.int x3), some (.int 0)], [])) rfl ?_
    refine Ev_w (L' := [some (.ref a0), some (.ref a1), some (.int x2), none, some (.int 0)]) (zle_c (zle_c (zle_c (zle_n (zle_c zle_0))))) ?_
    exact zf80_23_ok hK h0 h1 hF
-- PaperParcels$Paper.copyFrom(LPaperParcels$Paper;)V
abbrev zM79 : ev_M := (am_in nd_i79, am_fl nd_f2, am_ct nd_k2, am_sl nd_ml nd_s79, fun _ => none, none)
noncomputable def zf79_6 (a0 : Nat) (a1 : Nat)  : Nat → Int32 → zS → Option (zS)
  | 0, _, _ => none
  | n + 1, x2, s =>
    zgf s a1 6 fun v1 =>
    if v1 ≤ x2 then
      some s
    else
      zal s (zrf a1 1) x2 fun v2 =>
      zbv (zf80 a0 a1 x2 v2 s) fun s4 =>
      zf79_6 a0 a1 n (x2 + 1) s4
theorem zf79_6_ok {K : cx_K} (hK : Kok K) {lg : Nat → Int64} {s' : zS} {a0 : Nat} {a1 : Nat} (h0 : zsh a0 = 2) (h1 : zsh a1 = 2)   {n : Nat} : ∀ {x2 : Int32} {s : zS}, zf79_6 a0 a1 n x2 s = some s' → Ev K zM79 (6, [some (.ref a0), some (.ref a1), some (.int x2)], [], zmk lg s) 0 (.inl none) (zmk lg s') 0 := by
  induction n with
  | zero => intro x2 s hF; rw [zf79_6] at hF; cases hF
  | succ n ih =>
    intro x2 s hF
    rw [zf79_6] at hF
    refine Ev_p 2 (c' := (8, [some (.ref a0), some (.ref a1), some (.int x2)], [.ref a1, .int x2])) rfl ?_
    refine Ez_gf (M := zM79) (ci := 2) (f := 6) rfl rfl h1 rfl hF (fun v1 hF => ?_)
    refine Ev_p 0 (c' := (11, [some (.ref a0), some (.ref a1), some (.int x2)], [.int v1, .int x2])) rfl ?_
    refine Ez_if (M := zM79) (b := v1 ≤ x2) rfl rfl hF (fun _ hF => ?_) (fun _ hF => ?_)
    · refine Ev_p 0 (c' := (32, [some (.ref a0), some (.ref a1), some (.int x2)], [])) rfl ?_
      exact Ez_rv (M := zM79) rfl rfl hF
    · refine Ev_p 4 (c' := (18, [some (.ref a0), some (.ref a1), some (.int x2)], [.ref a1, .int x2, .ref a1, .ref a0])) rfl ?_
      refine Ez_gr (M := zM79) (ci := 2) (f := 1) (t := 100) rfl rfl h1 rfl ?_
      refine Ev_p 1 (c' := (22, [some (.ref a0), some (.ref a1), some (.int x2)], [.int x2, .ref (zrf a1 1), .int x2, .ref a1, .ref a0])) rfl ?_
      refine Ez_al (M := zM79) rfl (zty (ci := 2) (f := 1) (t := 100) h1 rfl) hF (fun v2 hF => ?_)
      refine Ev_p 0 (c' := (23, [some (.ref a0), some (.ref a1), some (.int x2)], [.int v2, .int x2, .ref a1, .ref a0])) rfl ?_
      refine Ez_cv (M := zM79) (As := [.ref a0, .ref a1, .int x2, .int v2]) (st' := []) (am_site_v (y := 80) (k := 4) (ci := 2) rfl rfl (zrcv rfl h0 rfl)) (Nat.le_of_ble_eq_true rfl) (Nat.le_of_ble_eq_true rfl) rfl rfl (fun _ hF => zf80_ok hK h0 h1 hF) hF (fun s4 hF => ?_)
      refine Ev_p 2 (c' := (6, [some (.ref a0), some (.ref a1), some (.int (x2 + 1))], [])) rfl ?_
      exact ih hF
noncomputable def zf79 (a0 : Nat) (a1 : Nat) (s : zS) : Option (zS) :=
  zbv (zf71 a0 s) fun s2 =>
  zf79_6 a0 a1 zfz 0 s2
theorem zf79_ok {K : cx_K} (hK : Kok K) {lg : Nat → Int64} {s' : zS} {a0 : Nat} {a1 : Nat} (h0 : zsh a0 = 2) (h1 : zsh a1 = 2)  {s : zS} (hF : zf79 a0 a1 s = some s') : Ct K 79 [.ref a0, .ref a1] (zmk lg s) (.inl none) (zmk lg s') 0 := by
  unfold zf79 at hF
  refine Ct_of hK nd_ok79 (mL := 3) (rt := none) rfl rfl (Nat.le_of_ble_eq_true rfl) zlen_le ?_
  refine Ev_p 1 (c' := (1, [some (.ref a0), some (.ref a1), none], [.ref a0])) rfl ?_
  refine Ez_cv (M := zM79) (As := [.ref a0]) (st' := []) (am_site_v (y := 71) (k := 1) (ci := 2) rfl rfl (zrcv rfl h0 rfl)) (Nat.le_of_ble_eq_true rfl) (Nat.le_of_ble_eq_true rfl) rfl rfl (fun _ hF => zf71_ok hK h0 hF) hF (fun s2 hF => ?_)
  refine Ev_p 2 (c' := (6, [some (.ref a0), some (.ref a1), some (.int 0)], [])) rfl ?_
  exact zf79_6_ok hK h0 h1 hF
-- PaperParcels$Script.drop()V
abbrev zM81 : ev_M := (am_in nd_i81, am_fl nd_f8, am_ct nd_k8, am_sl nd_ml nd_s81, fun _ => none, none)
noncomputable def zf81 (a0 : Nat) (s : zS) : Option (zS) :=
  zpb s a0 0 0 fun s1 =>
  zpf s1 a0 1 0 fun s2 =>
  some s2
theorem zf81_ok {K : cx_K} (hK : Kok K) {lg : Nat → Int64} {s' : zS} {a0 : Nat} (h0 : zsh a0 = 8)  {s : zS} (hF : zf81 a0 s = some s') : Ct K 81 [.ref a0] (zmk lg s) (.inl none) (zmk lg s') 0 := by
  unfold zf81 at hF
  refine Ct_of hK nd_ok81 (mL := 1) (rt := none) rfl rfl (Nat.le_of_ble_eq_true rfl) zlen_le ?_
  refine Ev_p 2 (c' := (2, [some (.ref a0)], [.int 0, .ref a0])) rfl ?_
  refine Ez_pb (M := zM81) (ci := 8) (f := 0) rfl rfl h0 rfl hF (fun s1 hF => ?_)
  refine Ev_p 2 (c' := (7, [some (.ref a0)], [.int 0, .ref a0])) rfl ?_
  refine Ez_pf (M := zM81) (ci := 8) (f := 1) rfl rfl h0 rfl hF (fun s2 hF => ?_)
  refine Ev_p 0 (c' := (10, [some (.ref a0)], [])) rfl ?_
  exact Ez_rv (M := zM81) rfl rfl hF
-- PaperParcels.read(I)I
abbrev zM21 : ev_M := (am_in nd_i21, am_fl nd_f0, am_ct nd_k0, am_sl nd_ml nd_s21, nx_exc, some .int)
noncomputable def zf21_17 (a0 : Nat)  (x1 : Int32) (s : zS) : Option (am_O × zS × Nat) :=
  zbi (zf26 (zrf a0 2) (zrf a0 0) s) fun v1 s2 =>
  if ¬ v1 = 0 then
    some (.inl (some (.int v1)), s2, 0)
  else
    zar (zrf a0 1) x1 fun q3 =>
    zbv (zf79 q3 (zrf (zrf a0 2) 0) s2) fun s5 =>
    zbv (zf81 (zrf a0 3) s5) fun s7 =>
    some (.inl (some (.int v1)), s7, 0)
theorem zf21_17_ok {K : cx_K} (hK : Kok K) {lg : Nat → Int64} {o : am_O} {g' : Nat} {s' : zS} {a0 : Nat} (h0 : zsh a0 = 0)   {x1 : Int32}  {s : zS} (hF : zf21_17 a0 x1 s = some (o, s', g')) : Ev K zM21 (17, [some (.ref a0), some (.int x1), none], [], zmk lg s) 0 (o) (zmk lg s') g' := by
  unfold zf21_17 at hF
  refine Ev_p 1 (c' := (18, [some (.ref a0), some (.int x1), none], [.ref a0])) rfl ?_
  refine Ez_gr (M := zM21) (ci := 0) (f := 2) (t := 3) rfl rfl h0 rfl ?_
  refine Ev_p 1 (c' := (22, [some (.ref a0), some (.int x1), none], [.ref a0, .ref (zrf a0 2)])) rfl ?_
  refine Ez_gr (M := zM21) (ci := 0) (f := 0) (t := 1) rfl rfl h0 rfl ?_
  refine Ev_p 0 (c' := (25, [some (.ref a0), some (.int x1), none], [.ref (zrf a0 0), .ref (zrf a0 2)])) rfl ?_
  refine Ez_ci (M := zM21) (As := [.ref (zrf a0 2), .ref (zrf a0 0)]) (st' := []) (am_site_v (y := 26) (k := 2) (ci := 3) rfl rfl (zrcv rfl (zty (ci := 0) (f := 2) (t := 3) h0 rfl) rfl)) (Nat.le_of_ble_eq_true rfl) (Nat.le_of_ble_eq_true rfl) rfl rfl (fun _ _ hF => zf26_ok hK (zty (ci := 0) (f := 2) (t := 3) h0 rfl) (zty (ci := 0) (f := 0) (t := 1) h0 rfl) hF) hF (fun v1 s2 hF => ?_)
  refine Ev_p 2 (c' := (30, [some (.ref a0), some (.int x1), some (.int v1)], [.int v1])) rfl ?_
  refine Ez_if (M := zM21) (b := ¬ v1 = 0) rfl rfl hF (fun _ hF => ?_) (fun _ hF => ?_)
  · refine Ev_p 1 (c' := (57, [some (.ref a0), some (.int x1), some (.int v1)], [.int v1])) rfl ?_
    exact Ez_xri (M := zM21) rfl rfl hF
  · refine Ev_p 1 (c' := (34, [some (.ref a0), some (.int x1), some (.int v1)], [.ref a0])) rfl ?_
    refine Ez_gr (M := zM21) (ci := 0) (f := 1) (t := 103) rfl rfl h0 rfl ?_
    refine Ev_p 1 (c' := (38, [some (.ref a0), some (.int x1), some (.int v1)], [.int x1, .ref (zrf a0 1)])) rfl ?_
    refine Ez_ar3 (M := zM21) rfl (zty (ci := 0) (f := 1) (t := 103) h0 rfl) hF (fun q3 hq3 hF => ?_)
    refine Ev_p 1 (c' := (40, [some (.ref a0), some (.int x1), some (.int v1)], [.ref a0, .ref q3])) rfl ?_
    refine Ez_gr (M := zM21) (ci := 0) (f := 2) (t := 3) rfl rfl h0 rfl ?_
    refine Ev_p 0 (c' := (43, [some (.ref a0), some (.int x1), some (.int v1)], [.ref (zrf a0 2), .ref q3])) rfl ?_
    refine Ez_gr (M := zM21) (ci := 3) (f := 0) (t := 2) rfl rfl (zty (ci := 0) (f := 2) (t := 3) h0 rfl) rfl ?_
    refine Ev_p 0 (c' := (46, [some (.ref a0), some (.int x1), some (.int v1)], [.ref (zrf (zrf a0 2) 0), .ref q3])) rfl ?_
    refine Ez_cv (M := zM21) (As := [.ref q3, .ref (zrf (zrf a0 2) 0)]) (st' := []) (am_site_v (y := 79) (k := 2) (ci := 2) rfl rfl (zrcv rfl hq3 rfl)) (Nat.le_of_ble_eq_true rfl) (Nat.le_of_ble_eq_true rfl) rfl rfl (fun _ hF => zf79_ok hK hq3 (zty (ci := 3) (f := 0) (t := 2) (zty (ci := 0) (f := 2) (t := 3) h0 rfl) rfl) hF) hF (fun s5 hF => ?_)
    refine Ev_p 1 (c' := (50, [some (.ref a0), some (.int x1), some (.int v1)], [.ref a0])) rfl ?_
    refine Ez_gr (M := zM21) (ci := 0) (f := 3) (t := 8) rfl rfl h0 rfl ?_
    refine Ev_p 0 (c' := (53, [some (.ref a0), some (.int x1), some (.int v1)], [.ref (zrf a0 3)])) rfl ?_
    refine Ez_cv (M := zM21) (As := [.ref (zrf a0 3)]) (st' := []) (am_site_v (y := 81) (k := 1) (ci := 8) rfl rfl (zrcv rfl (zty (ci := 0) (f := 3) (t := 8) h0 rfl) rfl)) (Nat.le_of_ble_eq_true rfl) (Nat.le_of_ble_eq_true rfl) rfl rfl (fun _ hF => zf81_ok hK (zty (ci := 0) (f := 3) (t := 8) h0 rfl) hF) hF (fun s7 hF => ?_)
    refine Ev_p 1 (c' := (57, [some (.ref a0), some (.int x1), some (.int v1)], [.int v1])) rfl ?_
    exact Ez_xri (M := zM21) rfl rfl hF
noncomputable def zf21 (a0 : Nat) (x1 : Int32) (s : zS) : Option (am_O × zS × Nat) :=
  if x1 = 0 then
    zf21_17 a0 x1 s
  else
    if x1 = 1 then
      zf21_17 a0 x1 s
    else
      some (.inr (hx_E 0), s, 1)
theorem zf21_ok {K : cx_K} (hK : Kok K) {lg : Nat → Int64} {o : am_O} {g' : Nat} {s' : zS} {a0 : Nat} (h0 : zsh a0 = 0) {x1 : Int32} {s : zS} (hF : zf21 a0 x1 s = some (o, s', g')) : Ct K 21 [.ref a0, .int x1] (zmk lg s) (o) (zmk lg s') g' := by
  unfold zf21 at hF
  refine Ct_ofX hK nd_ok21 (exc := nx_exc) (nx_Xw (Nat.le_of_ble_eq_true rfl) (Nat.le_of_ble_eq_true rfl)) (mL := 3) (rt := some .int) rfl rfl (Nat.le_of_ble_eq_true rfl) zlen_le ?_
  refine Ev_p 1 (c' := (1, [some (.ref a0), some (.int x1), none], [.int x1])) rfl ?_
  refine Ez_if (M := zM21) (b := x1 = 0) rfl rfl hF (fun _ hF => ?_) (fun _ hF => ?_)
  · refine Ev_p 0 (c' := (17, [some (.ref a0), some (.int x1), none], [])) rfl ?_
    exact zf21_17_ok hK h0 hF
  · refine Ev_p 2 (c' := (6, [some (.ref a0), some (.int x1), none], [.int 1, .int x1])) rfl ?_
    refine Ez_if (M := zM21) (b := x1 = 1) rfl rfl hF (fun _ hF => ?_) (fun _ hF => ?_)
    · refine Ev_p 0 (c' := (17, [some (.ref a0), some (.int x1), none], [])) rfl ?_
      exact zf21_17_ok hK h0 hF
    · refine Ev_p 0 (c' := (9, [some (.ref a0), some (.int x1), none], [])) rfl ?_
      exact Ez_thr (M := zM21) rfl hF
-- PaperParcels.inSlot(I)LPaperParcels$Paper;
abbrev zM83 : ev_M := (am_in nd_i83, am_fl nd_f0, am_ct nd_k0, am_sl nd_ml nd_s83, nx_exc, some (.object "PaperParcels$Paper"))
noncomputable def zf83 (a0 : Nat) (x1 : Int32) (s : zS) : Option (am_O × zS × Nat) :=
  if x1 < 0 then
    some (.inr (hx_E 0), s, 1)
  else
    if x1 < 3 then
      zar (zrf a0 1) x1 fun q1 =>
      some (.inl (some (.ref q1)), s, 0)
    else
      some (.inr (hx_E 0), s, 1)
theorem zf83_ok {K : cx_K} (hK : Kok K) {lg : Nat → Int64} {o : am_O} {g' : Nat} {s' : zS} {a0 : Nat} (h0 : zsh a0 = 0) {x1 : Int32} {s : zS} (hF : zf83 a0 x1 s = some (o, s', g')) : Ct K 83 [.ref a0, .int x1] (zmk lg s) (o) (zmk lg s') g' := by
  unfold zf83 at hF
  refine Ct_ofX hK nd_ok83 (exc := nx_exc) (nx_Xw (Nat.le_of_ble_eq_true rfl) (Nat.le_of_ble_eq_true rfl)) (mL := 2) (rt := some (.object "PaperParcels$Paper")) rfl rfl (Nat.le_of_ble_eq_true rfl) zlen_le ?_
  refine Ev_p 1 (c' := (1, [some (.ref a0), some (.int x1)], [.int x1])) rfl ?_
  refine Ez_if (M := zM83) (b := x1 < 0) rfl rfl hF (fun _ hF => ?_) (fun _ hF => ?_)
  · refine Ev_p 0 (c' := (9, [some (.ref a0), some (.int x1)], [])) rfl ?_
    exact Ez_thr (M := zM83) rfl hF
  · refine Ev_p 2 (c' := (6, [some (.ref a0), some (.int x1)], [.int 3, .int x1])) rfl ?_
    refine Ez_if (M := zM83) (b := x1 < 3) rfl rfl hF (fun _ hF => ?_) (fun _ hF => ?_)
    · refine Ev_p 1 (c' := (18, [some (.ref a0), some (.int x1)], [.ref a0])) rfl ?_
      refine Ez_gr (M := zM83) (ci := 0) (f := 1) (t := 103) rfl rfl h0 rfl ?_
      refine Ev_p 1 (c' := (22, [some (.ref a0), some (.int x1)], [.int x1, .ref (zrf a0 1)])) rfl ?_
      refine Ez_ar3 (M := zM83) rfl (zty (ci := 0) (f := 1) (t := 103) h0 rfl) hF (fun q1 hq1 hF => ?_)
      refine Ev_p 0 (c' := (23, [some (.ref a0), some (.int x1)], [.ref q1])) rfl ?_
      exact Ez_xrr (M := zM83) (n := "PaperParcels$Paper") rfl rfl hF
    · refine Ev_p 0 (c' := (9, [some (.ref a0), some (.int x1)], [])) rfl ?_
      exact Ez_thr (M := zM83) rfl hF
-- PaperParcels.nodes(I)I
abbrev zM82 : ev_M := (am_in nd_i82, am_fl nd_f0, am_ct nd_k0, am_sl nd_ml nd_s82, fun _ => none, some .int)
noncomputable def zf82 (a0 : Nat) (x1 : Int32) (s : zS) : Option (am_O × zS × Nat) :=
  zxr 2 (zf83 a0 x1 s) fun q3 s2 =>
  zgf s2 q3 6 fun v4 =>
  some (.inl (some (.int v4)), s2, 0)
theorem zf82_ok {K : cx_K} (hK : Kok K) {lg : Nat → Int64} {o : am_O} {g' : Nat} {s' : zS} {a0 : Nat} (h0 : zsh a0 = 0) {x1 : Int32} {s : zS} (hF : zf82 a0 x1 s = some (o, s', g')) : Ct K 82 [.ref a0, .int x1] (zmk lg s) (o) (zmk lg s') g' := by
  unfold zf82 at hF
  refine Ct_of hK nd_ok82 (mL := 2) (rt := some .int) rfl rfl (Nat.le_of_ble_eq_true rfl) zlen_le ?_
  refine Ev_p 2 (c' := (2, [some (.ref a0), some (.int x1)], [.int x1, .ref a0])) rfl ?_
  refine Ez_xr (M := zM82) (As := [.ref a0, .int x1]) (st' := []) (am_site_v (y := 83) (k := 2) (ci := 0) rfl rfl (zrcv rfl h0 rfl)) (Nat.le_of_ble_eq_true rfl) (Nat.le_of_ble_eq_true rfl) rfl rfl (fun _ _ _ hF => zf83_ok hK h0 hF) hF (fun q3 s2 hq3 hF => ?_)
  refine Ev_p 0 (c' := (5, [some (.ref a0), some (.int x1)], [.ref q3])) rfl ?_
  refine Ez_gf (M := zM82) (ci := 2) (f := 6) rfl rfl hq3 rfl hF (fun v4 hF => ?_)
  refine Ev_p 0 (c' := (8, [some (.ref a0), some (.int x1)], [.int v4])) rfl ?_
  exact Ez_xri (M := zM82) rfl rfl hF
-- PaperParcels.withNode(LPaperParcels$Paper;I)LPaperParcels$Paper;
abbrev zM85 : ev_M := (am_in nd_i85, am_fl nd_f0, am_ct nd_k0, am_sl nd_ml nd_s85, nx_exc, some (.object "PaperParcels$Paper"))
noncomputable def zf85 (a0 : Nat) (x1 : Int32) (s : zS) : Option (am_O × zS × Nat) :=
  if x1 < 0 then
    some (.inr (hx_E 1), s, 1)
  else
    zgf s a0 6 fun v1 =>
    if x1 < v1 then
      some (.inl (some (.ref a0)), s, 0)
    else
      some (.inr (hx_E 1), s, 1)
theorem zf85_ok {K : cx_K} (hK : Kok K) {lg : Nat → Int64} {o : am_O} {g' : Nat} {s' : zS} {a0 : Nat} (h0 : zsh a0 = 2) {x1 : Int32} {s : zS} (hF : zf85 a0 x1 s = some (o, s', g')) : Ct K 85 [.ref a0, .int x1] (zmk lg s) (o) (zmk lg s') g' := by
  unfold zf85 at hF
  refine Ct_ofX hK nd_ok85 (exc := nx_exc) (nx_Xw (Nat.le_of_ble_eq_true rfl) (Nat.le_of_ble_eq_true rfl)) (mL := 2) (rt := some (.object "PaperParcels$Paper")) rfl rfl (Nat.le_of_ble_eq_true rfl) zlen_le ?_
  refine Ev_p 1 (c' := (1, [some (.ref a0), some (.int x1)], [.int x1])) rfl ?_
  refine Ez_if (M := zM85) (b := x1 < 0) rfl rfl hF (fun _ hF => ?_) (fun _ hF => ?_)
  · refine Ev_p 0 (c' := (12, [some (.ref a0), some (.int x1)], [])) rfl ?_
    exact Ez_thr (M := zM85) rfl hF
  · refine Ev_p 2 (c' := (6, [some (.ref a0), some (.int x1)], [.ref a0, .int x1])) rfl ?_
    refine Ez_gf (M := zM85) (ci := 2) (f := 6) rfl rfl h0 rfl hF (fun v1 hF => ?_)
    refine Ev_p 0 (c' := (9, [some (.ref a0), some (.int x1)], [.int v1, .int x1])) rfl ?_
    refine Ez_if (M := zM85) (b := x1 < v1) rfl rfl hF (fun _ hF => ?_) (fun _ hF => ?_)
    · refine Ev_p 1 (c' := (21, [some (.ref a0), some (.int x1)], [.ref a0])) rfl ?_
      exact Ez_xrr (M := zM85) (n := "PaperParcels$Paper") rfl rfl hF
    · refine Ev_p 0 (c' := (12, [some (.ref a0), some (.int x1)], [])) rfl ?_
      exact Ez_thr (M := zM85) rfl hF
-- PaperParcels.kind(II)I
abbrev zM84 : ev_M := (am_in nd_i84, am_fl nd_f0, am_ct nd_k0, am_sl nd_ml nd_s84, fun _ => none, some .int)
noncomputable def zf84 (a0 : Nat) (x1 : Int32) (x2 : Int32) (s : zS) : Option (am_O × zS × Nat) :=
  zxr 2 (zf83 a0 x1 s) fun q3 s2 =>
  zxr 2 (zf85 q3 x2 s2) fun q6 s5 =>
  zal s5 (zrf q6 0) x2 fun v7 =>
  some (.inl (some (.int v7)), s5, 0)
theorem zf84_ok {K : cx_K} (hK : Kok K) {lg : Nat → Int64} {o : am_O} {g' : Nat} {s' : zS} {a0 : Nat} (h0 : zsh a0 = 0) {x1 : Int32} {x2 : Int32} {s : zS} (hF : zf84 a0 x1 x2 s = some (o, s', g')) : Ct K 84 [.ref a0, .int x1, .int x2] (zmk lg s) (o) (zmk lg s') g' := by
  unfold zf84 at hF
  refine Ct_of hK nd_ok84 (mL := 3) (rt := some .int) rfl rfl (Nat.le_of_ble_eq_true rfl) zlen_le ?_
  refine Ev_p 2 (c' := (2, [some (.ref a0), some (.int x1), some (.int x2)], [.int x1, .ref a0])) rfl ?_
  refine Ez_xr (M := zM84) (As := [.ref a0, .int x1]) (st' := []) (am_site_v (y := 83) (k := 2) (ci := 0) rfl rfl (zrcv rfl h0 rfl)) (Nat.le_of_ble_eq_true rfl) (Nat.le_of_ble_eq_true rfl) rfl rfl (fun _ _ _ hF => zf83_ok hK h0 hF) hF (fun q3 s2 hq3 hF => ?_)
  refine Ev_p 1 (c' := (6, [some (.ref a0), some (.int x1), some (.int x2)], [.int x2, .ref q3])) rfl ?_
  refine Ez_xr (M := zM84) (As := [.ref q3, .int x2]) (st' := []) (zsite_0 (y := 85) (k := 2) (ci := 0) rfl rfl) (Nat.le_of_ble_eq_true rfl) (Nat.le_of_ble_eq_true rfl) rfl rfl (fun _ _ _ hF => zf85_ok hK hq3 hF) hF (fun q6 s5 hq6 hF => ?_)
  refine Ev_p 0 (c' := (9, [some (.ref a0), some (.int x1), some (.int x2)], [.ref q6])) rfl ?_
  refine Ez_gr (M := zM84) (ci := 2) (f := 0) (t := 100) rfl rfl hq6 rfl ?_
  refine Ev_p 1 (c' := (13, [some (.ref a0), some (.int x1), some (.int x2)], [.int x2, .ref (zrf q6 0)])) rfl ?_
  refine Ez_al (M := zM84) rfl (zty (ci := 2) (f := 0) (t := 100) hq6 rfl) hF (fun v7 hF => ?_)
  refine Ev_p 0 (c' := (14, [some (.ref a0), some (.int x1), some (.int x2)], [.int v7])) rfl ?_
  exact Ez_xri (M := zM84) rfl rfl hF
-- PaperParcels.above(II)I
abbrev zM87 : ev_M := (am_in nd_i87, am_fl nd_f0, am_ct nd_k0, am_sl nd_ml nd_s87, fun _ => none, some .int)
noncomputable def zf87 (a0 : Nat) (x1 : Int32) (x2 : Int32) (s : zS) : Option (am_O × zS × Nat) :=
  zxr 2 (zf83 a0 x1 s) fun q3 s2 =>
  zxr 2 (zf85 q3 x2 s2) fun q6 s5 =>
  zal s5 (zrf q6 1) x2 fun v7 =>
  some (.inl (some (.int v7)), s5, 0)
theorem zf87_ok {K : cx_K} (hK : Kok K) {lg : Nat → Int64} {o : am_O} {g' : Nat} {s' : zS} {a0 : Nat} (h0 : zsh a0 = 0) {x1 : Int32} {x2 : Int32} {s : zS} (hF : zf87 a0 x1 x2 s = some (o, s', g')) : Ct K 87 [.ref a0, .int x1, .int x2] (zmk lg s) (o) (zmk lg s') g' := by
  unfold zf87 at hF
  refine Ct_of hK nd_ok87 (mL := 3) (rt := some .int) rfl rfl (Nat.le_of_ble_eq_true rfl) zlen_le ?_
  refine Ev_p 2 (c' := (2, [some (.ref a0), some (.int x1), some (.int x2)], [.int x1, .ref a0])) rfl ?_
  refine Ez_xr (M := zM87) (As := [.ref a0, .int x1]) (st' := []) (am_site_v (y := 83) (k := 2) (ci := 0) rfl rfl (zrcv rfl h0 rfl)) (Nat.le_of_ble_eq_true rfl) (Nat.le_of_ble_eq_true rfl) rfl rfl (fun _ _ _ hF => zf83_ok hK h0 hF) hF (fun q3 s2 hq3 hF => ?_)
  refine Ev_p 1 (c' := (6, [some (.ref a0), some (.int x1), some (.int x2)], [.int x2, .ref q3])) rfl ?_
  refine Ez_xr (M := zM87) (As := [.ref q3, .int x2]) (st' := []) (zsite_0 (y := 85) (k := 2) (ci := 0) rfl rfl) (Nat.le_of_ble_eq_true rfl) (Nat.le_of_ble_eq_true rfl) rfl rfl (fun _ _ _ hF => zf85_ok hK hq3 hF) hF (fun q6 s5 hq6 hF => ?_)
  refine Ev_p 0 (c' := (9, [some (.ref a0), some (.int x1), some (.int x2)], [.ref q6])) rfl ?_
  refine Ez_gr (M := zM87) (ci := 2) (f := 1) (t := 100) rfl rfl hq6 rfl ?_
  refine Ev_p 1 (c' := (13, [some (.ref a0), some (.int x1), some (.int x2)], [.int x2, .ref (zrf q6 1)])) rfl ?_
  refine Ez_al (M := zM87) rfl (zty (ci := 2) (f := 1) (t := 100) hq6 rfl) hF (fun v7 hF => ?_)
  refine Ev_p 0 (c' := (14, [some (.ref a0), some (.int x1), some (.int x2)], [.int v7])) rfl ?_
  exact Ez_xri (M := zM87) rfl rfl hF
-- PaperParcels.look(III)I
abbrev zM88 : ev_M := (am_in nd_i88, am_fl nd_f0, am_ct nd_k0, am_sl nd_ml nd_s88, nx_exc, some .int)
noncomputable def zf88 (a0 : Nat) (x1 : Int32) (x2 : Int32) (x3 : Int32) (s : zS) : Option (am_O × zS × Nat) :=
  zxr 2 (zf83 a0 x1 s) fun q3 s2 =>
  if x3 < 0 then
    some (.inr (hx_E 0), s2, 1)
  else
    if x3 ≤ 2 then
      zxr 2 (zf85 q3 x2 s2) fun q6 s5 =>
      zal s5 (zrf q6 2) x2 fun v7 =>
      if ¬ v7 = (-1) then
        zbi (zf74 v7 x3 s5) fun v8 s9 =>
        some (.inl (some (.int v8)), s9, 0)
      else
        some (.inl (some (.int (-1))), s5, 0)
    else
      some (.inr (hx_E 0), s2, 1)
theorem zf88_ok {K : cx_K} (hK : Kok K) {lg : Nat → Int64} {o : am_O} {g' : Nat} {s' : zS} {a0 : Nat} (h0 : zsh a0 = 0) {x1 : Int32} {x2 : Int32} {x3 : Int32} {s : zS} (hF : zf88 a0 x1 x2 x3 s = some (o, s', g')) : Ct K 88 [.ref a0, .int x1, .int x2, .int x3] (zmk lg s) (o) (zmk lg s') g' := by
  unfold zf88 at hF
  refine Ct_ofX hK nd_ok88 (exc := nx_exc) (nx_Xw (Nat.le_of_ble_eq_true rfl) (Nat.le_of_ble_eq_true rfl)) (mL := 6) (rt := some .int) rfl rfl (Nat.le_of_ble_eq_true rfl) zlen_le ?_
  refine Ev_p 2 (c' := (2, [some (.ref a0), some (.int x1), some (.int x2), some (.int x3), none, none], [.int x1, .ref a0])) rfl ?_
  refine Ez_xr (M := zM88) (As := [.ref a0, .int x1]) (st' := []) (am_site_v (y := 83) (k := 2) (ci := 0) rfl rfl (zrcv rfl h0 rfl)) (Nat.le_of_ble_eq_true rfl) (Nat.le_of_ble_eq_true rfl) rfl rfl (fun _ _ _ hF => zf83_ok hK h0 hF) hF (fun q3 s2 hq3 hF => ?_)
  refine Ev_p 2 (c' := (8, [some (.ref a0), some (.int x1), some (.int x2), some (.int x3), some (.ref q3), none], [.int x3])) rfl ?_
  refine Ez_if (M := zM88) (b := x3 < 0) rfl rfl hF (fun _ hF => ?_) (fun _ hF => ?_)
  · refine Ev_p 0 (c' := (16, [some (.ref a0), some (.int x1), some (.int x2), some (.int x3), some (.ref q3), none], [])) rfl ?_
    exact Ez_thr (M := zM88) rfl hF
  · refine Ev_p 2 (c' := (13, [some (.ref a0), some (.int x1), some (.int x2), some (.int x3), some (.ref q3), none], [.int 2, .int x3])) rfl ?_
    refine Ez_if (M := zM88) (b := x3 ≤ 2) rfl rfl hF (fun _ hF => ?_) (fun _ hF => ?_)
    · refine Ev_p 2 (c' := (27, [some (.ref a0), some (.int x1), some (.int x2), some (.int x3), some (.ref q3), none], [.int x2, .ref q3])) rfl ?_
      refine Ez_xr (M := zM88) (As := [.ref q3, .int x2]) (st' := []) (zsite_0 (y := 85) (k := 2) (ci := 0) rfl rfl) (Nat.le_of_ble_eq_true rfl) (Nat.le_of_ble_eq_true rfl) rfl rfl (fun _ _ _ hF => zf85_ok hK hq3 hF) hF (fun q6 s5 hq6 hF => ?_)
      refine Ev_p 0 (c' := (30, [some (.ref a0), some (.int x1), some (.int x2), some (.int x3), some (.ref q3), none], [.ref q6])) rfl ?_
      refine Ez_gr (M := zM88) (ci := 2) (f := 2) (t := 100) rfl rfl hq6 rfl ?_
      refine Ev_p 1 (c' := (34, [some (.ref a0), some (.int x1), some (.int x2), some (.int x3), some (.ref q3), none], [.int x2, .ref (zrf q6 2)])) rfl ?_
      refine Ez_al (M := zM88) rfl (zty (ci := 2) (f := 2) (t := 100) hq6 rfl) hF (fun v7 hF => ?_)
      refine Ev_p 3 (c' := (40, [some (.ref a0), some (.int x1), some (.int x2), some (.int x3), some (.ref q3), some (.int v7)], [.int (-1), .int v7])) rfl ?_
      refine Ez_if (M := zM88) (b := ¬ v7 = (-1)) rfl rfl hF (fun _ hF => ?_) (fun _ hF => ?_)
      · refine Ev_p 2 (c' := (50, [some (.ref a0), some (.int x1), some (.int x2), some (.int x3), some (.ref q3), some (.int v7)], [.int x3, .int v7])) rfl ?_
        refine Ez_ci (M := zM88) (As := [.int v7, .int x3]) (st' := []) (zsite_0 (y := 74) (k := 2) (ci := 0) rfl rfl) (Nat.le_of_ble_eq_true rfl) (Nat.le_of_ble_eq_true rfl) rfl rfl (fun _ _ hF => zf74_ok hK  hF) hF (fun v8 s9 hF => ?_)
        refine Ev_p 0 (c' := (53, [some (.ref a0), some (.int x1), some (.int x2), some (.int x3), some (.ref q3), some (.int v7)], [.int v8])) rfl ?_
        exact Ez_xri (M := zM88) rfl rfl hF
      · refine Ev_p 2 (c' := (53, [some (.ref a0), some (.int x1), some (.int x2), some (.int x3), some (.ref q3), some (.int v7)], [.int (-1)])) rfl ?_
        exact Ez_xri (M := zM88) rfl rfl hF
    · refine Ev_p 0 (c' := (16, [some (.ref a0), some (.int x1), some (.int x2), some (.int x3), some (.ref q3), none], [])) rfl ?_
      exact Ez_thr (M := zM88) rfl hF
-- PaperParcels.letters(II)I
abbrev zM89 : ev_M := (am_in nd_i89, am_fl nd_f0, am_ct nd_k0, am_sl nd_ml nd_s89, fun _ => none, some .int)
noncomputable def zf89 (a0 : Nat) (x1 : Int32) (x2 : Int32) (s : zS) : Option (am_O × zS × Nat) :=
  zxr 2 (zf83 a0 x1 s) fun q3 s2 =>
  zxr 2 (zf85 q3 x2 s2) fun q6 s5 =>
  zal s5 (zrf q6 4) x2 fun v7 =>
  some (.inl (some (.int v7)), s5, 0)
theorem zf89_ok {K : cx_K} (hK : Kok K) {lg : Nat → Int64} {o : am_O} {g' : Nat} {s' : zS} {a0 : Nat} (h0 : zsh a0 = 0) {x1 : Int32} {x2 : Int32} {s : zS} (hF : zf89 a0 x1 x2 s = some (o, s', g')) : Ct K 89 [.ref a0, .int x1, .int x2] (zmk lg s) (o) (zmk lg s') g' := by
  unfold zf89 at hF
  refine Ct_of hK nd_ok89 (mL := 3) (rt := some .int) rfl rfl (Nat.le_of_ble_eq_true rfl) zlen_le ?_
  refine Ev_p 2 (c' := (2, [some (.ref a0), some (.int x1), some (.int x2)], [.int x1, .ref a0])) rfl ?_
  refine Ez_xr (M := zM89) (As := [.ref a0, .int x1]) (st' := []) (am_site_v (y := 83) (k := 2) (ci := 0) rfl rfl (zrcv rfl h0 rfl)) (Nat.le_of_ble_eq_true rfl) (Nat.le_of_ble_eq_true rfl) rfl rfl (fun _ _ _ hF => zf83_ok hK h0 hF) hF (fun q3 s2 hq3 hF => ?_)
  refine Ev_p 1 (c' := (6, [some (.ref a0), some (.int x1), some (.int x2)], [.int x2, .ref q3])) rfl ?_
  refine Ez_xr (M := zM89) (As := [.ref q3, .int x2]) (st' := []) (zsite_0 (y := 85) (k := 2) (ci := 0) rfl rfl) (Nat.le_of_ble_eq_true rfl) (Nat.le_of_ble_eq_true rfl) rfl rfl (fun _ _ _ hF => zf85_ok hK hq3 hF) hF (fun q6 s5 hq6 hF => ?_)
  refine Ev_p 0 (c' := (9, [some (.ref a0), some (.int x1), some (.int x2)], [.ref q6])) rfl ?_
  refine Ez_gr (M := zM89) (ci := 2) (f := 4) (t := 100) rfl rfl hq6 rfl ?_
  refine Ev_p 1 (c' := (13, [some (.ref a0), some (.int x1), some (.int x2)], [.int x2, .ref (zrf q6 4)])) rfl ?_
  refine Ez_al (M := zM89) rfl (zty (ci := 2) (f := 4) (t := 100) hq6 rfl) hF (fun v7 hF => ?_)
  refine Ev_p 0 (c' := (14, [some (.ref a0), some (.int x1), some (.int x2)], [.int v7])) rfl ?_
  exact Ez_xri (M := zM89) rfl rfl hF
-- PaperParcels$Paper.signAt(II)I
abbrev zM91 : ev_M := (am_in nd_i91, am_fl nd_f2, am_ct nd_k2, am_sl nd_ml nd_s91, fun _ => none, some .int)
noncomputable def zf91 (a0 : Nat) (x1 : Int32) (x2 : Int32) (s : zS) : Option (Int32 × zS) :=
  if x2 < 0 then
    some ((-1), s)
  else
    zal s (zrf a0 4) x1 fun v1 =>
    if v1 ≤ x2 then
      some ((-1), s)
    else
      zal s (zrf a0 3) x1 fun v2 =>
      zbi (zf18 (zrf a0 5) (v2 + x2) s) fun v3 s4 =>
      some (v3, s4)
theorem zf91_ok {K : cx_K} (hK : Kok K) {lg : Nat → Int64} {v : Int32} {s' : zS} {a0 : Nat} (h0 : zsh a0 = 2) {x1 : Int32} {x2 : Int32} {s : zS} (hF : zf91 a0 x1 x2 s = some (v, s')) : Ct K 91 [.ref a0, .int x1, .int x2] (zmk lg s) (.inl (some (.int v))) (zmk lg s') 0 := by
  unfold zf91 at hF
  refine Ct_of hK nd_ok91 (mL := 3) (rt := some .int) rfl rfl (Nat.le_of_ble_eq_true rfl) zlen_le ?_
  refine Ev_p 1 (c' := (1, [some (.ref a0), some (.int x1), some (.int x2)], [.int x2])) rfl ?_
  refine Ez_if (M := zM91) (b := x2 < 0) rfl rfl hF (fun _ hF => ?_) (fun _ hF => ?_)
  · refine Ev_p 1 (c' := (33, [some (.ref a0), some (.int x1), some (.int x2)], [.int (-1)])) rfl ?_
    exact Ez_ri (M := zM91) rfl rfl hF
  · refine Ev_p 2 (c' := (6, [some (.ref a0), some (.int x1), some (.int x2)], [.ref a0, .int x2])) rfl ?_
    refine Ez_gr (M := zM91) (ci := 2) (f := 4) (t := 100) rfl rfl h0 rfl ?_
    refine Ev_p 1 (c' := (10, [some (.ref a0), some (.int x1), some (.int x2)], [.int x1, .ref (zrf a0 4), .int x2])) rfl ?_
    refine Ez_al (M := zM91) rfl (zty (ci := 2) (f := 4) (t := 100) h0 rfl) hF (fun v1 hF => ?_)
    refine Ev_p 0 (c' := (11, [some (.ref a0), some (.int x1), some (.int x2)], [.int v1, .int x2])) rfl ?_
    refine Ez_if (M := zM91) (b := v1 ≤ x2) rfl rfl hF (fun _ hF => ?_) (fun _ hF => ?_)
    · refine Ev_p 1 (c' := (33, [some (.ref a0), some (.int x1), some (.int x2)], [.int (-1)])) rfl ?_
      exact Ez_ri (M := zM91) rfl rfl hF
    · refine Ev_p 1 (c' := (15, [some (.ref a0), some (.int x1), some (.int x2)], [.ref a0])) rfl ?_
      refine Ez_gr (M := zM91) (ci := 2) (f := 5) (t := 1) rfl rfl h0 rfl ?_
      refine Ev_p 1 (c' := (19, [some (.ref a0), some (.int x1), some (.int x2)], [.ref a0, .ref (zrf a0 5)])) rfl ?_
      refine Ez_gr (M := zM91) (ci := 2) (f := 3) (t := 100) rfl rfl h0 rfl ?_
      refine Ev_p 1 (c' := (23, [some (.ref a0), some (.int x1), some (.int x2)], [.int x1, .ref (zrf a0 3), .ref (zrf a0 5)])) rfl ?_
      refine Ez_al (M := zM91) rfl (zty (ci := 2) (f := 3) (t := 100) h0 rfl) hF (fun v2 hF => ?_)
      refine Ev_p 2 (c' := (26, [some (.ref a0), some (.int x1), some (.int x2)], [.int (v2 + x2), .ref (zrf a0 5)])) rfl ?_
      refine Ez_ci (M := zM91) (As := [.ref (zrf a0 5), .int (v2 + x2)]) (st' := []) (am_site_v (y := 18) (k := 2) (ci := 1) rfl rfl (zrcv rfl (zty (ci := 2) (f := 5) (t := 1) h0 rfl) rfl)) (Nat.le_of_ble_eq_true rfl) (Nat.le_of_ble_eq_true rfl) rfl rfl (fun _ _ hF => zf18_ok hK (zty (ci := 2) (f := 5) (t := 1) h0 rfl) hF) hF (fun v3 s4 hF => ?_)
      refine Ev_p 1 (c' := (33, [some (.ref a0), some (.int x1), some (.int x2)], [.int v3])) rfl ?_
      exact Ez_ri (M := zM91) rfl rfl hF
-- PaperParcels.letter(III)I
abbrev zM90 : ev_M := (am_in nd_i90, am_fl nd_f0, am_ct nd_k0, am_sl nd_ml nd_s90, fun _ => none, some .int)
noncomputable def zf90 (a0 : Nat) (x1 : Int32) (x2 : Int32) (x3 : Int32) (s : zS) : Option (am_O × zS × Nat) :=
  zxr 2 (zf83 a0 x1 s) fun q3 s2 =>
  zxr 2 (zf85 q3 x2 s2) fun q6 s5 =>
  zbi (zf91 q6 x2 x3 s5) fun v7 s8 =>
  some (.inl (some (.int v7)), s8, 0)
theorem zf90_ok {K : cx_K} (hK : Kok K) {lg : Nat → Int64} {o : am_O} {g' : Nat} {s' : zS} {a0 : Nat} (h0 : zsh a0 = 0) {x1 : Int32} {x2 : Int32} {x3 : Int32} {s : zS} (hF : zf90 a0 x1 x2 x3 s = some (o, s', g')) : Ct K 90 [.ref a0, .int x1, .int x2, .int x3] (zmk lg s) (o) (zmk lg s') g' := by
  unfold zf90 at hF
  refine Ct_of hK nd_ok90 (mL := 4) (rt := some .int) rfl rfl (Nat.le_of_ble_eq_true rfl) zlen_le ?_
  refine Ev_p 2 (c' := (2, [some (.ref a0), some (.int x1), some (.int x2), some (.int x3)], [.int x1, .ref a0])) rfl ?_
  refine Ez_xr (M := zM90) (As := [.ref a0, .int x1]) (st' := []) (am_site_v (y := 83) (k := 2) (ci := 0) rfl rfl (zrcv rfl h0 rfl)) (Nat.le_of_ble_eq_true rfl) (Nat.le_of_ble_eq_true rfl) rfl rfl (fun _ _ _ hF => zf83_ok hK h0 hF) hF (fun q3 s2 hq3 hF => ?_)
  refine Ev_p 1 (c' := (6, [some (.ref a0), some (.int x1), some (.int x2), some (.int x3)], [.int x2, .ref q3])) rfl ?_
  refine Ez_xr (M := zM90) (As := [.ref q3, .int x2]) (st' := []) (zsite_0 (y := 85) (k := 2) (ci := 0) rfl rfl) (Nat.le_of_ble_eq_true rfl) (Nat.le_of_ble_eq_true rfl) rfl rfl (fun _ _ _ hF => zf85_ok hK hq3 hF) hF (fun q6 s5 hq6 hF => ?_)
  refine Ev_p 2 (c' := (11, [some (.ref a0), some (.int x1), some (.int x2), some (.int x3)], [.int x3, .int x2, .ref q6])) rfl ?_
  refine Ez_ci (M := zM90) (As := [.ref q6, .int x2, .int x3]) (st' := []) (am_site_v (y := 91) (k := 3) (ci := 2) rfl rfl (zrcv rfl hq6 rfl)) (Nat.le_of_ble_eq_true rfl) (Nat.le_of_ble_eq_true rfl) rfl rfl (fun _ _ hF => zf91_ok hK hq6 hF) hF (fun v7 s8 hF => ?_)
  refine Ev_p 0 (c' := (14, [some (.ref a0), some (.int x1), some (.int x2), some (.int x3)], [.int v7])) rfl ?_
  exact Ez_xri (M := zM90) rfl rfl hF
-- PaperParcels$Tree.link()V
abbrev zM95 : ev_M := (am_in nd_i95, am_fl nd_f9, am_ct nd_k9, am_sl nd_ml nd_s95, fun _ => none, none)
noncomputable def zf95_123 (a0 : Nat) (k70 : Int32 → zS → Option (zS)) (x1 : Int32) (s : zS) : Option (zS) :=
  zal s (zrf a0 3) x1 fun v1 =>
  zal s (zrf a0 2) x1 fun v2 =>
  zal s (zrf a0 4) v2 fun v3 =>
  zas s (zrf a0 4) x1 (v1 + v3) fun s4 =>
  k70 (x1 + (-1)) s4
theorem zf95_123_ok {K : cx_K} (hK : Kok K) {lg : Nat → Int64} {s' : zS} {a0 : Nat} (h0 : zsh a0 = 9) {k70 : Int32 → zS → Option (zS)} (hk70 : ∀ x1 s, k70 x1 s = some s' → Ev K zM95 (70, [some (.ref a0), some (.int x1), none], [], zmk lg s) 0 (.inl none) (zmk lg s') 0) {x1 : Int32}  {s : zS} (hF : zf95_123 a0 k70 x1 s = some s') : Ev K zM95 (123, [some (.ref a0), some (.int x1), none], [], zmk lg s) 0 (.inl none) (zmk lg s') 0 := by
  unfold zf95_123 at hF
  refine Ev_p 1 (c' := (124, [some (.ref a0), some (.int x1), none], [.ref a0])) rfl ?_
  refine Ez_gr (M := zM95) (ci := 9) (f := 4) (t := 100) rfl rfl h0 rfl ?_
  refine Ev_p 2 (c' := (129, [some (.ref a0), some (.int x1), none], [.ref a0, .int x1, .ref (zrf a0 4)])) rfl ?_
  refine Ez_gr (M := zM95) (ci := 9) (f := 3) (t := 100) rfl rfl h0 rfl ?_
  refine Ev_p 1 (c' := (133, [some (.ref a0), some (.int x1), none], [.int x1, .ref (zrf a0 3), .int x1, .ref (zrf a0 4)])) rfl ?_
  refine Ez_al (M := zM95) rfl (zty (ci := 9) (f := 3) (t := 100) h0 rfl) hF (fun v1 hF => ?_)
  refine Ev_p 1 (c' := (135, [some (.ref a0), some (.int x1), none], [.ref a0, .int v1, .int x1, .ref (zrf a0 4)])) rfl ?_
  refine Ez_gr (M := zM95) (ci := 9) (f := 4) (t := 100) rfl rfl h0 rfl ?_
  refine Ev_p 1 (c' := (139, [some (.ref a0), some (.int x1), none], [.ref a0, .ref (zrf a0 4), .int v1, .int x1, .ref (zrf a0 4)])) rfl ?_
  refine Ez_gr (M := zM95) (ci := 9) (f := 2) (t := 100) rfl rfl h0 rfl ?_
  refine Ev_p 1 (c' := (143, [some (.ref a0), some (.int x1), none], [.int x1, .ref (zrf a0 2), .ref (zrf a0 4), .int v1, .int x1, .ref (zrf a0 4)])) rfl ?_
  refine Ez_al (M := zM95) rfl (zty (ci := 9) (f := 2) (t := 100) h0 rfl) hF (fun v2 hF => ?_)
  refine Ev_p 0 (c' := (144, [some (.ref a0), some (.int x1), none], [.int v2, .ref (zrf a0 4), .int v1, .int x1, .ref (zrf a0 4)])) rfl ?_
  refine Ez_al (M := zM95) rfl (zty (ci := 9) (f := 4) (t := 100) h0 rfl) hF (fun v3 hF => ?_)
  refine Ev_p 1 (c' := (146, [some (.ref a0), some (.int x1), none], [.int (v1 + v3), .int x1, .ref (zrf a0 4)])) rfl ?_
  refine Ez_as (M := zM95) rfl (zty (ci := 9) (f := 4) (t := 100) h0 rfl) hF (fun s4 hF => ?_)
  refine Ev_p 2 (c' := (70, [some (.ref a0), some (.int (x1 + (-1))), none], [])) rfl ?_
  exact hk70 _ _ hF
noncomputable def zf95_70 (a0 : Nat)  : Nat → Int32 → zS → Option (zS)
  | 0, _, _ => none
  | n + 1, x1, s =>
    if x1 < 0 then
      some s
    else
      zal s (zrf (zrf a0 0) 1) x1 fun v1 =>
      if v1 = (-1) then
        zf95_123 a0 (zf95_70 a0 n) x1 s
      else
        zal s (zrf a0 1) v1 fun v2 =>
        zas s (zrf a0 2) x1 v2 fun s3 =>
        zas s3 (zrf a0 1) v1 x1 fun s4 =>
        zal s4 (zrf a0 3) v1 fun v5 =>
        zal s4 (zrf a0 3) x1 fun v6 =>
        zas s4 (zrf a0 3) v1 (v5 + v6) fun s7 =>
        zf95_123 a0 (zf95_70 a0 n) x1 s7
theorem zf95_70_ok {K : cx_K} (hK : Kok K) {lg : Nat → Int64} {s' : zS} {a0 : Nat} (h0 : zsh a0 = 9)   {n : Nat} : ∀ {x1 : Int32} {s : zS}, zf95_70 a0 n x1 s = some s' → Ev K zM95 (70, [some (.ref a0), some (.int x1), none], [], zmk lg s) 0 (.inl none) (zmk lg s') 0 := by
  induction n with
  | zero => intro x1 s hF; rw [zf95_70] at hF; cases hF
  | succ n ih =>
    intro x1 s hF
    rw [zf95_70] at hF
    refine Ev_p 1 (c' := (71, [some (.ref a0), some (.int x1), none], [.int x1])) rfl ?_
    refine Ez_if (M := zM95) (b := x1 < 0) rfl rfl hF (fun _ hF => ?_) (fun _ hF => ?_)
    · refine Ev_p 0 (c' := (153, [some (.ref a0), some (.int x1), none], [])) rfl ?_
      exact Ez_rv (M := zM95) rfl rfl hF
    · refine Ev_p 1 (c' := (75, [some (.ref a0), some (.int x1), none], [.ref a0])) rfl ?_
      refine Ez_gr (M := zM95) (ci := 9) (f := 0) (t := 2) rfl rfl h0 rfl ?_
      refine Ev_p 0 (c' := (78, [some (.ref a0), some (.int x1), none], [.ref (zrf a0 0)])) rfl ?_
      refine Ez_gr (M := zM95) (ci := 2) (f := 1) (t := 100) rfl rfl (zty (ci := 9) (f := 0) (t := 2) h0 rfl) rfl ?_
      refine Ev_p 1 (c' := (82, [some (.ref a0), some (.int x1), none], [.int x1, .ref (zrf (zrf a0 0) 1)])) rfl ?_
      refine Ez_al (M := zM95) rfl (zty (ci := 2) (f := 1) (t := 100) (zty (ci := 9) (f := 0) (t := 2) h0 rfl) rfl) hF (fun v1 hF => ?_)
      refine Ev_p 3 (c' := (86, [some (.ref a0), some (.int x1), some (.int v1)], [.int (-1), .int v1])) rfl ?_
      refine Ez_if (M := zM95) (b := v1 = (-1)) rfl rfl hF (fun _ hF => ?_) (fun _ hF => ?_)
      · refine Ev_p 0 (c' := (123, [some (.ref a0), some (.int x1), some (.int v1)], [])) rfl ?_
        refine Ev_w (L' := [some (.ref a0), some (.int x1), none]) (zle_c (zle_c (zle_n zle_0))) ?_
        exact zf95_123_ok hK h0 (fun _ _ hF => ih hF) hF
      · refine Ev_p 1 (c' := (90, [some (.ref a0), some (.int x1), some (.int v1)], [.ref a0])) rfl ?_
        refine Ez_gr (M := zM95) (ci := 9) (f := 2) (t := 100) rfl rfl h0 rfl ?_
        refine Ev_p 2 (c' := (95, [some (.ref a0), some (.int x1), some (.int v1)], [.ref a0, .int x1, .ref (zrf a0 2)])) rfl ?_
        refine Ez_gr (M := zM95) (ci := 9) (f := 1) (t := 100) rfl rfl h0 rfl ?_
        refine Ev_p 1 (c' := (99, [some (.ref a0), some (.int x1), some (.int v1)], [.int v1, .ref (zrf a0 1), .int x1, .ref (zrf a0 2)])) rfl ?_
        refine Ez_al (M := zM95) rfl (zty (ci := 9) (f := 1) (t := 100) h0 rfl) hF (fun v2 hF => ?_)
        refine Ev_p 0 (c' := (100, [some (.ref a0), some (.int x1), some (.int v1)], [.int v2, .int x1, .ref (zrf a0 2)])) rfl ?_
        refine Ez_as (M := zM95) rfl (zty (ci := 9) (f := 2) (t := 100) h0 rfl) hF (fun s3 hF => ?_)
        refine Ev_p 1 (c' := (102, [some (.ref a0), some (.int x1), some (.int v1)], [.ref a0])) rfl ?_
        refine Ez_gr (M := zM95) (ci := 9) (f := 1) (t := 100) rfl rfl h0 rfl ?_
        refine Ev_p 2 (c' := (107, [some (.ref a0), some (.int x1), some (.int v1)], [.int x1, .int v1, .ref (zrf a0 1)])) rfl ?_
        refine Ez_as (M := zM95) rfl (zty (ci := 9) (f := 1) (t := 100) h0 rfl) hF (fun s4 hF => ?_)
        refine Ev_p 1 (c' := (109, [some (.ref a0), some (.int x1), some (.int v1)], [.ref a0])) rfl ?_
        refine Ez_gr (M := zM95) (ci := 9) (f := 3) (t := 100) rfl rfl h0 rfl ?_
        refine Ev_p 2 (c' := (114, [some (.ref a0), some (.int x1), some (.int v1)], [.int v1, .ref (zrf a0 3), .int v1, .ref (zrf a0 3)])) rfl ?_
        refine Ez_al (M := zM95) rfl (zty (ci := 9) (f := 3) (t := 100) h0 rfl) hF (fun v5 hF => ?_)
        refine Ev_p 1 (c' := (116, [some (.ref a0), some (.int x1), some (.int v1)], [.ref a0, .int v5, .int v1, .ref (zrf a0 3)])) rfl ?_
        refine Ez_gr (M := zM95) (ci := 9) (f := 3) (t := 100) rfl rfl h0 rfl ?_
        refine Ev_p 1 (c' := (120, [some (.ref a0), some (.int x1), some (.int v1)], [.int x1, .ref (zrf a0 3), .int v5, .int v1, .ref (zrf a0 3)])) rfl ?_
        refine Ez_al (M := zM95) rfl (zty (ci := 9) (f := 3) (t := 100) h0 rfl) hF (fun v6 hF => ?_)
        refine Ev_p 1 (c' := (122, [some (.ref a0), some (.int x1), some (.int v1)], [.int (v5 + v6), .int v1, .ref (zrf a0 3)])) rfl ?_
        refine Ez_as (M := zM95) rfl (zty (ci := 9) (f := 3) (t := 100) h0 rfl) hF (fun s7 hF => ?_)
        refine Ev_p 0 (c' := (123, [some (.ref a0), some (.int x1), some (.int v1)], [])) rfl ?_
        refine Ev_w (L' := [some (.ref a0), some (.int x1), none]) (zle_c (zle_c (zle_n zle_0))) ?_
        exact zf95_123_ok hK h0 (fun _ _ hF => ih hF) hF
noncomputable def zf95_2 (a0 : Nat)  : Nat → Int32 → zS → Option (zS)
  | 0, _, _ => none
  | n + 1, x1, s =>
    zgf s (zrf a0 0) 6 fun v1 =>
    if v1 ≤ x1 then
      zas s (zrf a0 4) 40 0 fun s2 =>
      zgf s2 (zrf a0 0) 6 fun v3 =>
      zf95_70 a0 zfz (v3 - 1) s2
    else
      zas s (zrf a0 1) x1 40 fun s4 =>
      zas s4 (zrf a0 2) x1 40 fun s5 =>
      zal s5 (zrf (zrf a0 0) 4) x1 fun v6 =>
      zas s5 (zrf a0 3) x1 (1 + v6) fun s7 =>
      zf95_2 a0 n (x1 + 1) s7
theorem zf95_2_ok {K : cx_K} (hK : Kok K) {lg : Nat → Int64} {s' : zS} {a0 : Nat} (h0 : zsh a0 = 9)   {n : Nat} : ∀ {x1 : Int32} {s : zS}, zf95_2 a0 n x1 s = some s' → Ev K zM95 (2, [some (.ref a0), some (.int x1), none], [], zmk lg s) 0 (.inl none) (zmk lg s') 0 := by
  induction n with
  | zero => intro x1 s hF; rw [zf95_2] at hF; cases hF
  | succ n ih =>
    intro x1 s hF
    rw [zf95_2] at hF
    refine Ev_p 2 (c' := (4, [some (.ref a0), some (.int x1), none], [.ref a0, .int x1])) rfl ?_
    refine Ez_gr (M := zM95) (ci := 9) (f := 0) (t := 2) rfl rfl h0 rfl ?_
    refine Ev_p 0 (c' := (7, [some (.ref a0), some (.int x1), none], [.ref (zrf a0 0), .int x1])) rfl ?_
    refine Ez_gf (M := zM95) (ci := 2) (f := 6) rfl rfl (zty (ci := 9) (f := 0) (t := 2) h0 rfl) rfl hF (fun v1 hF => ?_)
    refine Ev_p 0 (c' := (10, [some (.ref a0), some (.int x1), none], [.int v1, .int x1])) rfl ?_
    refine Ez_if (M := zM95) (b := v1 ≤ x1) rfl rfl hF (fun _ hF => ?_) (fun _ hF => ?_)
    · refine Ev_p 1 (c' := (53, [some (.ref a0), some (.int x1), none], [.ref a0])) rfl ?_
      refine Ez_gr (M := zM95) (ci := 9) (f := 4) (t := 100) rfl rfl h0 rfl ?_
      refine Ev_p 2 (c' := (59, [some (.ref a0), some (.int x1), none], [.int 0, .int 40, .ref (zrf a0 4)])) rfl ?_
      refine Ez_as (M := zM95) rfl (zty (ci := 9) (f := 4) (t := 100) h0 rfl) hF (fun s2 hF => ?_)
      refine Ev_p 1 (c' := (61, [some (.ref a0), some (.int x1), none], [.ref a0])) rfl ?_
      refine Ez_gr (M := zM95) (ci := 9) (f := 0) (t := 2) rfl rfl h0 rfl ?_
      refine Ev_p 0 (c' := (64, [some (.ref a0), some (.int x1), none], [.ref (zrf a0 0)])) rfl ?_
      refine Ez_gf (M := zM95) (ci := 2) (f := 6) rfl rfl (zty (ci := 9) (f := 0) (t := 2) h0 rfl) rfl hF (fun v3 hF => ?_)
      refine Ev_p 3 (c' := (70, [some (.ref a0), some (.int (v3 - 1)), none], [])) rfl ?_
      exact zf95_70_ok hK h0 hF
    · refine Ev_p 1 (c' := (14, [some (.ref a0), some (.int x1), none], [.ref a0])) rfl ?_
      refine Ez_gr (M := zM95) (ci := 9) (f := 1) (t := 100) rfl rfl h0 rfl ?_
      refine Ev_p 2 (c' := (20, [some (.ref a0), some (.int x1), none], [.int 40, .int x1, .ref (zrf a0 1)])) rfl ?_
      refine Ez_as (M := zM95) rfl (zty (ci := 9) (f := 1) (t := 100) h0 rfl) hF (fun s4 hF => ?_)
      refine Ev_p 1 (c' := (22, [some (.ref a0), some (.int x1), none], [.ref a0])) rfl ?_
      refine Ez_gr (M := zM95) (ci := 9) (f := 2) (t := 100) rfl rfl h0 rfl ?_
      refine Ev_p 2 (c' := (28, [some (.ref a0), some (.int x1), none], [.int 40, .int x1, .ref (zrf a0 2)])) rfl ?_
      refine Ez_as (M := zM95) rfl (zty (ci := 9) (f := 2) (t := 100) h0 rfl) hF (fun s5 hF => ?_)
      refine Ev_p 1 (c' := (30, [some (.ref a0), some (.int x1), none], [.ref a0])) rfl ?_
      refine Ez_gr (M := zM95) (ci := 9) (f := 3) (t := 100) rfl rfl h0 rfl ?_
      refine Ev_p 3 (c' := (36, [some (.ref a0), some (.int x1), none], [.ref a0, .int 1, .int x1, .ref (zrf a0 3)])) rfl ?_
      refine Ez_gr (M := zM95) (ci := 9) (f := 0) (t := 2) rfl rfl h0 rfl ?_
      refine Ev_p 0 (c' := (39, [some (.ref a0), some (.int x1), none], [.ref (zrf a0 0), .int 1, .int x1, .ref (zrf a0 3)])) rfl ?_
      refine Ez_gr (M := zM95) (ci := 2) (f := 4) (t := 100) rfl rfl (zty (ci := 9) (f := 0) (t := 2) h0 rfl) rfl ?_
      refine Ev_p 1 (c' := (43, [some (.ref a0), some (.int x1), none], [.int x1, .ref (zrf (zrf a0 0) 4), .int 1, .int x1, .ref (zrf a0 3)])) rfl ?_
      refine Ez_al (M := zM95) rfl (zty (ci := 2) (f := 4) (t := 100) (zty (ci := 9) (f := 0) (t := 2) h0 rfl) rfl) hF (fun v6 hF => ?_)
      refine Ev_p 1 (c' := (45, [some (.ref a0), some (.int x1), none], [.int (1 + v6), .int x1, .ref (zrf a0 3)])) rfl ?_
      refine Ez_as (M := zM95) rfl (zty (ci := 9) (f := 3) (t := 100) h0 rfl) hF (fun s7 hF => ?_)
      refine Ev_p 2 (c' := (2, [some (.ref a0), some (.int (x1 + 1)), none], [])) rfl ?_
      exact ih hF
noncomputable def zf95 (a0 : Nat) (s : zS) : Option (zS) :=
  zf95_2 a0 zfz 0 s
theorem zf95_ok {K : cx_K} (hK : Kok K) {lg : Nat → Int64} {s' : zS} {a0 : Nat} (h0 : zsh a0 = 9)  {s : zS} (hF : zf95 a0 s = some s') : Ct K 95 [.ref a0] (zmk lg s) (.inl none) (zmk lg s') 0 := by
  unfold zf95 at hF
  refine Ct_of hK nd_ok95 (mL := 3) (rt := none) rfl rfl (Nat.le_of_ble_eq_true rfl) zlen_le ?_
  refine Ev_p 2 (c' := (2, [some (.ref a0), some (.int 0), none], [])) rfl ?_
  exact zf95_2_ok hK h0 hF

/-! That the machine goes as the functions of part 99s (printed by wip/gen/fstrp.py). -/
set_option maxRecDepth 100000
set_option linter.unusedVariables false
-- PaperParcels$Emitter.putEnd(LPaperParcels$Paper;I)V
abbrev zM136 : eu_M := (136, am_in nd_i136, am_fl nd_f10, am_ct nd_k10, am_sl nd_ml nd_s136, fun _ => none, none)
theorem zf136_ok {K : cx_K} (hK : Kok K) (hst : hx_st K) {lg : Nat → Int64} {s' : zS} {a0 : Nat} {a1 : Nat} (h0 : zsh a0 = 10) (h1 : zsh a1 = 2) {x2 : Int32} {s : zS} (hF : zf136 a0 a1 x2 s = some s') : Ct K 136 [.ref a0, .ref a1, .int x2] (zmk lg s) (.inl none) (zmk lg s') 0 := by
  unfold zf136 at hF
  refine Ct_of2 hK nd_ok136 (mL := 3) (rt := none) rfl rfl (Nat.le_of_ble_eq_true rfl) zlen_le ?_
  refine Ew_p 1 (c' := (1, [some (.ref a0), some (.ref a1), some (.int x2)], [.ref a0])) rfl ?_
  refine Ex_gr (M := zM136) (ci := 10) (f := 2) (t := 1) rfl rfl h0 rfl ?_
  refine Ew_p 0 (c' := (4, [some (.ref a0), some (.ref a1), some (.int x2)], [.ref (zrf a0 2)])) rfl ?_
  refine Ew_ldc (M := zM136) (i := 10) hst rfl rfl rfl rfl ?_
  refine Ew_p 0 (c' := (6, [some (.ref a0), some (.ref a1), some (.int x2)], [.ref (2000000 + 10), .ref (zrf a0 2)])) rfl ?_
  refine Ex_cv (M := zM136) (As := [.ref (zrf a0 2), .ref (2000000 + 10)]) (st' := []) (am_site_v (y := 121) (k := 2) (ci := 1) rfl rfl (zrcv rfl (zty (ci := 10) (f := 2) (t := 1) h0 rfl) rfl)) (Nat.le_of_ble_eq_true rfl) (Nat.le_of_ble_eq_true rfl) rfl rfl (fun _ hF => zf121_ok hK hst (zty (ci := 10) (f := 2) (t := 1) h0 rfl) rfl rfl hF) hF (fun s2 hF => ?_)
  refine Ew_p 1 (c' := (10, [some (.ref a0), some (.ref a1), some (.int x2)], [.ref a0])) rfl ?_
  refine Ex_gr (M := zM136) (ci := 10) (f := 2) (t := 1) rfl rfl h0 rfl ?_
  refine Ew_p 0 (c' := (13, [some (.ref a0), some (.ref a1), some (.int x2)], [.ref (zrf a0 2)])) rfl ?_
  refine Ew_ldc (M := zM136) (i := 8) hst rfl rfl rfl rfl ?_
  refine Ew_p 1 (c' := (16, [some (.ref a0), some (.ref a1), some (.int x2)], [.ref a1, .ref (2000000 + 8), .ref (zrf a0 2)])) rfl ?_
  refine Ex_gr (M := zM136) (ci := 2) (f := 0) (t := 100) rfl rfl h1 rfl ?_
  refine Ew_p 1 (c' := (20, [some (.ref a0), some (.ref a1), some (.int x2)], [.int x2, .ref (zrf a1 0), .ref (2000000 + 8), .ref (zrf a0 2)])) rfl ?_
  refine Ex_al (M := zM136) rfl (zty (ci := 2) (f := 0) (t := 100) h1 rfl) hF (fun v3 hF => ?_)
  refine Ew_p 0 (c' := (21, [some (.ref a0), some (.ref a1), some (.int x2)], [.int v3, .ref (2000000 + 8), .ref (zrf a0 2)])) rfl ?_
  refine Ex_ct (M := zM136) (i := 8) hst rfl rfl (nm_in (i := 1164) (by decide +kernel) rfl) rfl rfl (Nat.le_of_ble_eq_true rfl) hF (fun v4 hF => ?_)
  refine Ew_p 0 (c' := (24, [some (.ref a0), some (.ref a1), some (.int x2)], [.int v4, .ref (zrf a0 2)])) rfl ?_
  refine Ex_cv (M := zM136) (As := [.ref (zrf a0 2), .int v4]) (st' := []) (am_site_v (y := 13) (k := 2) (ci := 1) rfl rfl (zrcv rfl (zty (ci := 10) (f := 2) (t := 1) h0 rfl) rfl)) (Nat.le_of_ble_eq_true rfl) (Nat.le_of_ble_eq_true rfl) rfl rfl (fun _ hF => zf13_ok hK (zty (ci := 10) (f := 2) (t := 1) h0 rfl) hF) hF (fun s6 hF => ?_)
  refine Ew_p 1 (c' := (28, [some (.ref a0), some (.ref a1), some (.int x2)], [.ref a0])) rfl ?_
  refine Ex_gr (M := zM136) (ci := 10) (f := 2) (t := 1) rfl rfl h0 rfl ?_
  refine Ew_p 1 (c' := (33, [some (.ref a0), some (.ref a1), some (.int x2)], [.int 62, .ref (zrf a0 2)])) rfl ?_
  refine Ex_cv (M := zM136) (As := [.ref (zrf a0 2), .int 62]) (st' := []) (am_site_v (y := 13) (k := 2) (ci := 1) rfl rfl (zrcv rfl (zty (ci := 10) (f := 2) (t := 1) h0 rfl) rfl)) (Nat.le_of_ble_eq_true rfl) (Nat.le_of_ble_eq_true rfl) rfl rfl (fun _ hF => zf13_ok hK (zty (ci := 10) (f := 2) (t := 1) h0 rfl) hF) hF (fun s8 hF => ?_)
  refine Ew_p 0 (c' := (36, [some (.ref a0), some (.ref a1), some (.int x2)], [])) rfl ?_
  exact Ex_rv (M := zM136) rfl rfl hF
-- PaperParcels$Emitter.putBegin(LPaperParcels$Paper;I)V
abbrev zM138 : eu_M := (138, am_in nd_i138, am_fl nd_f10, am_ct nd_k10, am_sl nd_ml nd_s138, fun _ => none, none)
theorem zf138_100_ok {K : cx_K} (hK : Kok K) (hst : hx_st K) {lg : Nat → Int64} {s' : zS} {a0 : Nat} {a1 : Nat} (h0 : zsh a0 = 10) (h1 : zsh a1 = 2)     {s : zS} (hF : zf138_100 a0 a1 s = some s') : Ew K zM138 (100, [some (.ref a0), some (.ref a1), none], [], zmk lg s) 0 (.inl none) (zmk lg s') 0 := by
  unfold zf138_100 at hF
  refine Ew_p 1 (c' := (101, [some (.ref a0), some (.ref a1), none], [.ref a0])) rfl ?_
  refine Ex_gr (M := zM138) (ci := 10) (f := 2) (t := 1) rfl rfl h0 rfl ?_
  refine Ew_p 1 (c' := (106, [some (.ref a0), some (.ref a1), none], [.int 62, .ref (zrf a0 2)])) rfl ?_
  refine Ex_cv (M := zM138) (As := [.ref (zrf a0 2), .int 62]) (st' := []) (am_site_v (y := 13) (k := 2) (ci := 1) rfl rfl (zrcv rfl (zty (ci := 10) (f := 2) (t := 1) h0 rfl) rfl)) (Nat.le_of_ble_eq_true rfl) (Nat.le_of_ble_eq_true rfl) rfl rfl (fun _ hF => zf13_ok hK (zty (ci := 10) (f := 2) (t := 1) h0 rfl) hF) hF (fun s2 hF => ?_)
  refine Ew_p 0 (c' := (109, [some (.ref a0), some (.ref a1), none], [])) rfl ?_
  exact Ex_rv (M := zM138) rfl rfl hF
theorem zf138_73_ok {K : cx_K} (hK : Kok K) (hst : hx_st K) {lg : Nat → Int64} {s' : zS} {a0 : Nat} {a1 : Nat} (h0 : zsh a0 = 10) (h1 : zsh a1 = 2)   {x2 : Int32}  {s : zS} (hF : zf138_73 a0 a1 x2 s = some s') : Ew K zM138 (73, [some (.ref a0), some (.ref a1), some (.int x2)], [], zmk lg s) 0 (.inl none) (zmk lg s') 0 := by
  unfold zf138_73 at hF
  refine Ew_p 1 (c' := (74, [some (.ref a0), some (.ref a1), some (.int x2)], [.ref a1])) rfl ?_
  refine Ex_gr (M := zM138) (ci := 2) (f := 0) (t := 100) rfl rfl h1 rfl ?_
  refine Ew_p 1 (c' := (78, [some (.ref a0), some (.ref a1), some (.int x2)], [.int x2, .ref (zrf a1 0)])) rfl ?_
  refine Ex_al (M := zM138) rfl (zty (ci := 2) (f := 0) (t := 100) h1 rfl) hF (fun v1 hF => ?_)
  refine Ew_p 1 (c' := (80, [some (.ref a0), some (.ref a1), some (.int x2)], [.int 2, .int v1])) rfl ?_
  refine Ex_if (M := zM138) (b := v1 = 2) rfl rfl hF (fun _ hF => ?_) (fun _ hF => ?_)
  · refine Ew_p 0 (c' := (100, [some (.ref a0), some (.ref a1), some (.int x2)], [])) rfl ?_
    refine Ew_w (L' := [some (.ref a0), some (.ref a1), none]) (zle_c (zle_c (zle_n zle_0))) ?_
    exact zf138_100_ok hK hst h0 h1 hF
  · refine Ew_p 2 (c' := (85, [some (.ref a0), some (.ref a1), some (.int x2)], [.int x2, .ref a1])) rfl ?_
    refine Ex_ci (M := zM138) (As := [.ref a1, .int x2]) (st' := []) (am_site_v (y := 139) (k := 2) (ci := 2) rfl rfl (zrcv rfl h1 rfl)) (Nat.le_of_ble_eq_true rfl) (Nat.le_of_ble_eq_true rfl) rfl rfl (fun _ _ hF => zf139_ok hK h1 hF) hF (fun v2 s3 hF => ?_)
    refine Ew_p 0 (c' := (88, [some (.ref a0), some (.ref a1), some (.int x2)], [.int v2])) rfl ?_
    refine Ex_if (M := zM138) (b := v2 = 0) rfl rfl hF (fun _ hF => ?_) (fun _ hF => ?_)
    · refine Ew_p 0 (c' := (100, [some (.ref a0), some (.ref a1), some (.int x2)], [])) rfl ?_
      refine Ew_w (L' := [some (.ref a0), some (.ref a1), none]) (zle_c (zle_c (zle_n zle_0))) ?_
      exact zf138_100_ok hK hst h0 h1 hF
    · refine Ew_p 1 (c' := (92, [some (.ref a0), some (.ref a1), some (.int x2)], [.ref a0])) rfl ?_
      refine Ex_gr (M := zM138) (ci := 10) (f := 2) (t := 1) rfl rfl h0 rfl ?_
      refine Ew_p 1 (c' := (97, [some (.ref a0), some (.ref a1), some (.int x2)], [.int 47, .ref (zrf a0 2)])) rfl ?_
      refine Ex_cv (M := zM138) (As := [.ref (zrf a0 2), .int 47]) (st' := []) (am_site_v (y := 13) (k := 2) (ci := 1) rfl rfl (zrcv rfl (zty (ci := 10) (f := 2) (t := 1) h0 rfl) rfl)) (Nat.le_of_ble_eq_true rfl) (Nat.le_of_ble_eq_true rfl) rfl rfl (fun _ hF => zf13_ok hK (zty (ci := 10) (f := 2) (t := 1) h0 rfl) hF) hF (fun s5 hF => ?_)
      refine Ew_p 0 (c' := (100, [some (.ref a0), some (.ref a1), some (.int x2)], [])) rfl ?_
      refine Ew_w (L' := [some (.ref a0), some (.ref a1), none]) (zle_c (zle_c (zle_n zle_0))) ?_
      exact zf138_100_ok hK hst h0 h1 hF
theorem zf138_ok {K : cx_K} (hK : Kok K) (hst : hx_st K) {lg : Nat → Int64} {s' : zS} {a0 : Nat} {a1 : Nat} (h0 : zsh a0 = 10) (h1 : zsh a1 = 2) {x2 : Int32} {s : zS} (hF : zf138 a0 a1 x2 s = some s') : Ct K 138 [.ref a0, .ref a1, .int x2] (zmk lg s) (.inl none) (zmk lg s') 0 := by
  unfold zf138 at hF
  refine Ct_of2 hK nd_ok138 (mL := 3) (rt := none) rfl rfl (Nat.le_of_ble_eq_true rfl) zlen_le ?_
  refine Ew_p 1 (c' := (1, [some (.ref a0), some (.ref a1), some (.int x2)], [.ref a0])) rfl ?_
  refine Ex_gr (M := zM138) (ci := 10) (f := 2) (t := 1) rfl rfl h0 rfl ?_
  refine Ew_p 1 (c' := (6, [some (.ref a0), some (.ref a1), some (.int x2)], [.int 60, .ref (zrf a0 2)])) rfl ?_
  refine Ex_cv (M := zM138) (As := [.ref (zrf a0 2), .int 60]) (st' := []) (am_site_v (y := 13) (k := 2) (ci := 1) rfl rfl (zrcv rfl (zty (ci := 10) (f := 2) (t := 1) h0 rfl) rfl)) (Nat.le_of_ble_eq_true rfl) (Nat.le_of_ble_eq_true rfl) rfl rfl (fun _ hF => zf13_ok hK (zty (ci := 10) (f := 2) (t := 1) h0 rfl) hF) hF (fun s2 hF => ?_)
  refine Ew_p 1 (c' := (10, [some (.ref a0), some (.ref a1), some (.int x2)], [.ref a0])) rfl ?_
  refine Ex_gr (M := zM138) (ci := 10) (f := 2) (t := 1) rfl rfl h0 rfl ?_
  refine Ew_p 0 (c' := (13, [some (.ref a0), some (.ref a1), some (.int x2)], [.ref (zrf a0 2)])) rfl ?_
  refine Ew_ldc (M := zM138) (i := 8) hst rfl rfl rfl rfl ?_
  refine Ew_p 1 (c' := (16, [some (.ref a0), some (.ref a1), some (.int x2)], [.ref a1, .ref (2000000 + 8), .ref (zrf a0 2)])) rfl ?_
  refine Ex_gr (M := zM138) (ci := 2) (f := 0) (t := 100) rfl rfl h1 rfl ?_
  refine Ew_p 1 (c' := (20, [some (.ref a0), some (.ref a1), some (.int x2)], [.int x2, .ref (zrf a1 0), .ref (2000000 + 8), .ref (zrf a0 2)])) rfl ?_
  refine Ex_al (M := zM138) rfl (zty (ci := 2) (f := 0) (t := 100) h1 rfl) hF (fun v3 hF => ?_)
  refine Ew_p 0 (c' := (21, [some (.ref a0), some (.ref a1), some (.int x2)], [.int v3, .ref (2000000 + 8), .ref (zrf a0 2)])) rfl ?_
  refine Ex_ct (M := zM138) (i := 8) hst rfl rfl (nm_in (i := 1164) (by decide +kernel) rfl) rfl rfl (Nat.le_of_ble_eq_true rfl) hF (fun v4 hF => ?_)
  refine Ew_p 0 (c' := (24, [some (.ref a0), some (.ref a1), some (.int x2)], [.int v4, .ref (zrf a0 2)])) rfl ?_
  refine Ex_cv (M := zM138) (As := [.ref (zrf a0 2), .int v4]) (st' := []) (am_site_v (y := 13) (k := 2) (ci := 1) rfl rfl (zrcv rfl (zty (ci := 10) (f := 2) (t := 1) h0 rfl) rfl)) (Nat.le_of_ble_eq_true rfl) (Nat.le_of_ble_eq_true rfl) rfl rfl (fun _ hF => zf13_ok hK (zty (ci := 10) (f := 2) (t := 1) h0 rfl) hF) hF (fun s6 hF => ?_)
  refine Ew_p 2 (c' := (29, [some (.ref a0), some (.ref a1), some (.int x2)], [.int x2, .ref a1])) rfl ?_
  refine Ex_ci (M := zM138) (As := [.ref a1, .int x2]) (st' := []) (zsite_0 (y := 118) (k := 2) (ci := 10) rfl rfl) (Nat.le_of_ble_eq_true rfl) (Nat.le_of_ble_eq_true rfl) rfl rfl (fun _ _ hF => zf118_ok hK h1 hF) hF (fun v7 s8 hF => ?_)
  refine Ew_p 0 (c' := (32, [some (.ref a0), some (.ref a1), some (.int x2)], [.int v7])) rfl ?_
  refine Ex_if (M := zM138) (b := v7 = 0) rfl rfl hF (fun _ hF => ?_) (fun _ hF => ?_)
  · refine Ew_p 0 (c' := (73, [some (.ref a0), some (.ref a1), some (.int x2)], [])) rfl ?_
    exact zf138_73_ok hK hst h0 h1 hF
  · refine Ew_p 1 (c' := (36, [some (.ref a0), some (.ref a1), some (.int x2)], [.ref a0])) rfl ?_
    refine Ex_gr (M := zM138) (ci := 10) (f := 2) (t := 1) rfl rfl h0 rfl ?_
    refine Ew_p 0 (c' := (39, [some (.ref a0), some (.ref a1), some (.int x2)], [.ref (zrf a0 2)])) rfl ?_
    refine Ew_ldc (M := zM138) (i := 9) hst rfl rfl rfl rfl ?_
    refine Ew_p 0 (c' := (41, [some (.ref a0), some (.ref a1), some (.int x2)], [.ref (2000000 + 9), .ref (zrf a0 2)])) rfl ?_
    refine Ex_cv (M := zM138) (As := [.ref (zrf a0 2), .ref (2000000 + 9)]) (st' := []) (am_site_v (y := 121) (k := 2) (ci := 1) rfl rfl (zrcv rfl (zty (ci := 10) (f := 2) (t := 1) h0 rfl) rfl)) (Nat.le_of_ble_eq_true rfl) (Nat.le_of_ble_eq_true rfl) rfl rfl (fun _ hF => zf121_ok hK hst (zty (ci := 10) (f := 2) (t := 1) h0 rfl) rfl rfl hF) hF (fun s10 hF => ?_)
    refine Ew_p 1 (c' := (45, [some (.ref a0), some (.ref a1), some (.int x2)], [.ref a0])) rfl ?_
    refine Ex_gr (M := zM138) (ci := 10) (f := 2) (t := 1) rfl rfl h0 rfl ?_
    refine Ew_p 3 (c' := (52, [some (.ref a0), some (.ref a1), some (.int x2)], [.ref a1, .ref a0, .int 65, .ref (zrf a0 2)])) rfl ?_
    refine Ex_gr (M := zM138) (ci := 2) (f := 2) (t := 100) rfl rfl h1 rfl ?_
    refine Ew_p 1 (c' := (56, [some (.ref a0), some (.ref a1), some (.int x2)], [.int x2, .ref (zrf a1 2), .ref a0, .int 65, .ref (zrf a0 2)])) rfl ?_
    refine Ex_al (M := zM138) rfl (zty (ci := 2) (f := 2) (t := 100) h1 rfl) hF (fun v11 hF => ?_)
    refine Ew_p 0 (c' := (57, [some (.ref a0), some (.ref a1), some (.int x2)], [.int v11, .ref a0, .int 65, .ref (zrf a0 2)])) rfl ?_
    refine Ex_ci (M := zM138) (As := [.ref a0, .int v11]) (st' := [.int 65, .ref (zrf a0 2)]) (am_site_v (y := 119) (k := 2) (ci := 10) rfl rfl (zrcv rfl h0 rfl)) (Nat.le_of_ble_eq_true rfl) (Nat.le_of_ble_eq_true rfl) rfl rfl (fun _ _ hF => zf119_ok hK h0 hF) hF (fun v12 s13 hF => ?_)
    refine Ew_p 1 (c' := (61, [some (.ref a0), some (.ref a1), some (.int x2)], [.int (65 + v12), .ref (zrf a0 2)])) rfl ?_
    refine Ex_cv (M := zM138) (As := [.ref (zrf a0 2), .int (65 + v12)]) (st' := []) (am_site_v (y := 13) (k := 2) (ci := 1) rfl rfl (zrcv rfl (zty (ci := 10) (f := 2) (t := 1) h0 rfl) rfl)) (Nat.le_of_ble_eq_true rfl) (Nat.le_of_ble_eq_true rfl) rfl rfl (fun _ hF => zf13_ok hK (zty (ci := 10) (f := 2) (t := 1) h0 rfl) hF) hF (fun s15 hF => ?_)
    refine Ew_p 1 (c' := (65, [some (.ref a0), some (.ref a1), some (.int x2)], [.ref a0])) rfl ?_
    refine Ex_gr (M := zM138) (ci := 10) (f := 2) (t := 1) rfl rfl h0 rfl ?_
    refine Ew_p 1 (c' := (70, [some (.ref a0), some (.ref a1), some (.int x2)], [.int 34, .ref (zrf a0 2)])) rfl ?_
    refine Ex_cv (M := zM138) (As := [.ref (zrf a0 2), .int 34]) (st' := []) (am_site_v (y := 13) (k := 2) (ci := 1) rfl rfl (zrcv rfl (zty (ci := 10) (f := 2) (t := 1) h0 rfl) rfl)) (Nat.le_of_ble_eq_true rfl) (Nat.le_of_ble_eq_true rfl) rfl rfl (fun _ hF => zf13_ok hK (zty (ci := 10) (f := 2) (t := 1) h0 rfl) hF) hF (fun s17 hF => ?_)
    refine Ew_p 0 (c' := (73, [some (.ref a0), some (.ref a1), some (.int x2)], [])) rfl ?_
    exact zf138_73_ok hK hst h0 h1 hF
-- PaperParcels$Emitter.putRun(LPaperParcels$Paper;I)V
abbrev zM137 : ev_M := (am_in nd_i137, am_fl nd_f10, am_ct nd_k10, am_sl nd_ml nd_s137, fun _ => none, none)
theorem zf137_19_ok {K : cx_K} (hK : Kok K) (hst : hx_st K) {lg : Nat → Int64} {s' : zS} {a0 : Nat} {a1 : Nat} (h0 : zsh a0 = 10) (h1 : zsh a1 = 2)   {n : Nat} : ∀ {x2 : Int32} {x3 : Int32} {x4 : Int32} {s : zS}, zf137_19 a0 a1 n x2 x3 x4 s = some s' → Ev K zM137 (19, [some (.ref a0), some (.ref a1), some (.int x2), some (.int x3), some (.int x4)], [], zmk lg s) 0 (.inl none) (zmk lg s') 0 := by
  induction n with
  | zero => intro x2 x3 x4 s hF; rw [zf137_19] at hF; cases hF
  | succ n ih =>
    intro x2 x3 x4 s hF
    rw [zf137_19] at hF
    refine Ev_p 2 (c' := (22, [some (.ref a0), some (.ref a1), some (.int x2), some (.int x3), some (.int x4)], [.ref a1, .int x4])) rfl ?_
    refine Ez_gr (M := zM137) (ci := 2) (f := 4) (t := 100) rfl rfl h1 rfl ?_
    refine Ev_p 1 (c' := (26, [some (.ref a0), some (.ref a1), some (.int x2), some (.int x3), some (.int x4)], [.int x2, .ref (zrf a1 4), .int x4])) rfl ?_
    refine Ez_al (M := zM137) rfl (zty (ci := 2) (f := 4) (t := 100) h1 rfl) hF (fun v1 hF => ?_)
    refine Ev_p 0 (c' := (27, [some (.ref a0), some (.ref a1), some (.int x2), some (.int x3), some (.int x4)], [.int v1, .int x4])) rfl ?_
    refine Ez_if (M := zM137) (b := v1 ≤ x4) rfl rfl hF (fun _ hF => ?_) (fun _ hF => ?_)
    · refine Ev_p 1 (c' := (51, [some (.ref a0), some (.ref a1), some (.int x2), some (.int x3), some (.int x4)], [.int x3])) rfl ?_
      refine Ez_if (M := zM137) (b := x3 = 0) rfl rfl hF (fun _ hF => ?_) (fun _ hF => ?_)
      · refine Ev_p 0 (c' := (60, [some (.ref a0), some (.ref a1), some (.int x2), some (.int x3), some (.int x4)], [])) rfl ?_
        exact Ez_rv (M := zM137) rfl rfl hF
      · refine Ev_p 3 (c' := (57, [some (.ref a0), some (.ref a1), some (.int x2), some (.int x3), some (.int x4)], [.int x2, .ref a1, .ref a0])) rfl ?_
        refine Ez_cv (M := zM137) (As := [.ref a0, .ref a1, .int x2]) (st' := []) (am_site_v (y := 136) (k := 3) (ci := 10) rfl rfl (zrcv rfl h0 rfl)) (Nat.le_of_ble_eq_true rfl) (Nat.le_of_ble_eq_true rfl) rfl rfl (fun _ hF => zf136_ok hK hst h0 h1 hF) hF (fun s3 hF => ?_)
        refine Ev_p 0 (c' := (60, [some (.ref a0), some (.ref a1), some (.int x2), some (.int x3), some (.int x4)], [])) rfl ?_
        exact Ez_rv (M := zM137) rfl rfl hF
    · refine Ev_p 1 (c' := (31, [some (.ref a0), some (.ref a1), some (.int x2), some (.int x3), some (.int x4)], [.ref a0])) rfl ?_
      refine Ez_gr (M := zM137) (ci := 10) (f := 2) (t := 1) rfl rfl h0 rfl ?_
      refine Ev_p 3 (c' := (38, [some (.ref a0), some (.ref a1), some (.int x2), some (.int x3), some (.int x4)], [.int x4, .int x2, .ref a1, .ref (zrf a0 2)])) rfl ?_
      refine Ez_ci (M := zM137) (As := [.ref a1, .int x2, .int x4]) (st' := [.ref (zrf a0 2)]) (am_site_v (y := 91) (k := 3) (ci := 2) rfl rfl (zrcv rfl h1 rfl)) (Nat.le_of_ble_eq_true rfl) (Nat.le_of_ble_eq_true rfl) rfl rfl (fun _ _ hF => zf91_ok hK h1 hF) hF (fun v4 s5 hF => ?_)
      refine Ev_p 0 (c' := (41, [some (.ref a0), some (.ref a1), some (.int x2), some (.int x3), some (.int x4)], [.int v4, .ref (zrf a0 2)])) rfl ?_
      refine Ez_cv (M := zM137) (As := [.ref (zrf a0 2), .int v4]) (st' := []) (am_site_v (y := 13) (k := 2) (ci := 1) rfl rfl (zrcv rfl (zty (ci := 10) (f := 2) (t := 1) h0 rfl) rfl)) (Nat.le_of_ble_eq_true rfl) (Nat.le_of_ble_eq_true rfl) rfl rfl (fun _ hF => zf13_ok hK (zty (ci := 10) (f := 2) (t := 1) h0 rfl) hF) hF (fun s7 hF => ?_)
      refine Ev_p 2 (c' := (19, [some (.ref a0), some (.ref a1), some (.int x2), some (.int x3), some (.int (x4 + 1))], [])) rfl ?_
      exact ih hF
theorem zf137_ok {K : cx_K} (hK : Kok K) (hst : hx_st K) {lg : Nat → Int64} {s' : zS} {a0 : Nat} {a1 : Nat} (h0 : zsh a0 = 10) (h1 : zsh a1 = 2) {x2 : Int32} {s : zS} (hF : zf137 a0 a1 x2 s = some s') : Ct K 137 [.ref a0, .ref a1, .int x2] (zmk lg s) (.inl none) (zmk lg s') 0 := by
  unfold zf137 at hF
  refine Ct_of hK nd_ok137 (mL := 5) (rt := none) rfl rfl (Nat.le_of_ble_eq_true rfl) zlen_le ?_
  refine Ev_p 2 (c' := (2, [some (.ref a0), some (.ref a1), some (.int x2), none, none], [.int x2, .ref a1])) rfl ?_
  refine Ez_ci (M := zM137) (As := [.ref a1, .int x2]) (st' := []) (zsite_0 (y := 118) (k := 2) (ci := 10) rfl rfl) (Nat.le_of_ble_eq_true rfl) (Nat.le_of_ble_eq_true rfl) rfl rfl (fun _ _ hF => zf118_ok hK h1 hF) hF (fun v1 s2 hF => ?_)
  refine Ev_p 2 (c' := (7, [some (.ref a0), some (.ref a1), some (.int x2), some (.int v1), none], [.int v1])) rfl ?_
  refine Ez_if (M := zM137) (b := v1 = 0) rfl rfl hF (fun _ hF => ?_) (fun _ hF => ?_)
  · refine Ev_p 2 (c' := (19, [some (.ref a0), some (.ref a1), some (.int x2), some (.int v1), some (.int 0)], [])) rfl ?_
    exact zf137_19_ok hK hst h0 h1 hF
  · refine Ev_p 3 (c' := (13, [some (.ref a0), some (.ref a1), some (.int x2), some (.int v1), none], [.int x2, .ref a1, .ref a0])) rfl ?_
    refine Ez_cv (M := zM137) (As := [.ref a0, .ref a1, .int x2]) (st' := []) (am_site_v (y := 138) (k := 3) (ci := 10) rfl rfl (zrcv rfl h0 rfl)) (Nat.le_of_ble_eq_true rfl) (Nat.le_of_ble_eq_true rfl) rfl rfl (fun _ hF => zf138_ok hK hst h0 h1 hF) hF (fun s4 hF => ?_)
    refine Ev_p 2 (c' := (19, [some (.ref a0), some (.ref a1), some (.int x2), some (.int v1), some (.int 0)], [])) rfl ?_
    exact zf137_19_ok hK hst h0 h1 hF
-- PaperParcels$Emitter.putEnds(LPaperParcels$Paper;II)V
abbrev zM135 : ev_M := (am_in nd_i135, am_fl nd_f10, am_ct nd_k10, am_sl nd_ml nd_s135, fun _ => none, none)
theorem zf135_6_ok {K : cx_K} (hK : Kok K) (hst : hx_st K) {lg : Nat → Int64} {s' : zS} {a0 : Nat} {a1 : Nat} (h0 : zsh a0 = 10) (h1 : zsh a1 = 2)   {n : Nat} : ∀ {x3 : Int32} {x4 : Int32} {x5 : Int32} {s : zS}, zf135_6 a0 a1 n x3 x4 x5 s = some s' → Ev K zM135 (6, [some (.ref a0), some (.ref a1), none, some (.int x3), some (.int x4), some (.int x5)], [], zmk lg s) 0 (.inl none) (zmk lg s') 0 := by
  induction n with
  | zero => intro x3 x4 x5 s hF; rw [zf135_6] at hF; cases hF
  | succ n ih =>
    intro x3 x4 x5 s hF
    rw [zf135_6] at hF
    refine Ev_p 2 (c' := (9, [some (.ref a0), some (.ref a1), none, some (.int x3), some (.int x4), some (.int x5)], [.ref a1, .int x5])) rfl ?_
    refine Ez_gf (M := zM135) (ci := 2) (f := 6) rfl rfl h1 rfl hF (fun v1 hF => ?_)
    refine Ev_p 0 (c' := (12, [some (.ref a0), some (.ref a1), none, some (.int x3), some (.int x4), some (.int x5)], [.int v1, .int x5])) rfl ?_
    refine Ez_if (M := zM135) (b := v1 ≤ x5) rfl rfl hF (fun _ hF => ?_) (fun _ hF => ?_)
    · refine Ev_p 0 (c' := (49, [some (.ref a0), some (.ref a1), none, some (.int x3), some (.int x4), some (.int x5)], [])) rfl ?_
      exact Ez_rv (M := zM135) rfl rfl hF
    · refine Ev_p 2 (c' := (18, [some (.ref a0), some (.ref a1), none, some (.int x3), some (.int x4), some (.int x5)], [.int x3, .int x4])) rfl ?_
      refine Ez_if (M := zM135) (b := x4 = x3) rfl rfl hF (fun _ hF => ?_) (fun _ hF => ?_)
      · refine Ev_p 0 (c' := (49, [some (.ref a0), some (.ref a1), none, some (.int x3), some (.int x4), some (.int x5)], [])) rfl ?_
        exact Ez_rv (M := zM135) rfl rfl hF
      · refine Ev_p 2 (c' := (24, [some (.ref a0), some (.ref a1), none, some (.int x3), some (.int x4), some (.int x5)], [.int (-1), .int x4])) rfl ?_
        refine Ez_if (M := zM135) (b := x4 = (-1)) rfl rfl hF (fun _ hF => ?_) (fun _ hF => ?_)
        · refine Ev_p 0 (c' := (49, [some (.ref a0), some (.ref a1), none, some (.int x3), some (.int x4), some (.int x5)], [])) rfl ?_
          exact Ez_rv (M := zM135) rfl rfl hF
        · refine Ev_p 3 (c' := (31, [some (.ref a0), some (.ref a1), none, some (.int x3), some (.int x4), some (.int x5)], [.int x4, .ref a1, .ref a0])) rfl ?_
          refine Ez_cv (M := zM135) (As := [.ref a0, .ref a1, .int x4]) (st' := []) (am_site_v (y := 136) (k := 3) (ci := 10) rfl rfl (zrcv rfl h0 rfl)) (Nat.le_of_ble_eq_true rfl) (Nat.le_of_ble_eq_true rfl) rfl rfl (fun _ hF => zf136_ok hK hst h0 h1 hF) hF (fun s3 hF => ?_)
          refine Ev_p 1 (c' := (35, [some (.ref a0), some (.ref a1), none, some (.int x3), some (.int x4), some (.int x5)], [.ref a1])) rfl ?_
          refine Ez_gr (M := zM135) (ci := 2) (f := 1) (t := 100) rfl rfl h1 rfl ?_
          refine Ev_p 1 (c' := (40, [some (.ref a0), some (.ref a1), none, some (.int x3), some (.int x4), some (.int x5)], [.int x4, .ref (zrf a1 1)])) rfl ?_
          refine Ez_al (M := zM135) rfl (zty (ci := 2) (f := 1) (t := 100) h1 rfl) hF (fun v4 hF => ?_)
          refine Ev_p 3 (c' := (6, [some (.ref a0), some (.ref a1), none, some (.int x3), some (.int v4), some (.int (x5 + 1))], [])) rfl ?_
          exact ih hF
theorem zf135_ok {K : cx_K} (hK : Kok K) (hst : hx_st K) {lg : Nat → Int64} {s' : zS} {a0 : Nat} {a1 : Nat} (h0 : zsh a0 = 10) (h1 : zsh a1 = 2) {x2 : Int32} {x3 : Int32} {s : zS} (hF : zf135 a0 a1 x2 x3 s = some s') : Ct K 135 [.ref a0, .ref a1, .int x2, .int x3] (zmk lg s) (.inl none) (zmk lg s') 0 := by
  unfold zf135 at hF
  refine Ct_of hK nd_ok135 (mL := 6) (rt := none) rfl rfl (Nat.le_of_ble_eq_true rfl) zlen_le ?_
  refine Ev_p 4 (c' := (6, [some (.ref a0), some (.ref a1), some (.int x2), some (.int x3), some (.int x2), some (.int 0)], [])) rfl ?_
  refine Ev_w (L' := [some (.ref a0), some (.ref a1), none, some (.int x3), some (.int x2), some (.int 0)]) (zle_c (zle_c (zle_n (zle_c (zle_c (zle_c zle_0)))))) ?_
  exact zf135_6_ok hK hst h0 h1 hF
-- PaperParcels$Emitter.putBody(LPaperParcels$Paper;)V
abbrev zM134 : ev_M := (am_in nd_i134, am_fl nd_f10, am_ct nd_k10, am_sl nd_ml nd_s134, fun _ => none, none)
theorem zf134_11_ok {K : cx_K} (hK : Kok K) (hst : hx_st K) {lg : Nat → Int64} {s' : zS} {a0 : Nat} {a1 : Nat} (h0 : zsh a0 = 10) (h1 : zsh a1 = 2)   {n : Nat} : ∀ {x2 : Int32} {x3 : Int32} {s : zS}, zf134_11 a0 a1 n x2 x3 s = some s' → Ev K zM134 (11, [some (.ref a0), some (.ref a1), some (.int x2), some (.int x3)], [], zmk lg s) 0 (.inl none) (zmk lg s') 0 := by
  induction n with
  | zero => intro x2 x3 s hF; rw [zf134_11] at hF; cases hF
  | succ n ih =>
    intro x2 x3 s hF
    rw [zf134_11] at hF
    refine Ev_p 2 (c' := (13, [some (.ref a0), some (.ref a1), some (.int x2), some (.int x3)], [.ref a1, .int x3])) rfl ?_
    refine Ez_gf (M := zM134) (ci := 2) (f := 6) rfl rfl h1 rfl hF (fun v1 hF => ?_)
    refine Ev_p 0 (c' := (16, [some (.ref a0), some (.ref a1), some (.int x2), some (.int x3)], [.int v1, .int x3])) rfl ?_
    refine Ez_if (M := zM134) (b := v1 ≤ x3) rfl rfl hF (fun _ hF => ?_) (fun _ hF => ?_)
    · refine Ev_p 4 (c' := (87, [some (.ref a0), some (.ref a1), some (.int x2), some (.int x3)], [.int (-1), .int x2, .ref a1, .ref a0])) rfl ?_
      refine Ez_cv (M := zM134) (As := [.ref a0, .ref a1, .int x2, .int (-1)]) (st' := []) (am_site_v (y := 135) (k := 4) (ci := 10) rfl rfl (zrcv rfl h0 rfl)) (Nat.le_of_ble_eq_true rfl) (Nat.le_of_ble_eq_true rfl) rfl rfl (fun _ hF => zf135_ok hK hst h0 h1 hF) hF (fun s3 hF => ?_)
      refine Ev_p 0 (c' := (90, [some (.ref a0), some (.ref a1), some (.int x2), some (.int x3)], [])) rfl ?_
      exact Ez_rv (M := zM134) rfl rfl hF
    · refine Ev_p 4 (c' := (23, [some (.ref a0), some (.ref a1), some (.int x2), some (.int x3)], [.ref a1, .int x2, .ref a1, .ref a0])) rfl ?_
      refine Ez_gr (M := zM134) (ci := 2) (f := 1) (t := 100) rfl rfl h1 rfl ?_
      refine Ev_p 1 (c' := (27, [some (.ref a0), some (.ref a1), some (.int x2), some (.int x3)], [.int x3, .ref (zrf a1 1), .int x2, .ref a1, .ref a0])) rfl ?_
      refine Ez_al (M := zM134) rfl (zty (ci := 2) (f := 1) (t := 100) h1 rfl) hF (fun v4 hF => ?_)
      refine Ev_p 0 (c' := (28, [some (.ref a0), some (.ref a1), some (.int x2), some (.int x3)], [.int v4, .int x2, .ref a1, .ref a0])) rfl ?_
      refine Ez_cv (M := zM134) (As := [.ref a0, .ref a1, .int x2, .int v4]) (st' := []) (am_site_v (y := 135) (k := 4) (ci := 10) rfl rfl (zrcv rfl h0 rfl)) (Nat.le_of_ble_eq_true rfl) (Nat.le_of_ble_eq_true rfl) rfl rfl (fun _ hF => zf135_ok hK hst h0 h1 hF) hF (fun s6 hF => ?_)
      refine Ev_p 1 (c' := (32, [some (.ref a0), some (.ref a1), some (.int x2), some (.int x3)], [.ref a1])) rfl ?_
      refine Ez_gr (M := zM134) (ci := 2) (f := 1) (t := 100) rfl rfl h1 rfl ?_
      refine Ev_p 1 (c' := (36, [some (.ref a0), some (.ref a1), some (.int x2), some (.int x3)], [.int x3, .ref (zrf a1 1)])) rfl ?_
      refine Ez_al (M := zM134) rfl (zty (ci := 2) (f := 1) (t := 100) h1 rfl) hF (fun v7 hF => ?_)
      refine Ev_p 2 (c' := (39, [some (.ref a0), some (.ref a1), some (.int v7), some (.int x3)], [.ref a1])) rfl ?_
      refine Ez_gr (M := zM134) (ci := 2) (f := 0) (t := 100) rfl rfl h1 rfl ?_
      refine Ev_p 1 (c' := (43, [some (.ref a0), some (.ref a1), some (.int v7), some (.int x3)], [.int x3, .ref (zrf a1 0)])) rfl ?_
      refine Ez_al (M := zM134) rfl (zty (ci := 2) (f := 0) (t := 100) h1 rfl) hF (fun v8 hF => ?_)
      refine Ev_p 1 (c' := (45, [some (.ref a0), some (.ref a1), some (.int v7), some (.int x3)], [.int 2, .int v8])) rfl ?_
      refine Ez_if (M := zM134) (b := ¬ v8 = 2) rfl rfl hF (fun _ hF => ?_) (fun _ hF => ?_)
      · refine Ev_p 3 (c' := (60, [some (.ref a0), some (.ref a1), some (.int v7), some (.int x3)], [.int x3, .ref a1, .ref a0])) rfl ?_
        refine Ez_cv (M := zM134) (As := [.ref a0, .ref a1, .int x3]) (st' := []) (am_site_v (y := 138) (k := 3) (ci := 10) rfl rfl (zrcv rfl h0 rfl)) (Nat.le_of_ble_eq_true rfl) (Nat.le_of_ble_eq_true rfl) rfl rfl (fun _ hF => zf138_ok hK hst h0 h1 hF) hF (fun s10 hF => ?_)
        refine Ev_p 2 (c' := (65, [some (.ref a0), some (.ref a1), some (.int v7), some (.int x3)], [.int x3, .ref a1])) rfl ?_
        refine Ez_ci (M := zM134) (As := [.ref a1, .int x3]) (st' := []) (am_site_v (y := 139) (k := 2) (ci := 2) rfl rfl (zrcv rfl h1 rfl)) (Nat.le_of_ble_eq_true rfl) (Nat.le_of_ble_eq_true rfl) rfl rfl (fun _ _ hF => zf139_ok hK h1 hF) hF (fun v11 s12 hF => ?_)
        refine Ev_p 0 (c' := (68, [some (.ref a0), some (.ref a1), some (.int v7), some (.int x3)], [.int v11])) rfl ?_
        refine Ez_if (M := zM134) (b := v11 = 0) rfl rfl hF (fun _ hF => ?_) (fun _ hF => ?_)
        · refine Ev_p 4 (c' := (11, [some (.ref a0), some (.ref a1), some (.int x3), some (.int (x3 + 1))], [])) rfl ?_
          exact ih hF
        · refine Ev_p 5 (c' := (11, [some (.ref a0), some (.ref a1), some (.int v7), some (.int (x3 + 1))], [])) rfl ?_
          exact ih hF
      · refine Ev_p 3 (c' := (51, [some (.ref a0), some (.ref a1), some (.int v7), some (.int x3)], [.int x3, .ref a1, .ref a0])) rfl ?_
        refine Ez_cv (M := zM134) (As := [.ref a0, .ref a1, .int x3]) (st' := []) (am_site_v (y := 137) (k := 3) (ci := 10) rfl rfl (zrcv rfl h0 rfl)) (Nat.le_of_ble_eq_true rfl) (Nat.le_of_ble_eq_true rfl) rfl rfl (fun _ hF => zf137_ok hK hst h0 h1 hF) hF (fun s14 hF => ?_)
        refine Ev_p 3 (c' := (11, [some (.ref a0), some (.ref a1), some (.int v7), some (.int (x3 + 1))], [])) rfl ?_
        exact ih hF
theorem zf134_ok {K : cx_K} (hK : Kok K) (hst : hx_st K) {lg : Nat → Int64} {s' : zS} {a0 : Nat} {a1 : Nat} (h0 : zsh a0 = 10) (h1 : zsh a1 = 2)  {s : zS} (hF : zf134 a0 a1 s = some s') : Ct K 134 [.ref a0, .ref a1] (zmk lg s) (.inl none) (zmk lg s') 0 := by
  unfold zf134 at hF
  refine Ct_of hK nd_ok134 (mL := 4) (rt := none) rfl rfl (Nat.le_of_ble_eq_true rfl) zlen_le ?_
  refine Ev_p 1 (c' := (1, [some (.ref a0), some (.ref a1), none, none], [.ref a0])) rfl ?_
  refine Ez_gr (M := zM134) (ci := 10) (f := 2) (t := 1) rfl rfl h0 rfl ?_
  refine Ev_p 0 (c' := (4, [some (.ref a0), some (.ref a1), none, none], [.ref (zrf a0 2)])) rfl ?_
  refine Ez_cv (M := zM134) (As := [.ref (zrf a0 2)]) (st' := []) (am_site_v (y := 15) (k := 1) (ci := 1) rfl rfl (zrcv rfl (zty (ci := 10) (f := 2) (t := 1) h0 rfl) rfl)) (Nat.le_of_ble_eq_true rfl) (Nat.le_of_ble_eq_true rfl) rfl rfl (fun _ hF => zf15_ok hK (zty (ci := 10) (f := 2) (t := 1) h0 rfl) hF) hF (fun s2 hF => ?_)
  refine Ev_p 4 (c' := (11, [some (.ref a0), some (.ref a1), some (.int (-1)), some (.int 0)], [])) rfl ?_
  exact zf134_11_ok hK hst h0 h1 hF
-- PaperParcels$Emitter.putStyle(I)V
abbrev zM133 : eu_M := (133, am_in nd_i133, am_fl nd_f10, am_ct nd_k10, am_sl nd_ml nd_s133, fun _ => none, none)
theorem zf133_89_ok {K : cx_K} (hK : Kok K) (hst : hx_st K) {lg : Nat → Int64} {s' : zS} {a0 : Nat} (h0 : zsh a0 = 10)   {x1 : Int32} {x2 : Int32}  {s : zS} (hF : zf133_89 a0 x1 x2 s = some s') : Ew K zM133 (89, [some (.ref a0), some (.int x1), some (.int x2)], [], zmk lg s) 0 (.inl none) (zmk lg s') 0 := by
  unfold zf133_89 at hF
  refine Ew_p 1 (c' := (90, [some (.ref a0), some (.int x1), some (.int x2)], [.ref a0])) rfl ?_
  refine Ex_gr (M := zM133) (ci := 10) (f := 1) (t := 1) rfl rfl h0 rfl ?_
  refine Ew_p 5 (c' := (100, [some (.ref a0), some (.int x1), some (.int x2)], [.int (48 + (x2 - x2 / 10 * 10)), .ref (zrf a0 1)])) rfl ?_
  refine Ex_cv (M := zM133) (As := [.ref (zrf a0 1), .int (48 + (x2 - x2 / 10 * 10))]) (st' := []) (am_site_v (y := 13) (k := 2) (ci := 1) rfl rfl (zrcv rfl (zty (ci := 10) (f := 1) (t := 1) h0 rfl) rfl)) (Nat.le_of_ble_eq_true rfl) (Nat.le_of_ble_eq_true rfl) rfl rfl (fun _ hF => zf13_ok hK (zty (ci := 10) (f := 1) (t := 1) h0 rfl) hF) hF (fun s2 hF => ?_)
  refine Ew_p 1 (c' := (104, [some (.ref a0), some (.int x1), some (.int x2)], [.ref a0])) rfl ?_
  refine Ex_gr (M := zM133) (ci := 10) (f := 1) (t := 1) rfl rfl h0 rfl ?_
  refine Ew_p 0 (c' := (107, [some (.ref a0), some (.int x1), some (.int x2)], [.ref (zrf a0 1)])) rfl ?_
  refine Ew_ldc (M := zM133) (i := 6) hst rfl rfl rfl rfl ?_
  refine Ew_p 0 (c' := (109, [some (.ref a0), some (.int x1), some (.int x2)], [.ref (2000000 + 6), .ref (zrf a0 1)])) rfl ?_
  refine Ex_cv (M := zM133) (As := [.ref (zrf a0 1), .ref (2000000 + 6)]) (st' := []) (am_site_v (y := 121) (k := 2) (ci := 1) rfl rfl (zrcv rfl (zty (ci := 10) (f := 1) (t := 1) h0 rfl) rfl)) (Nat.le_of_ble_eq_true rfl) (Nat.le_of_ble_eq_true rfl) rfl rfl (fun _ hF => zf121_ok hK hst (zty (ci := 10) (f := 1) (t := 1) h0 rfl) rfl rfl hF) hF (fun s4 hF => ?_)
  refine Ew_p 1 (c' := (113, [some (.ref a0), some (.int x1), some (.int x2)], [.ref a0])) rfl ?_
  refine Ex_gr (M := zM133) (ci := 10) (f := 1) (t := 1) rfl rfl h0 rfl ?_
  refine Ew_p 2 (c' := (119, [some (.ref a0), some (.int x1), some (.int x2)], [.ref a0, .int 48, .ref (zrf a0 1)])) rfl ?_
  refine Ex_gr (M := zM133) (ci := 10) (f := 4) (t := 100) rfl rfl h0 rfl ?_
  refine Ew_p 1 (c' := (123, [some (.ref a0), some (.int x1), some (.int x2)], [.int x1, .ref (zrf a0 4), .int 48, .ref (zrf a0 1)])) rfl ?_
  refine Ex_al (M := zM133) rfl (zty (ci := 10) (f := 4) (t := 100) h0 rfl) hF (fun v5 hF => ?_)
  refine Ew_p 1 (c' := (125, [some (.ref a0), some (.int x1), some (.int x2)], [.int 2, .int v5, .int 48, .ref (zrf a0 1)])) rfl ?_
  refine Ex_ci (M := zM133) (As := [.int v5, .int 2]) (st' := [.int 48, .ref (zrf a0 1)]) (zsite_3 (y := 74) (k := 2) (ci := 0) rfl rfl) (Nat.le_of_ble_eq_true rfl) (Nat.le_of_ble_eq_true rfl) rfl rfl (fun _ _ hF => zf74_ok hK  hF) hF (fun v6 s7 hF => ?_)
  refine Ew_p 1 (c' := (129, [some (.ref a0), some (.int x1), some (.int x2)], [.int (48 + v6), .ref (zrf a0 1)])) rfl ?_
  refine Ex_cv (M := zM133) (As := [.ref (zrf a0 1), .int (48 + v6)]) (st' := []) (am_site_v (y := 13) (k := 2) (ci := 1) rfl rfl (zrcv rfl (zty (ci := 10) (f := 1) (t := 1) h0 rfl) rfl)) (Nat.le_of_ble_eq_true rfl) (Nat.le_of_ble_eq_true rfl) rfl rfl (fun _ hF => zf13_ok hK (zty (ci := 10) (f := 1) (t := 1) h0 rfl) hF) hF (fun s9 hF => ?_)
  refine Ew_p 1 (c' := (133, [some (.ref a0), some (.int x1), some (.int x2)], [.ref a0])) rfl ?_
  refine Ex_gr (M := zM133) (ci := 10) (f := 1) (t := 1) rfl rfl h0 rfl ?_
  refine Ew_p 0 (c' := (136, [some (.ref a0), some (.int x1), some (.int x2)], [.ref (zrf a0 1)])) rfl ?_
  refine Ew_ldc (M := zM133) (i := 7) hst rfl rfl rfl rfl ?_
  refine Ew_p 0 (c' := (138, [some (.ref a0), some (.int x1), some (.int x2)], [.ref (2000000 + 7), .ref (zrf a0 1)])) rfl ?_
  refine Ex_cv (M := zM133) (As := [.ref (zrf a0 1), .ref (2000000 + 7)]) (st' := []) (am_site_v (y := 121) (k := 2) (ci := 1) rfl rfl (zrcv rfl (zty (ci := 10) (f := 1) (t := 1) h0 rfl) rfl)) (Nat.le_of_ble_eq_true rfl) (Nat.le_of_ble_eq_true rfl) rfl rfl (fun _ hF => zf121_ok hK hst (zty (ci := 10) (f := 1) (t := 1) h0 rfl) rfl rfl hF) hF (fun s11 hF => ?_)
  refine Ew_p 0 (c' := (141, [some (.ref a0), some (.int x1), some (.int x2)], [])) rfl ?_
  exact Ex_rv (M := zM133) rfl rfl hF
theorem zf133_ok {K : cx_K} (hK : Kok K) (hst : hx_st K) {lg : Nat → Int64} {s' : zS} {a0 : Nat} (h0 : zsh a0 = 10) {x1 : Int32} {s : zS} (hF : zf133 a0 x1 s = some s') : Ct K 133 [.ref a0, .int x1] (zmk lg s) (.inl none) (zmk lg s') 0 := by
  unfold zf133 at hF
  refine Ct_of2 hK nd_ok133 (mL := 3) (rt := none) rfl rfl (Nat.le_of_ble_eq_true rfl) zlen_le ?_
  refine Ew_p 1 (c' := (1, [some (.ref a0), some (.int x1), none], [.ref a0])) rfl ?_
  refine Ex_gr (M := zM133) (ci := 10) (f := 4) (t := 100) rfl rfl h0 rfl ?_
  refine Ew_p 1 (c' := (5, [some (.ref a0), some (.int x1), none], [.int x1, .ref (zrf a0 4)])) rfl ?_
  refine Ex_al (M := zM133) rfl (zty (ci := 10) (f := 4) (t := 100) h0 rfl) hF (fun v1 hF => ?_)
  refine Ew_p 1 (c' := (7, [some (.ref a0), some (.int x1), none], [.int 1, .int v1])) rfl ?_
  refine Ex_ci (M := zM133) (As := [.int v1, .int 1]) (st' := []) (zsite_3 (y := 74) (k := 2) (ci := 0) rfl rfl) (Nat.le_of_ble_eq_true rfl) (Nat.le_of_ble_eq_true rfl) rfl rfl (fun _ _ hF => zf74_ok hK  hF) hF (fun v2 s3 hF => ?_)
  refine Ew_p 2 (c' := (12, [some (.ref a0), some (.int x1), some (.int v2)], [.ref a0])) rfl ?_
  refine Ex_gr (M := zM133) (ci := 10) (f := 1) (t := 1) rfl rfl h0 rfl ?_
  refine Ew_p 0 (c' := (15, [some (.ref a0), some (.int x1), some (.int v2)], [.ref (zrf a0 1)])) rfl ?_
  refine Ew_ldc (M := zM133) (i := 3) hst rfl rfl rfl rfl ?_
  refine Ew_p 0 (c' := (17, [some (.ref a0), some (.int x1), some (.int v2)], [.ref (2000000 + 3), .ref (zrf a0 1)])) rfl ?_
  refine Ex_cv (M := zM133) (As := [.ref (zrf a0 1), .ref (2000000 + 3)]) (st' := []) (am_site_v (y := 121) (k := 2) (ci := 1) rfl rfl (zrcv rfl (zty (ci := 10) (f := 1) (t := 1) h0 rfl) rfl)) (Nat.le_of_ble_eq_true rfl) (Nat.le_of_ble_eq_true rfl) rfl rfl (fun _ hF => zf121_ok hK hst (zty (ci := 10) (f := 1) (t := 1) h0 rfl) rfl rfl hF) hF (fun s5 hF => ?_)
  refine Ew_p 1 (c' := (21, [some (.ref a0), some (.int x1), some (.int v2)], [.ref a0])) rfl ?_
  refine Ex_gr (M := zM133) (ci := 10) (f := 1) (t := 1) rfl rfl h0 rfl ?_
  refine Ew_p 3 (c' := (28, [some (.ref a0), some (.int x1), some (.int v2)], [.int (65 + x1), .ref (zrf a0 1)])) rfl ?_
  refine Ex_cv (M := zM133) (As := [.ref (zrf a0 1), .int (65 + x1)]) (st' := []) (am_site_v (y := 13) (k := 2) (ci := 1) rfl rfl (zrcv rfl (zty (ci := 10) (f := 1) (t := 1) h0 rfl) rfl)) (Nat.le_of_ble_eq_true rfl) (Nat.le_of_ble_eq_true rfl) rfl rfl (fun _ hF => zf13_ok hK (zty (ci := 10) (f := 1) (t := 1) h0 rfl) hF) hF (fun s7 hF => ?_)
  refine Ew_p 1 (c' := (32, [some (.ref a0), some (.int x1), some (.int v2)], [.ref a0])) rfl ?_
  refine Ex_gr (M := zM133) (ci := 10) (f := 1) (t := 1) rfl rfl h0 rfl ?_
  refine Ew_p 0 (c' := (35, [some (.ref a0), some (.int x1), some (.int v2)], [.ref (zrf a0 1)])) rfl ?_
  refine Ew_ldc (M := zM133) (i := 4) hst rfl rfl rfl rfl ?_
  refine Ew_p 0 (c' := (37, [some (.ref a0), some (.int x1), some (.int v2)], [.ref (2000000 + 4), .ref (zrf a0 1)])) rfl ?_
  refine Ex_cv (M := zM133) (As := [.ref (zrf a0 1), .ref (2000000 + 4)]) (st' := []) (am_site_v (y := 121) (k := 2) (ci := 1) rfl rfl (zrcv rfl (zty (ci := 10) (f := 1) (t := 1) h0 rfl) rfl)) (Nat.le_of_ble_eq_true rfl) (Nat.le_of_ble_eq_true rfl) rfl rfl (fun _ hF => zf121_ok hK hst (zty (ci := 10) (f := 1) (t := 1) h0 rfl) rfl rfl hF) hF (fun s9 hF => ?_)
  refine Ew_p 1 (c' := (41, [some (.ref a0), some (.int x1), some (.int v2)], [.ref a0])) rfl ?_
  refine Ex_gr (M := zM133) (ci := 10) (f := 1) (t := 1) rfl rfl h0 rfl ?_
  refine Ew_p 2 (c' := (47, [some (.ref a0), some (.int x1), some (.int v2)], [.ref a0, .int 48, .ref (zrf a0 1)])) rfl ?_
  refine Ex_gr (M := zM133) (ci := 10) (f := 4) (t := 100) rfl rfl h0 rfl ?_
  refine Ew_p 1 (c' := (51, [some (.ref a0), some (.int x1), some (.int v2)], [.int x1, .ref (zrf a0 4), .int 48, .ref (zrf a0 1)])) rfl ?_
  refine Ex_al (M := zM133) rfl (zty (ci := 10) (f := 4) (t := 100) h0 rfl) hF (fun v10 hF => ?_)
  refine Ew_p 1 (c' := (53, [some (.ref a0), some (.int x1), some (.int v2)], [.int 0, .int v10, .int 48, .ref (zrf a0 1)])) rfl ?_
  refine Ex_ci (M := zM133) (As := [.int v10, .int 0]) (st' := [.int 48, .ref (zrf a0 1)]) (zsite_3 (y := 74) (k := 2) (ci := 0) rfl rfl) (Nat.le_of_ble_eq_true rfl) (Nat.le_of_ble_eq_true rfl) rfl rfl (fun _ _ hF => zf74_ok hK  hF) hF (fun v11 s12 hF => ?_)
  refine Ew_p 1 (c' := (57, [some (.ref a0), some (.int x1), some (.int v2)], [.int (48 + v11), .ref (zrf a0 1)])) rfl ?_
  refine Ex_cv (M := zM133) (As := [.ref (zrf a0 1), .int (48 + v11)]) (st' := []) (am_site_v (y := 13) (k := 2) (ci := 1) rfl rfl (zrcv rfl (zty (ci := 10) (f := 1) (t := 1) h0 rfl) rfl)) (Nat.le_of_ble_eq_true rfl) (Nat.le_of_ble_eq_true rfl) rfl rfl (fun _ hF => zf13_ok hK (zty (ci := 10) (f := 1) (t := 1) h0 rfl) hF) hF (fun s14 hF => ?_)
  refine Ew_p 1 (c' := (61, [some (.ref a0), some (.int x1), some (.int v2)], [.ref a0])) rfl ?_
  refine Ex_gr (M := zM133) (ci := 10) (f := 1) (t := 1) rfl rfl h0 rfl ?_
  refine Ew_p 0 (c' := (64, [some (.ref a0), some (.int x1), some (.int v2)], [.ref (zrf a0 1)])) rfl ?_
  refine Ew_ldc (M := zM133) (i := 5) hst rfl rfl rfl rfl ?_
  refine Ew_p 0 (c' := (66, [some (.ref a0), some (.int x1), some (.int v2)], [.ref (2000000 + 5), .ref (zrf a0 1)])) rfl ?_
  refine Ex_cv (M := zM133) (As := [.ref (zrf a0 1), .ref (2000000 + 5)]) (st' := []) (am_site_v (y := 121) (k := 2) (ci := 1) rfl rfl (zrcv rfl (zty (ci := 10) (f := 1) (t := 1) h0 rfl) rfl)) (Nat.le_of_ble_eq_true rfl) (Nat.le_of_ble_eq_true rfl) rfl rfl (fun _ hF => zf121_ok hK hst (zty (ci := 10) (f := 1) (t := 1) h0 rfl) rfl rfl hF) hF (fun s16 hF => ?_)
  refine Ew_p 2 (c' := (72, [some (.ref a0), some (.int x1), some (.int v2)], [.int 9, .int v2])) rfl ?_
  refine Ex_if (M := zM133) (b := v2 ≤ 9) rfl rfl hF (fun _ hF => ?_) (fun _ hF => ?_)
  · refine Ew_p 0 (c' := (89, [some (.ref a0), some (.int x1), some (.int v2)], [])) rfl ?_
    exact zf133_89_ok hK hst h0 hF
  · refine Ew_p 1 (c' := (76, [some (.ref a0), some (.int x1), some (.int v2)], [.ref a0])) rfl ?_
    refine Ex_gr (M := zM133) (ci := 10) (f := 1) (t := 1) rfl rfl h0 rfl ?_
    refine Ew_p 5 (c' := (86, [some (.ref a0), some (.int x1), some (.int v2)], [.int (48 + (v2 / 10)), .ref (zrf a0 1)])) rfl ?_
    refine Ex_cv (M := zM133) (As := [.ref (zrf a0 1), .int (48 + (v2 / 10))]) (st' := []) (am_site_v (y := 13) (k := 2) (ci := 1) rfl rfl (zrcv rfl (zty (ci := 10) (f := 1) (t := 1) h0 rfl) rfl)) (Nat.le_of_ble_eq_true rfl) (Nat.le_of_ble_eq_true rfl) rfl rfl (fun _ hF => zf13_ok hK (zty (ci := 10) (f := 1) (t := 1) h0 rfl) hF) hF (fun s18 hF => ?_)
    refine Ew_p 0 (c' := (89, [some (.ref a0), some (.int x1), some (.int v2)], [])) rfl ?_
    exact zf133_89_ok hK hst h0 hF
-- PaperParcels$Emitter.putSheet()V
abbrev zM120 : eu_M := (120, am_in nd_i120, am_fl nd_f10, am_ct nd_k10, am_sl nd_ml nd_s120, fun _ => none, none)
theorem zf120_35_ok {K : cx_K} (hK : Kok K) (hst : hx_st K) {lg : Nat → Int64} {s' : zS} {a0 : Nat} (h0 : zsh a0 = 10)   {n : Nat} : ∀ {x1 : Int32} {s : zS}, zf120_35 a0 n x1 s = some s' → Ew K zM120 (35, [some (.ref a0), some (.int x1)], [], zmk lg s) 0 (.inl none) (zmk lg s') 0 := by
  induction n with
  | zero => intro x1 s hF; rw [zf120_35] at hF; cases hF
  | succ n ih =>
    intro x1 s hF
    rw [zf120_35] at hF
    refine Ew_p 2 (c' := (37, [some (.ref a0), some (.int x1)], [.ref a0, .int x1])) rfl ?_
    refine Ex_gf (M := zM120) (ci := 10) (f := 5) rfl rfl h0 rfl hF (fun v1 hF => ?_)
    refine Ew_p 0 (c' := (40, [some (.ref a0), some (.int x1)], [.int v1, .int x1])) rfl ?_
    refine Ex_if (M := zM120) (b := v1 ≤ x1) rfl rfl hF (fun _ hF => ?_) (fun _ hF => ?_)
    · refine Ew_p 1 (c' := (55, [some (.ref a0), some (.int x1)], [.ref a0])) rfl ?_
      refine Ex_gr (M := zM120) (ci := 10) (f := 1) (t := 1) rfl rfl h0 rfl ?_
      refine Ew_p 0 (c' := (58, [some (.ref a0), some (.int x1)], [.ref (zrf a0 1)])) rfl ?_
      refine Ew_ldc (M := zM120) (i := 2) hst rfl rfl rfl rfl ?_
      refine Ew_p 0 (c' := (60, [some (.ref a0), some (.int x1)], [.ref (2000000 + 2), .ref (zrf a0 1)])) rfl ?_
      refine Ex_cv (M := zM120) (As := [.ref (zrf a0 1), .ref (2000000 + 2)]) (st' := []) (am_site_v (y := 121) (k := 2) (ci := 1) rfl rfl (zrcv rfl (zty (ci := 10) (f := 1) (t := 1) h0 rfl) rfl)) (Nat.le_of_ble_eq_true rfl) (Nat.le_of_ble_eq_true rfl) rfl rfl (fun _ hF => zf121_ok hK hst (zty (ci := 10) (f := 1) (t := 1) h0 rfl) rfl rfl hF) hF (fun s3 hF => ?_)
      refine Ew_p 0 (c' := (63, [some (.ref a0), some (.int x1)], [])) rfl ?_
      exact Ex_rv (M := zM120) rfl rfl hF
    · refine Ew_p 2 (c' := (45, [some (.ref a0), some (.int x1)], [.int x1, .ref a0])) rfl ?_
      refine Ex_cv (M := zM120) (As := [.ref a0, .int x1]) (st' := []) (am_site_v (y := 133) (k := 2) (ci := 10) rfl rfl (zrcv rfl h0 rfl)) (Nat.le_of_ble_eq_true rfl) (Nat.le_of_ble_eq_true rfl) rfl rfl (fun _ hF => zf133_ok hK hst h0 hF) hF (fun s5 hF => ?_)
      refine Ew_p 2 (c' := (35, [some (.ref a0), some (.int (x1 + 1))], [])) rfl ?_
      exact ih hF
theorem zf120_ok {K : cx_K} (hK : Kok K) (hst : hx_st K) {lg : Nat → Int64} {s' : zS} {a0 : Nat} (h0 : zsh a0 = 10)  {s : zS} (hF : zf120 a0 s = some s') : Ct K 120 [.ref a0] (zmk lg s) (.inl none) (zmk lg s') 0 := by
  unfold zf120 at hF
  refine Ct_of2 hK nd_ok120 (mL := 2) (rt := none) rfl rfl (Nat.le_of_ble_eq_true rfl) zlen_le ?_
  refine Ew_p 1 (c' := (1, [some (.ref a0), none], [.ref a0])) rfl ?_
  refine Ex_gr (M := zM120) (ci := 10) (f := 1) (t := 1) rfl rfl h0 rfl ?_
  refine Ew_p 0 (c' := (4, [some (.ref a0), none], [.ref (zrf a0 1)])) rfl ?_
  refine Ex_cv (M := zM120) (As := [.ref (zrf a0 1)]) (st' := []) (am_site_v (y := 15) (k := 1) (ci := 1) rfl rfl (zrcv rfl (zty (ci := 10) (f := 1) (t := 1) h0 rfl) rfl)) (Nat.le_of_ble_eq_true rfl) (Nat.le_of_ble_eq_true rfl) rfl rfl (fun _ hF => zf15_ok hK (zty (ci := 10) (f := 1) (t := 1) h0 rfl) hF) hF (fun s2 hF => ?_)
  refine Ew_p 1 (c' := (8, [some (.ref a0), none], [.ref a0])) rfl ?_
  refine Ex_gf (M := zM120) (ci := 10) (f := 5) rfl rfl h0 rfl hF (fun v3 hF => ?_)
  refine Ew_p 0 (c' := (11, [some (.ref a0), none], [.int v3])) rfl ?_
  refine Ex_if (M := zM120) (b := ¬ v3 = 0) rfl rfl hF (fun _ hF => ?_) (fun _ hF => ?_)
  · refine Ew_p 1 (c' := (25, [some (.ref a0), none], [.ref a0])) rfl ?_
    refine Ex_gr (M := zM120) (ci := 10) (f := 1) (t := 1) rfl rfl h0 rfl ?_
    refine Ew_p 0 (c' := (28, [some (.ref a0), none], [.ref (zrf a0 1)])) rfl ?_
    refine Ew_ldc (M := zM120) (i := 1) hst rfl rfl rfl rfl ?_
    refine Ew_p 0 (c' := (30, [some (.ref a0), none], [.ref (2000000 + 1), .ref (zrf a0 1)])) rfl ?_
    refine Ex_cv (M := zM120) (As := [.ref (zrf a0 1), .ref (2000000 + 1)]) (st' := []) (am_site_v (y := 121) (k := 2) (ci := 1) rfl rfl (zrcv rfl (zty (ci := 10) (f := 1) (t := 1) h0 rfl) rfl)) (Nat.le_of_ble_eq_true rfl) (Nat.le_of_ble_eq_true rfl) rfl rfl (fun _ hF => zf121_ok hK hst (zty (ci := 10) (f := 1) (t := 1) h0 rfl) rfl rfl hF) hF (fun s5 hF => ?_)
    refine Ew_p 2 (c' := (35, [some (.ref a0), some (.int 0)], [])) rfl ?_
    exact zf120_35_ok hK hst h0 hF
  · refine Ew_p 1 (c' := (15, [some (.ref a0), none], [.ref a0])) rfl ?_
    refine Ex_gr (M := zM120) (ci := 10) (f := 1) (t := 1) rfl rfl h0 rfl ?_
    refine Ew_p 0 (c' := (18, [some (.ref a0), none], [.ref (zrf a0 1)])) rfl ?_
    refine Ew_ldc (M := zM120) (i := 0) hst rfl rfl rfl rfl ?_
    refine Ew_p 0 (c' := (20, [some (.ref a0), none], [.ref (2000000 + 0), .ref (zrf a0 1)])) rfl ?_
    refine Ex_cv (M := zM120) (As := [.ref (zrf a0 1), .ref (2000000 + 0)]) (st' := []) (am_site_v (y := 121) (k := 2) (ci := 1) rfl rfl (zrcv rfl (zty (ci := 10) (f := 1) (t := 1) h0 rfl) rfl)) (Nat.le_of_ble_eq_true rfl) (Nat.le_of_ble_eq_true rfl) rfl rfl (fun _ hF => zf121_ok hK hst (zty (ci := 10) (f := 1) (t := 1) h0 rfl) rfl rfl hF) hF (fun s7 hF => ?_)
    refine Ew_p 0 (c' := (23, [some (.ref a0), none], [])) rfl ?_
    exact Ex_rv (M := zM120) rfl rfl hF
-- PaperParcels$Emitter.compose(LPaperParcels$Paper;I)Z
abbrev zM116 : ev_M := (am_in nd_i116, am_fl nd_f10, am_ct nd_k10, am_sl nd_ml nd_s116, fun _ => none, some .boolean)
theorem zf116_ok {K : cx_K} (hK : Kok K) (hst : hx_st K) {lg : Nat → Int64} {v : Int32} {s' : zS} {a0 : Nat} {a1 : Nat} (h0 : zsh a0 = 10) (h1 : zsh a1 = 2) {x2 : Int32} {s : zS} (hF : zf116 a0 a1 x2 s = some (v, s')) : Ct K 116 [.ref a0, .ref a1, .int x2] (zmk lg s) (.inl (some (.int v))) (zmk lg s') 0 := by
  unfold zf116 at hF
  refine Ct_of hK nd_ok116 (mL := 3) (rt := some .boolean) rfl rfl (Nat.le_of_ble_eq_true rfl) zlen_le ?_
  refine Ev_p 2 (c' := (2, [some (.ref a0), some (.ref a1), some (.int x2)], [.ref a1, .ref a0])) rfl ?_
  refine Ez_ci (M := zM116) (As := [.ref a0, .ref a1]) (st' := []) (am_site_v (y := 117) (k := 2) (ci := 10) rfl rfl (zrcv rfl h0 rfl)) (Nat.le_of_ble_eq_true rfl) (Nat.le_of_ble_eq_true rfl) rfl rfl (fun _ _ hF => zf117_ok hK h0 h1 hF) hF (fun v1 s2 hF => ?_)
  refine Ev_p 0 (c' := (5, [some (.ref a0), some (.ref a1), some (.int x2)], [.int v1])) rfl ?_
  refine Ez_if (M := zM116) (b := ¬ v1 = 0) rfl rfl hF (fun _ hF => ?_) (fun _ hF => ?_)
  · refine Ev_p 1 (c' := (11, [some (.ref a0), some (.ref a1), some (.int x2)], [.ref a0])) rfl ?_
    refine Ez_cv (M := zM116) (As := [.ref a0]) (st' := []) (am_site_v (y := 120) (k := 1) (ci := 10) rfl rfl (zrcv rfl h0 rfl)) (Nat.le_of_ble_eq_true rfl) (Nat.le_of_ble_eq_true rfl) rfl rfl (fun _ hF => zf120_ok hK hst h0 hF) hF (fun s4 hF => ?_)
    refine Ev_p 2 (c' := (16, [some (.ref a0), some (.ref a1), some (.int x2)], [.ref a1, .ref a0])) rfl ?_
    refine Ez_cv (M := zM116) (As := [.ref a0, .ref a1]) (st' := []) (am_site_v (y := 134) (k := 2) (ci := 10) rfl rfl (zrcv rfl h0 rfl)) (Nat.le_of_ble_eq_true rfl) (Nat.le_of_ble_eq_true rfl) rfl rfl (fun _ hF => zf134_ok hK hst h0 h1 hF) hF (fun s6 hF => ?_)
    refine Ev_p 1 (c' := (20, [some (.ref a0), some (.ref a1), some (.int x2)], [.ref a0])) rfl ?_
    refine Ez_gr (M := zM116) (ci := 10) (f := 1) (t := 1) rfl rfl h0 rfl ?_
    refine Ev_p 0 (c' := (23, [some (.ref a0), some (.ref a1), some (.int x2)], [.ref (zrf a0 1)])) rfl ?_
    refine Ez_gf (M := zM116) (ci := 1) (f := 2) rfl rfl (zty (ci := 10) (f := 1) (t := 1) h0 rfl) rfl hF (fun v7 hF => ?_)
    refine Ev_p 0 (c' := (26, [some (.ref a0), some (.ref a1), some (.int x2)], [.int v7])) rfl ?_
    refine Ez_if (M := zM116) (b := ¬ v7 = 0) rfl rfl hF (fun _ hF => ?_) (fun _ hF => ?_)
    · refine Ev_p 1 (c' := (40, [some (.ref a0), some (.ref a1), some (.int x2)], [.int 0])) rfl ?_
      exact Ez_rb (M := zM116) rfl rfl hF
    · refine Ev_p 1 (c' := (30, [some (.ref a0), some (.ref a1), some (.int x2)], [.ref a0])) rfl ?_
      refine Ez_gr (M := zM116) (ci := 10) (f := 2) (t := 1) rfl rfl h0 rfl ?_
      refine Ev_p 0 (c' := (33, [some (.ref a0), some (.ref a1), some (.int x2)], [.ref (zrf a0 2)])) rfl ?_
      refine Ez_gf (M := zM116) (ci := 1) (f := 2) rfl rfl (zty (ci := 10) (f := 2) (t := 1) h0 rfl) rfl hF (fun v8 hF => ?_)
      refine Ev_p 0 (c' := (36, [some (.ref a0), some (.ref a1), some (.int x2)], [.int v8])) rfl ?_
      refine Ez_if (M := zM116) (b := v8 = 0) rfl rfl hF (fun _ hF => ?_) (fun _ hF => ?_)
      · refine Ev_p 1 (c' := (42, [some (.ref a0), some (.ref a1), some (.int x2)], [.ref a0])) rfl ?_
        refine Ez_gr (M := zM116) (ci := 10) (f := 0) (t := 1) rfl rfl h0 rfl ?_
        refine Ev_p 0 (c' := (45, [some (.ref a0), some (.ref a1), some (.int x2)], [.ref (zrf a0 0)])) rfl ?_
        refine Ez_cv (M := zM116) (As := [.ref (zrf a0 0)]) (st' := []) (am_site_v (y := 15) (k := 1) (ci := 1) rfl rfl (zrcv rfl (zty (ci := 10) (f := 0) (t := 1) h0 rfl) rfl)) (Nat.le_of_ble_eq_true rfl) (Nat.le_of_ble_eq_true rfl) rfl rfl (fun _ hF => zf15_ok hK (zty (ci := 10) (f := 0) (t := 1) h0 rfl) hF) hF (fun s10 hF => ?_)
        refine Ev_p 3 (c' := (52, [some (.ref a0), some (.ref a1), some (.int x2)], [.ref a0, .int 83, .ref a0])) rfl ?_
        refine Ez_gr (M := zM116) (ci := 10) (f := 1) (t := 1) rfl rfl h0 rfl ?_
        refine Ev_p 1 (c' := (56, [some (.ref a0), some (.ref a1), some (.int x2)], [.int x2, .ref (zrf a0 1), .int 83, .ref a0])) rfl ?_
        refine Ez_cv (M := zM116) (As := [.ref a0, .int 83, .ref (zrf a0 1), .int x2]) (st' := []) (am_site_v (y := 140) (k := 4) (ci := 10) rfl rfl (zrcv rfl h0 rfl)) (Nat.le_of_ble_eq_true rfl) (Nat.le_of_ble_eq_true rfl) rfl rfl (fun _ hF => zf140_ok hK h0 (zty (ci := 10) (f := 1) (t := 1) h0 rfl) hF) hF (fun s12 hF => ?_)
        refine Ev_p 3 (c' := (63, [some (.ref a0), some (.ref a1), some (.int x2)], [.ref a0, .int 67, .ref a0])) rfl ?_
        refine Ez_gr (M := zM116) (ci := 10) (f := 2) (t := 1) rfl rfl h0 rfl ?_
        refine Ev_p 1 (c' := (67, [some (.ref a0), some (.ref a1), some (.int x2)], [.int x2, .ref (zrf a0 2), .int 67, .ref a0])) rfl ?_
        refine Ez_cv (M := zM116) (As := [.ref a0, .int 67, .ref (zrf a0 2), .int x2]) (st' := []) (am_site_v (y := 140) (k := 4) (ci := 10) rfl rfl (zrcv rfl h0 rfl)) (Nat.le_of_ble_eq_true rfl) (Nat.le_of_ble_eq_true rfl) rfl rfl (fun _ hF => zf140_ok hK h0 (zty (ci := 10) (f := 2) (t := 1) h0 rfl) hF) hF (fun s14 hF => ?_)
        refine Ev_p 1 (c' := (71, [some (.ref a0), some (.ref a1), some (.int x2)], [.ref a0])) rfl ?_
        refine Ez_gr (M := zM116) (ci := 10) (f := 0) (t := 1) rfl rfl h0 rfl ?_
        refine Ev_p 0 (c' := (74, [some (.ref a0), some (.ref a1), some (.int x2)], [.ref (zrf a0 0)])) rfl ?_
        refine Ez_gf (M := zM116) (ci := 1) (f := 2) rfl rfl (zty (ci := 10) (f := 0) (t := 1) h0 rfl) rfl hF (fun v15 hF => ?_)
        refine Ev_p 0 (c' := (77, [some (.ref a0), some (.ref a1), some (.int x2)], [.int v15])) rfl ?_
        refine Ez_if (M := zM116) (b := ¬ v15 = 0) rfl rfl hF (fun _ hF => ?_) (fun _ hF => ?_)
        · refine Ev_p 1 (c' := (85, [some (.ref a0), some (.ref a1), some (.int x2)], [.int 0])) rfl ?_
          exact Ez_rb (M := zM116) rfl rfl hF
        · refine Ev_p 2 (c' := (85, [some (.ref a0), some (.ref a1), some (.int x2)], [.int 1])) rfl ?_
          exact Ez_rb (M := zM116) rfl rfl hF
      · refine Ev_p 1 (c' := (40, [some (.ref a0), some (.ref a1), some (.int x2)], [.int 0])) rfl ?_
        exact Ez_rb (M := zM116) rfl rfl hF
  · refine Ev_p 1 (c' := (9, [some (.ref a0), some (.ref a1), some (.int x2)], [.int 0])) rfl ?_
    exact Ez_rb (M := zM116) rfl rfl hF
-- PaperParcels.emit(II)I
abbrev zM115 : ev_M := (am_in nd_i115, am_fl nd_f0, am_ct nd_k0, am_sl nd_ml nd_s115, nx_exc, some .int)
theorem zf115_23_ok {K : cx_K} (hK : Kok K) (hst : hx_st K) {lg : Nat → Int64} {o : am_O} {g' : Nat} {s' : zS} {a0 : Nat} (h0 : zsh a0 = 0)   {x2 : Int32} {a3 : Nat} (h3 : zsh a3 = 2) {s : zS} (hF : zf115_23 a0 x2 a3 s = some (o, s', g')) : Ev K zM115 (23, [some (.ref a0), none, some (.int x2), some (.ref a3)], [], zmk lg s) 0 (o) (zmk lg s') g' := by
  unfold zf115_23 at hF
  refine Ev_p 1 (c' := (24, [some (.ref a0), none, some (.int x2), some (.ref a3)], [.ref a3])) rfl ?_
  refine Ez_gf (M := zM115) (ci := 2) (f := 6) rfl rfl h3 rfl hF (fun v1 hF => ?_)
  refine Ev_p 0 (c' := (27, [some (.ref a0), none, some (.int x2), some (.ref a3)], [.int v1])) rfl ?_
  refine Ez_if (M := zM115) (b := ¬ v1 = 0) rfl rfl hF (fun _ hF => ?_) (fun _ hF => ?_)
  · refine Ev_p 1 (c' := (39, [some (.ref a0), none, some (.int x2), some (.ref a3)], [.ref a0])) rfl ?_
    refine Ez_gr (M := zM115) (ci := 0) (f := 4) (t := 10) rfl rfl h0 rfl ?_
    refine Ev_p 2 (c' := (44, [some (.ref a0), none, some (.int x2), some (.ref a3)], [.int x2, .ref a3, .ref (zrf a0 4)])) rfl ?_
    refine Ez_ci (M := zM115) (As := [.ref (zrf a0 4), .ref a3, .int x2]) (st' := []) (am_site_v (y := 116) (k := 3) (ci := 10) rfl rfl (zrcv rfl (zty (ci := 0) (f := 4) (t := 10) h0 rfl) rfl)) (Nat.le_of_ble_eq_true rfl) (Nat.le_of_ble_eq_true rfl) rfl rfl (fun _ _ hF => zf116_ok hK hst (zty (ci := 0) (f := 4) (t := 10) h0 rfl) h3 hF) hF (fun v2 s3 hF => ?_)
    refine Ev_p 0 (c' := (47, [some (.ref a0), none, some (.int x2), some (.ref a3)], [.int v2])) rfl ?_
    refine Ez_if (M := zM115) (b := ¬ v2 = 0) rfl rfl hF (fun _ hF => ?_) (fun _ hF => ?_)
    · refine Ev_p 1 (c' := (59, [some (.ref a0), none, some (.int x2), some (.ref a3)], [.ref a0])) rfl ?_
      refine Ez_gr (M := zM115) (ci := 0) (f := 0) (t := 1) rfl rfl h0 rfl ?_
      refine Ev_p 0 (c' := (62, [some (.ref a0), none, some (.int x2), some (.ref a3)], [.ref (zrf a0 0)])) rfl ?_
      refine Ez_cv (M := zM115) (As := [.ref (zrf a0 0)]) (st' := []) (am_site_v (y := 15) (k := 1) (ci := 1) rfl rfl (zrcv rfl (zty (ci := 0) (f := 0) (t := 1) h0 rfl) rfl)) (Nat.le_of_ble_eq_true rfl) (Nat.le_of_ble_eq_true rfl) rfl rfl (fun _ hF => zf15_ok hK (zty (ci := 0) (f := 0) (t := 1) h0 rfl) hF) hF (fun s5 hF => ?_)
      refine Ev_p 1 (c' := (66, [some (.ref a0), none, some (.int x2), some (.ref a3)], [.ref a0])) rfl ?_
      refine Ez_gr (M := zM115) (ci := 0) (f := 0) (t := 1) rfl rfl h0 rfl ?_
      refine Ev_p 1 (c' := (70, [some (.ref a0), none, some (.int x2), some (.ref a3)], [.ref a0, .ref (zrf a0 0)])) rfl ?_
      refine Ez_gr (M := zM115) (ci := 0) (f := 4) (t := 10) rfl rfl h0 rfl ?_
      refine Ev_p 0 (c' := (73, [some (.ref a0), none, some (.int x2), some (.ref a3)], [.ref (zrf a0 4), .ref (zrf a0 0)])) rfl ?_
      refine Ez_gr (M := zM115) (ci := 10) (f := 0) (t := 1) rfl rfl (zty (ci := 0) (f := 4) (t := 10) h0 rfl) rfl ?_
      refine Ev_p 0 (c' := (76, [some (.ref a0), none, some (.int x2), some (.ref a3)], [.ref (zrf (zrf a0 4) 0), .ref (zrf a0 0)])) rfl ?_
      refine Ez_cv (M := zM115) (As := [.ref (zrf a0 0), .ref (zrf (zrf a0 4) 0)]) (st' := []) (am_site_v (y := 144) (k := 2) (ci := 1) rfl rfl (zrcv rfl (zty (ci := 0) (f := 0) (t := 1) h0 rfl) rfl)) (Nat.le_of_ble_eq_true rfl) (Nat.le_of_ble_eq_true rfl) rfl rfl (fun _ hF => zf144_ok hK (zty (ci := 0) (f := 0) (t := 1) h0 rfl) (zty (ci := 10) (f := 0) (t := 1) (zty (ci := 0) (f := 4) (t := 10) h0 rfl) rfl) hF) hF (fun s7 hF => ?_)
      refine Ev_p 1 (c' := (80, [some (.ref a0), none, some (.int x2), some (.ref a3)], [.ref a0])) rfl ?_
      refine Ez_gr (M := zM115) (ci := 0) (f := 0) (t := 1) rfl rfl h0 rfl ?_
      refine Ev_p 0 (c' := (83, [some (.ref a0), none, some (.int x2), some (.ref a3)], [.ref (zrf a0 0)])) rfl ?_
      refine Ez_gf (M := zM115) (ci := 1) (f := 1) rfl rfl (zty (ci := 0) (f := 0) (t := 1) h0 rfl) rfl hF (fun v8 hF => ?_)
      refine Ev_p 0 (c' := (86, [some (.ref a0), none, some (.int x2), some (.ref a3)], [.int v8])) rfl ?_
      exact Ez_xri (M := zM115) rfl rfl hF
    · refine Ev_p 0 (c' := (50, [some (.ref a0), none, some (.int x2), some (.ref a3)], [])) rfl ?_
      exact Ez_thr (M := zM115) rfl hF
  · refine Ev_p 0 (c' := (30, [some (.ref a0), none, some (.int x2), some (.ref a3)], [])) rfl ?_
    exact Ez_thr (M := zM115) rfl hF
theorem zf115_ok {K : cx_K} (hK : Kok K) (hst : hx_st K) {lg : Nat → Int64} {o : am_O} {g' : Nat} {s' : zS} {a0 : Nat} (h0 : zsh a0 = 0) {x1 : Int32} {x2 : Int32} {s : zS} (hF : zf115 a0 x1 x2 s = some (o, s', g')) : Ct K 115 [.ref a0, .int x1, .int x2] (zmk lg s) (o) (zmk lg s') g' := by
  unfold zf115 at hF
  refine Ct_ofX hK nd_ok115 (exc := nx_exc) (nx_Xw (Nat.le_of_ble_eq_true rfl) (Nat.le_of_ble_eq_true rfl)) (mL := 4) (rt := some .int) rfl rfl (Nat.le_of_ble_eq_true rfl) zlen_le ?_
  refine Ev_p 2 (c' := (2, [some (.ref a0), some (.int x1), some (.int x2), none], [.int x1, .ref a0])) rfl ?_
  refine Ez_xr (M := zM115) (As := [.ref a0, .int x1]) (st' := []) (am_site_v (y := 83) (k := 2) (ci := 0) rfl rfl (zrcv rfl h0 rfl)) (Nat.le_of_ble_eq_true rfl) (Nat.le_of_ble_eq_true rfl) rfl rfl (fun _ _ _ hF => zf83_ok hK h0 hF) hF (fun q3 s2 hq3 hF => ?_)
  refine Ev_p 2 (c' := (7, [some (.ref a0), some (.int x1), some (.int x2), some (.ref q3)], [.int x2])) rfl ?_
  refine Ez_if (M := zM115) (b := x2 = 0) rfl rfl hF (fun _ hF => ?_) (fun _ hF => ?_)
  · refine Ev_p 0 (c' := (23, [some (.ref a0), some (.int x1), some (.int x2), some (.ref q3)], [])) rfl ?_
    refine Ev_w (L' := [some (.ref a0), none, some (.int x2), some (.ref q3)]) (zle_c (zle_n (zle_c (zle_c zle_0)))) ?_
    exact zf115_23_ok hK hst h0 hq3 hF
  · refine Ev_p 2 (c' := (12, [some (.ref a0), some (.int x1), some (.int x2), some (.ref q3)], [.int 1, .int x2])) rfl ?_
    refine Ez_if (M := zM115) (b := x2 = 1) rfl rfl hF (fun _ hF => ?_) (fun _ hF => ?_)
    · refine Ev_p 0 (c' := (23, [some (.ref a0), some (.int x1), some (.int x2), some (.ref q3)], [])) rfl ?_
      refine Ev_w (L' := [some (.ref a0), none, some (.int x2), some (.ref q3)]) (zle_c (zle_n (zle_c (zle_c zle_0)))) ?_
      exact zf115_23_ok hK hst h0 hq3 hF
    · refine Ev_p 0 (c' := (15, [some (.ref a0), some (.int x1), some (.int x2), some (.ref q3)], [])) rfl ?_
      exact Ez_thr (M := zM115) rfl hF

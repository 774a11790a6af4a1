/-! The methods as functions, and that the machine goes so (printed by wip/gen/fgen.py). -/
set_option maxRecDepth 100000
set_option linter.unusedVariables false
-- PaperParcels$Builder.addElement(I)Z
abbrev zM72 : ev_M := (am_in nd_i72, am_fl nd_f7, am_ct nd_k7, am_sl nd_ml nd_s72, fun _ => none, some .boolean)
noncomputable def zf72_129 (a0 : Nat)  (t0 : Int32) (t1 : Int32) (t3 : Int32) (s : zS) : Option (Int32 × zS) :=
  zbi (zf73 (zrf a0 1) t1 t0 s) fun v1 s2 =>
  zas s2 (zrf a0 3) t3 v1 fun s3 =>
  zrb 1 s3
theorem zf72_129_ok {K : cx_K} (hK : Kok K) {lg : Nat → Int64} {v : Int32} {s' : zS} {a0 : Nat} (h0 : zsh a0 = 7)   {t0 : Int32} {t1 : Int32} {t3 : Int32}  {s : zS} (hF : zf72_129 a0 t0 t1 t3 s = some (v, s')) : Ev K zM72 (129, [some (.ref a0), none, none, none], [.int t0, .int t1, .ref (zrf a0 1), .int t3, .ref (zrf a0 3)], zmk lg s) 0 (.inl (some (.int v))) (zmk lg s') 0 := by
  unfold zf72_129 at hF
  refine Ev_p 0 (c' := (129, [some (.ref a0), none, none, none], [.int t0, .int t1, .ref (zrf a0 1), .int t3, .ref (zrf a0 3)])) rfl ?_
  refine Ez_ci (M := zM72) (As := [.ref (zrf a0 1), .int t1, .int t0]) (st' := [.int t3, .ref (zrf a0 3)]) (am_site_v (y := 73) (k := 3) (ci := 6) rfl rfl (zrcv rfl (zty (ci := 7) (f := 1) (t := 6) h0 rfl) rfl)) (Nat.le_of_ble_eq_true rfl) (Nat.le_of_ble_eq_true rfl) rfl rfl (fun _ _ hF => zf73_ok hK (zty (ci := 7) (f := 1) (t := 6) h0 rfl) hF) hF (fun v1 s2 hF => ?_)
  refine Ev_p 0 (c' := (132, [some (.ref a0), none, none, none], [.int v1, .int t3, .ref (zrf a0 3)])) rfl ?_
  refine Ez_as (M := zM72) rfl (zty (ci := 7) (f := 3) (t := 100) h0 rfl) hF (fun s3 hF => ?_)
  refine Ev_p 1 (c' := (134, [some (.ref a0), none, none, none], [.int 1])) rfl ?_
  exact Ez_rb (M := zM72) rfl rfl hF
noncomputable def zf72_25 (a0 : Nat)  (x1 : Int32) (x2 : Int32) (t0 : Int32) (s : zS) : Option (Int32 × zS) :=
  zgf s (zrf a0 2) 6 fun v1 =>
  zas s (zrf a0 4) x1 v1 fun s2 =>
  zas s2 (zrf a0 3) x1 (-1) fun s3 =>
  zal s3 (zrf (zrf a0 0) 1) x1 fun v4 =>
  if v4 = 105 then
    zbi (zf75 (zrf a0 2) 4 t0 (-1) s3) fun v5 s6 =>
    zrb v5 s6
  else
  if v4 = 108 then
    zbi (zf75 (zrf a0 2) 3 t0 (-1) s3) fun v7 s8 =>
    zrb v7 s8
  else
  if v4 = 112 then
    zgf s3 (zrf a0 2) 6 fun v9 =>
    zpf s3 a0 5 v9 fun s10 =>
    zbi (zf73 (zrf a0 1) x1 100 s10) fun v11 s12 =>
    zas s12 (zrf a0 3) x1 v11 fun s13 =>
    zal s13 (zrf a0 3) x1 fun v14 =>
    zbi (zf75 (zrf a0 2) 1 t0 v14 s13) fun v15 s16 =>
    zrb v15 s16
  else
  if v4 = 120 then
    zas s3 (zrf a0 4) x1 t0 fun s17 =>
    if ¬ x2 = (-1) then
      zal s17 (zrf a0 3) x2 fun v18 =>
      zf72_129 a0 v18 x1 x1 s17
    else
      zf72_129 a0 100 x1 x1 s17
  else
  zbi (zf75 (zrf a0 2) 0 t0 (-1) s3) fun v19 s20 =>
  zrb v19 s20
theorem zf72_25_ok {K : cx_K} (hK : Kok K) {lg : Nat → Int64} {v : Int32} {s' : zS} {a0 : Nat} (h0 : zsh a0 = 7)   {x1 : Int32} {x2 : Int32} {t0 : Int32}  {s : zS} (hF : zf72_25 a0 x1 x2 t0 s = some (v, s')) : Ev K zM72 (25, [some (.ref a0), some (.int x1), some (.int x2), none], [.int t0], zmk lg s) 0 (.inl (some (.int v))) (zmk lg s') 0 := by
  unfold zf72_25 at hF
  refine Ev_p 2 (c' := (27, [some (.ref a0), some (.int x1), some (.int x2), some (.int t0)], [.ref a0])) rfl ?_
  refine Ez_gr (M := zM72) (ci := 7) (f := 4) (t := 100) rfl rfl h0 rfl ?_
  refine Ev_p 2 (c' := (32, [some (.ref a0), some (.int x1), some (.int x2), some (.int t0)], [.ref a0, .int x1, .ref (zrf a0 4)])) rfl ?_
  refine Ez_gr (M := zM72) (ci := 7) (f := 2) (t := 2) rfl rfl h0 rfl ?_
  refine Ev_p 0 (c' := (35, [some (.ref a0), some (.int x1), some (.int x2), some (.int t0)], [.ref (zrf a0 2), .int x1, .ref (zrf a0 4)])) rfl ?_
  refine Ez_gf (M := zM72) (ci := 2) (f := 6) rfl rfl (zty (ci := 7) (f := 2) (t := 2) h0 rfl) rfl hF (fun v1 hF => ?_)
  refine Ev_p 0 (c' := (38, [some (.ref a0), some (.int x1), some (.int x2), some (.int t0)], [.int v1, .int x1, .ref (zrf a0 4)])) rfl ?_
  refine Ez_as (M := zM72) rfl (zty (ci := 7) (f := 4) (t := 100) h0 rfl) hF (fun s2 hF => ?_)
  refine Ev_p 1 (c' := (40, [some (.ref a0), some (.int x1), some (.int x2), some (.int t0)], [.ref a0])) rfl ?_
  refine Ez_gr (M := zM72) (ci := 7) (f := 3) (t := 100) rfl rfl h0 rfl ?_
  refine Ev_p 2 (c' := (45, [some (.ref a0), some (.int x1), some (.int x2), some (.int t0)], [.int (-1), .int x1, .ref (zrf a0 3)])) rfl ?_
  refine Ez_as (M := zM72) rfl (zty (ci := 7) (f := 3) (t := 100) h0 rfl) hF (fun s3 hF => ?_)
  refine Ev_p 1 (c' := (47, [some (.ref a0), some (.int x1), some (.int x2), some (.int t0)], [.ref a0])) rfl ?_
  refine Ez_gr (M := zM72) (ci := 7) (f := 0) (t := 5) rfl rfl h0 rfl ?_
  refine Ev_p 0 (c' := (50, [some (.ref a0), some (.int x1), some (.int x2), some (.int t0)], [.ref (zrf a0 0)])) rfl ?_
  refine Ez_gr (M := zM72) (ci := 5) (f := 1) (t := 100) rfl rfl (zty (ci := 7) (f := 0) (t := 5) h0 rfl) rfl ?_
  refine Ev_p 1 (c' := (54, [some (.ref a0), some (.int x1), some (.int x2), some (.int t0)], [.int x1, .ref (zrf (zrf a0 0) 1)])) rfl ?_
  refine Ez_al (M := zM72) rfl (zty (ci := 5) (f := 1) (t := 100) (zty (ci := 7) (f := 0) (t := 5) h0 rfl) rfl) hF (fun v4 hF => ?_)
  refine Ev_p 0 (c' := (55, [some (.ref a0), some (.int x1), some (.int x2), some (.int t0)], [.int v4])) rfl ?_
  refine Ez_if0 (b := v4 = 105) hF (fun hb hF => ?_) (fun hb105 hF => ?_)
  · refine Ev_p 1 (c' := (189, [some (.ref a0), some (.int x1), some (.int x2), some (.int t0)], [])) (by rw [hb]; rfl) ?_
    refine Ev_p 1 (c' := (190, [some (.ref a0), some (.int x1), some (.int x2), some (.int t0)], [.ref a0])) rfl ?_
    refine Ez_gr (M := zM72) (ci := 7) (f := 2) (t := 2) rfl rfl h0 rfl ?_
    refine Ev_p 3 (c' := (196, [some (.ref a0), some (.int x1), some (.int x2), some (.int t0)], [.int (-1), .int t0, .int 4, .ref (zrf a0 2)])) rfl ?_
    refine Ez_ci (M := zM72) (As := [.ref (zrf a0 2), .int 4, .int t0, .int (-1)]) (st' := []) (am_site_v (y := 75) (k := 4) (ci := 2) rfl rfl (zrcv rfl (zty (ci := 7) (f := 2) (t := 2) h0 rfl) rfl)) (Nat.le_of_ble_eq_true rfl) (Nat.le_of_ble_eq_true rfl) rfl rfl (fun _ _ hF => zf75_ok hK (zty (ci := 7) (f := 2) (t := 2) h0 rfl) hF) hF (fun v5 s6 hF => ?_)
    refine Ev_p 0 (c' := (199, [some (.ref a0), some (.int x1), some (.int x2), some (.int t0)], [.int v5])) rfl ?_
    exact Ez_rb (M := zM72) rfl rfl hF
  refine Ez_if0 (b := v4 = 108) hF (fun hb hF => ?_) (fun hb108 hF => ?_)
  · refine Ev_p 1 (c' := (178, [some (.ref a0), some (.int x1), some (.int x2), some (.int t0)], [])) (by rw [hb]; rfl) ?_
    refine Ev_p 1 (c' := (179, [some (.ref a0), some (.int x1), some (.int x2), some (.int t0)], [.ref a0])) rfl ?_
    refine Ez_gr (M := zM72) (ci := 7) (f := 2) (t := 2) rfl rfl h0 rfl ?_
    refine Ev_p 3 (c' := (185, [some (.ref a0), some (.int x1), some (.int x2), some (.int t0)], [.int (-1), .int t0, .int 3, .ref (zrf a0 2)])) rfl ?_
    refine Ez_ci (M := zM72) (As := [.ref (zrf a0 2), .int 3, .int t0, .int (-1)]) (st' := []) (am_site_v (y := 75) (k := 4) (ci := 2) rfl rfl (zrcv rfl (zty (ci := 7) (f := 2) (t := 2) h0 rfl) rfl)) (Nat.le_of_ble_eq_true rfl) (Nat.le_of_ble_eq_true rfl) rfl rfl (fun _ _ hF => zf75_ok hK (zty (ci := 7) (f := 2) (t := 2) h0 rfl) hF) hF (fun v7 s8 hF => ?_)
    refine Ev_p 0 (c' := (188, [some (.ref a0), some (.int x1), some (.int x2), some (.int t0)], [.int v7])) rfl ?_
    exact Ez_rb (M := zM72) rfl rfl hF
  refine Ez_if0 (b := v4 = 112) hF (fun hb hF => ?_) (fun hb112 hF => ?_)
  · refine Ev_p 1 (c' := (135, [some (.ref a0), some (.int x1), some (.int x2), some (.int t0)], [])) (by rw [hb]; rfl) ?_
    refine Ev_p 2 (c' := (137, [some (.ref a0), some (.int x1), some (.int x2), some (.int t0)], [.ref a0, .ref a0])) rfl ?_
    refine Ez_gr (M := zM72) (ci := 7) (f := 2) (t := 2) rfl rfl h0 rfl ?_
    refine Ev_p 0 (c' := (140, [some (.ref a0), some (.int x1), some (.int x2), some (.int t0)], [.ref (zrf a0 2), .ref a0])) rfl ?_
    refine Ez_gf (M := zM72) (ci := 2) (f := 6) rfl rfl (zty (ci := 7) (f := 2) (t := 2) h0 rfl) rfl hF (fun v9 hF => ?_)
    refine Ev_p 0 (c' := (143, [some (.ref a0), some (.int x1), some (.int x2), some (.int t0)], [.int v9, .ref a0])) rfl ?_
    refine Ez_pf (M := zM72) (ci := 7) (f := 5) rfl rfl h0 rfl hF (fun s10 hF => ?_)
    refine Ev_p 1 (c' := (147, [some (.ref a0), some (.int x1), some (.int x2), some (.int t0)], [.ref a0])) rfl ?_
    refine Ez_gr (M := zM72) (ci := 7) (f := 3) (t := 100) rfl rfl h0 rfl ?_
    refine Ev_p 2 (c' := (152, [some (.ref a0), some (.int x1), some (.int x2), some (.int t0)], [.ref a0, .int x1, .ref (zrf a0 3)])) rfl ?_
    refine Ez_gr (M := zM72) (ci := 7) (f := 1) (t := 6) rfl rfl h0 rfl ?_
    refine Ev_p 2 (c' := (158, [some (.ref a0), some (.int x1), some (.int x2), some (.int t0)], [.int 100, .int x1, .ref (zrf a0 1), .int x1, .ref (zrf a0 3)])) rfl ?_
    refine Ez_ci (M := zM72) (As := [.ref (zrf a0 1), .int x1, .int 100]) (st' := [.int x1, .ref (zrf a0 3)]) (am_site_v (y := 73) (k := 3) (ci := 6) rfl rfl (zrcv rfl (zty (ci := 7) (f := 1) (t := 6) h0 rfl) rfl)) (Nat.le_of_ble_eq_true rfl) (Nat.le_of_ble_eq_true rfl) rfl rfl (fun _ _ hF => zf73_ok hK (zty (ci := 7) (f := 1) (t := 6) h0 rfl) hF) hF (fun v11 s12 hF => ?_)
    refine Ev_p 0 (c' := (161, [some (.ref a0), some (.int x1), some (.int x2), some (.int t0)], [.int v11, .int x1, .ref (zrf a0 3)])) rfl ?_
    refine Ez_as (M := zM72) rfl (zty (ci := 7) (f := 3) (t := 100) h0 rfl) hF (fun s13 hF => ?_)
    refine Ev_p 1 (c' := (163, [some (.ref a0), some (.int x1), some (.int x2), some (.int t0)], [.ref a0])) rfl ?_
    refine Ez_gr (M := zM72) (ci := 7) (f := 2) (t := 2) rfl rfl h0 rfl ?_
    refine Ev_p 3 (c' := (169, [some (.ref a0), some (.int x1), some (.int x2), some (.int t0)], [.ref a0, .int t0, .int 1, .ref (zrf a0 2)])) rfl ?_
    refine Ez_gr (M := zM72) (ci := 7) (f := 3) (t := 100) rfl rfl h0 rfl ?_
    refine Ev_p 1 (c' := (173, [some (.ref a0), some (.int x1), some (.int x2), some (.int t0)], [.int x1, .ref (zrf a0 3), .int t0, .int 1, .ref (zrf a0 2)])) rfl ?_
    refine Ez_al (M := zM72) rfl (zty (ci := 7) (f := 3) (t := 100) h0 rfl) hF (fun v14 hF => ?_)
    refine Ev_p 0 (c' := (174, [some (.ref a0), some (.int x1), some (.int x2), some (.int t0)], [.int v14, .int t0, .int 1, .ref (zrf a0 2)])) rfl ?_
    refine Ez_ci (M := zM72) (As := [.ref (zrf a0 2), .int 1, .int t0, .int v14]) (st' := []) (am_site_v (y := 75) (k := 4) (ci := 2) rfl rfl (zrcv rfl (zty (ci := 7) (f := 2) (t := 2) h0 rfl) rfl)) (Nat.le_of_ble_eq_true rfl) (Nat.le_of_ble_eq_true rfl) rfl rfl (fun _ _ hF => zf75_ok hK (zty (ci := 7) (f := 2) (t := 2) h0 rfl) hF) hF (fun v15 s16 hF => ?_)
    refine Ev_p 0 (c' := (177, [some (.ref a0), some (.int x1), some (.int x2), some (.int t0)], [.int v15])) rfl ?_
    exact Ez_rb (M := zM72) rfl rfl hF
  refine Ez_if0 (b := v4 = 120) hF (fun hb hF => ?_) (fun hb120 hF => ?_)
  · refine Ev_p 1 (c' := (96, [some (.ref a0), some (.int x1), some (.int x2), some (.int t0)], [])) (by rw [hb]; rfl) ?_
    refine Ev_p 1 (c' := (97, [some (.ref a0), some (.int x1), some (.int x2), some (.int t0)], [.ref a0])) rfl ?_
    refine Ez_gr (M := zM72) (ci := 7) (f := 4) (t := 100) rfl rfl h0 rfl ?_
    refine Ev_p 2 (c' := (102, [some (.ref a0), some (.int x1), some (.int x2), some (.int t0)], [.int t0, .int x1, .ref (zrf a0 4)])) rfl ?_
    refine Ez_as (M := zM72) rfl (zty (ci := 7) (f := 4) (t := 100) h0 rfl) hF (fun s17 hF => ?_)
    refine Ev_p 1 (c' := (104, [some (.ref a0), some (.int x1), some (.int x2), some (.int t0)], [.ref a0])) rfl ?_
    refine Ez_gr (M := zM72) (ci := 7) (f := 3) (t := 100) rfl rfl h0 rfl ?_
    refine Ev_p 2 (c' := (109, [some (.ref a0), some (.int x1), some (.int x2), some (.int t0)], [.ref a0, .int x1, .ref (zrf a0 3)])) rfl ?_
    refine Ez_gr (M := zM72) (ci := 7) (f := 1) (t := 6) rfl rfl h0 rfl ?_
    refine Ev_p 3 (c' := (115, [some (.ref a0), some (.int x1), some (.int x2), some (.int t0)], [.int (-1), .int x2, .int x1, .ref (zrf a0 1), .int x1, .ref (zrf a0 3)])) rfl ?_
    refine Ez_if (M := zM72) (b := ¬ x2 = (-1)) rfl rfl hF (fun _ hF => ?_) (fun _ hF => ?_)
    · refine Ev_p 1 (c' := (124, [some (.ref a0), some (.int x1), some (.int x2), some (.int t0)], [.ref a0, .int x1, .ref (zrf a0 1), .int x1, .ref (zrf a0 3)])) rfl ?_
      refine Ez_gr (M := zM72) (ci := 7) (f := 3) (t := 100) rfl rfl h0 rfl ?_
      refine Ev_p 1 (c' := (128, [some (.ref a0), some (.int x1), some (.int x2), some (.int t0)], [.int x2, .ref (zrf a0 3), .int x1, .ref (zrf a0 1), .int x1, .ref (zrf a0 3)])) rfl ?_
      refine Ez_al (M := zM72) rfl (zty (ci := 7) (f := 3) (t := 100) h0 rfl) hF (fun v18 hF => ?_)
      refine Ev_p 0 (c' := (129, [some (.ref a0), some (.int x1), some (.int x2), some (.int t0)], [.int v18, .int x1, .ref (zrf a0 1), .int x1, .ref (zrf a0 3)])) rfl ?_
      refine Ev_w (L' := [some (.ref a0), none, none, none]) (zle_c (zle_n (zle_n (zle_n zle_0)))) ?_
      exact zf72_129_ok hK h0 hF
    · refine Ev_p 2 (c' := (129, [some (.ref a0), some (.int x1), some (.int x2), some (.int t0)], [.int 100, .int x1, .ref (zrf a0 1), .int x1, .ref (zrf a0 3)])) rfl ?_
      refine Ev_w (L' := [some (.ref a0), none, none, none]) (zle_c (zle_n (zle_n (zle_n zle_0)))) ?_
      exact zf72_129_ok hK h0 hF
  refine Ez_sw (M := zM72) (t := 200) rfl rfl rfl rfl (List.forall_mem_cons.mpr ⟨zne hb105 rfl, (List.forall_mem_cons.mpr ⟨zne hb108 rfl, (List.forall_mem_cons.mpr ⟨zne hb112 rfl, (List.forall_mem_cons.mpr ⟨zne hb120 rfl, (fun _ h => nomatch h)⟩)⟩)⟩)⟩) ?_
  refine Ev_p 1 (c' := (201, [some (.ref a0), some (.int x1), some (.int x2), some (.int t0)], [.ref a0])) rfl ?_
  refine Ez_gr (M := zM72) (ci := 7) (f := 2) (t := 2) rfl rfl h0 rfl ?_
  refine Ev_p 3 (c' := (207, [some (.ref a0), some (.int x1), some (.int x2), some (.int t0)], [.int (-1), .int t0, .int 0, .ref (zrf a0 2)])) rfl ?_
  refine Ez_ci (M := zM72) (As := [.ref (zrf a0 2), .int 0, .int t0, .int (-1)]) (st' := []) (am_site_v (y := 75) (k := 4) (ci := 2) rfl rfl (zrcv rfl (zty (ci := 7) (f := 2) (t := 2) h0 rfl) rfl)) (Nat.le_of_ble_eq_true rfl) (Nat.le_of_ble_eq_true rfl) rfl rfl (fun _ _ hF => zf75_ok hK (zty (ci := 7) (f := 2) (t := 2) h0 rfl) hF) hF (fun v19 s20 hF => ?_)
  refine Ev_p 0 (c' := (210, [some (.ref a0), some (.int x1), some (.int x2), some (.int t0)], [.int v19])) rfl ?_
  exact Ez_rb (M := zM72) rfl rfl hF
noncomputable def zf72 (a0 : Nat) (x1 : Int32) (s : zS) : Option (Int32 × zS) :=
  zal s (zrf (zrf a0 0) 3) x1 fun v1 =>
  if ¬ v1 = (-1) then
    zal s (zrf a0 4) v1 fun v2 =>
    zf72_25 a0 x1 v1 v2 s
  else
    zf72_25 a0 x1 v1 (-1) s
theorem zf72_ok {K : cx_K} (hK : Kok K) {lg : Nat → Int64} {v : Int32} {s' : zS} {a0 : Nat} (h0 : zsh a0 = 7) {x1 : Int32} {s : zS} (hF : zf72 a0 x1 s = some (v, s')) : Ct K 72 [.ref a0, .int x1] (zmk lg s) (.inl (some (.int v))) (zmk lg s') 0 := by
  unfold zf72 at hF
  refine Ct_of hK nd_ok72 (mL := 4) (rt := some .boolean) rfl rfl (Nat.le_of_ble_eq_true rfl) zlen_le ?_
  refine Ev_p 1 (c' := (1, [some (.ref a0), some (.int x1), none, none], [.ref a0])) rfl ?_
  refine Ez_gr (M := zM72) (ci := 7) (f := 0) (t := 5) rfl rfl h0 rfl ?_
  refine Ev_p 0 (c' := (4, [some (.ref a0), some (.int x1), none, none], [.ref (zrf a0 0)])) rfl ?_
  refine Ez_gr (M := zM72) (ci := 5) (f := 3) (t := 100) rfl rfl (zty (ci := 7) (f := 0) (t := 5) h0 rfl) rfl ?_
  refine Ev_p 1 (c' := (8, [some (.ref a0), some (.int x1), none, none], [.int x1, .ref (zrf (zrf a0 0) 3)])) rfl ?_
  refine Ez_al (M := zM72) rfl (zty (ci := 5) (f := 3) (t := 100) (zty (ci := 7) (f := 0) (t := 5) h0 rfl) rfl) hF (fun v1 hF => ?_)
  refine Ev_p 3 (c' := (12, [some (.ref a0), some (.int x1), some (.int v1), none], [.int (-1), .int v1])) rfl ?_
  refine Ez_if (M := zM72) (b := ¬ v1 = (-1)) rfl rfl hF (fun _ hF => ?_) (fun _ hF => ?_)
  · refine Ev_p 1 (c' := (20, [some (.ref a0), some (.int x1), some (.int v1), none], [.ref a0])) rfl ?_
    refine Ez_gr (M := zM72) (ci := 7) (f := 4) (t := 100) rfl rfl h0 rfl ?_
    refine Ev_p 1 (c' := (24, [some (.ref a0), some (.int x1), some (.int v1), none], [.int v1, .ref (zrf a0 4)])) rfl ?_
    refine Ez_al (M := zM72) rfl (zty (ci := 7) (f := 4) (t := 100) h0 rfl) hF (fun v2 hF => ?_)
    refine Ev_p 0 (c' := (25, [some (.ref a0), some (.int x1), some (.int v1), none], [.int v2])) rfl ?_
    exact zf72_25_ok hK h0 hF
  · refine Ev_p 2 (c' := (25, [some (.ref a0), some (.int x1), some (.int v1), none], [.int (-1)])) rfl ?_
    exact zf72_25_ok hK h0 hF
-- PaperParcels$Paper.endsInRun(I)Z
abbrev zM77 : ev_M := (am_in nd_i77, am_fl nd_f2, am_ct nd_k2, am_sl nd_ml nd_s77, fun _ => none, some .boolean)
noncomputable def zf77 (a0 : Nat) (x1 : Int32) (s : zS) : Option (Int32 × zS) :=
  zgf s a0 6 fun v1 =>
  if v1 ≤ 0 then
    zrb 0 s
  else
    zgf s a0 6 fun v2 =>
    zal s (zrf a0 0) (v2 - 1) fun v3 =>
    if ¬ v3 = 2 then
      zrb 0 s
    else
      zgf s a0 6 fun v4 =>
      zal s (zrf a0 2) (v4 - 1) fun v5 =>
      if ¬ v5 = x1 then
        zrb 0 s
      else
        zrb 1 s
theorem zf77_ok {K : cx_K} (hK : Kok K) {lg : Nat → Int64} {v : Int32} {s' : zS} {a0 : Nat} (h0 : zsh a0 = 2) {x1 : Int32} {s : zS} (hF : zf77 a0 x1 s = some (v, s')) : Ct K 77 [.ref a0, .int x1] (zmk lg s) (.inl (some (.int v))) (zmk lg s') 0 := by
  unfold zf77 at hF
  refine Ct_of hK nd_ok77 (mL := 2) (rt := some .boolean) rfl rfl (Nat.le_of_ble_eq_true rfl) zlen_le ?_
  refine Ev_p 1 (c' := (1, [some (.ref a0), some (.int x1)], [.ref a0])) rfl ?_
  refine Ez_gf (M := zM77) (ci := 2) (f := 6) rfl rfl h0 rfl hF (fun v1 hF => ?_)
  refine Ev_p 0 (c' := (4, [some (.ref a0), some (.int x1)], [.int v1])) rfl ?_
  refine Ez_if (M := zM77) (b := v1 ≤ 0) rfl rfl hF (fun _ hF => ?_) (fun _ hF => ?_)
  · refine Ev_p 1 (c' := (42, [some (.ref a0), some (.int x1)], [.int 0])) rfl ?_
    exact Ez_rb (M := zM77) rfl rfl hF
  · refine Ev_p 1 (c' := (8, [some (.ref a0), some (.int x1)], [.ref a0])) rfl ?_
    refine Ez_gr (M := zM77) (ci := 2) (f := 0) (t := 100) rfl rfl h0 rfl ?_
    refine Ev_p 1 (c' := (12, [some (.ref a0), some (.int x1)], [.ref a0, .ref (zrf a0 0)])) rfl ?_
    refine Ez_gf (M := zM77) (ci := 2) (f := 6) rfl rfl h0 rfl hF (fun v2 hF => ?_)
    refine Ev_p 2 (c' := (17, [some (.ref a0), some (.int x1)], [.int (v2 - 1), .ref (zrf a0 0)])) rfl ?_
    refine Ez_al (M := zM77) rfl (zty (ci := 2) (f := 0) (t := 100) h0 rfl) hF (fun v3 hF => ?_)
    refine Ev_p 1 (c' := (19, [some (.ref a0), some (.int x1)], [.int 2, .int v3])) rfl ?_
    refine Ez_if (M := zM77) (b := ¬ v3 = 2) rfl rfl hF (fun _ hF => ?_) (fun _ hF => ?_)
    · refine Ev_p 1 (c' := (42, [some (.ref a0), some (.int x1)], [.int 0])) rfl ?_
      exact Ez_rb (M := zM77) rfl rfl hF
    · refine Ev_p 1 (c' := (23, [some (.ref a0), some (.int x1)], [.ref a0])) rfl ?_
      refine Ez_gr (M := zM77) (ci := 2) (f := 2) (t := 100) rfl rfl h0 rfl ?_
      refine Ev_p 1 (c' := (27, [some (.ref a0), some (.int x1)], [.ref a0, .ref (zrf a0 2)])) rfl ?_
      refine Ez_gf (M := zM77) (ci := 2) (f := 6) rfl rfl h0 rfl hF (fun v4 hF => ?_)
      refine Ev_p 2 (c' := (32, [some (.ref a0), some (.int x1)], [.int (v4 - 1), .ref (zrf a0 2)])) rfl ?_
      refine Ez_al (M := zM77) rfl (zty (ci := 2) (f := 2) (t := 100) h0 rfl) hF (fun v5 hF => ?_)
      refine Ev_p 1 (c' := (34, [some (.ref a0), some (.int x1)], [.int x1, .int v5])) rfl ?_
      refine Ez_if (M := zM77) (b := ¬ v5 = x1) rfl rfl hF (fun _ hF => ?_) (fun _ hF => ?_)
      · refine Ev_p 1 (c' := (42, [some (.ref a0), some (.int x1)], [.int 0])) rfl ?_
        exact Ez_rb (M := zM77) rfl rfl hF
      · refine Ev_p 2 (c' := (42, [some (.ref a0), some (.int x1)], [.int 1])) rfl ?_
        exact Ez_rb (M := zM77) rfl rfl hF
-- PaperParcels$Paper.addSign(I)V
abbrev zM78 : ev_M := (am_in nd_i78, am_fl nd_f2, am_ct nd_k2, am_sl nd_ml nd_s78, fun _ => none, none)
noncomputable def zf78 (a0 : Nat) (x1 : Int32) (s : zS) : Option (zS) :=
  zgf s a0 6 fun v1 =>
  if v1 ≤ 0 then
    some s
  else
    zbv (zf13 (zrf a0 5) x1 s) fun s3 =>
    zgf s3 a0 6 fun v4 =>
    zgf s3 (zrf a0 5) 1 fun v5 =>
    zgf s3 a0 6 fun v6 =>
    zal s3 (zrf a0 3) (v6 - 1) fun v7 =>
    zas s3 (zrf a0 4) (v4 - 1) (v5 - v7) fun s8 =>
    some s8
theorem zf78_ok {K : cx_K} (hK : Kok K) {lg : Nat → Int64} {s' : zS} {a0 : Nat} (h0 : zsh a0 = 2) {x1 : Int32} {s : zS} (hF : zf78 a0 x1 s = some s') : Ct K 78 [.ref a0, .int x1] (zmk lg s) (.inl none) (zmk lg s') 0 := by
  unfold zf78 at hF
  refine Ct_of hK nd_ok78 (mL := 2) (rt := none) rfl rfl (Nat.le_of_ble_eq_true rfl) zlen_le ?_
  refine Ev_p 1 (c' := (1, [some (.ref a0), some (.int x1)], [.ref a0])) rfl ?_
  refine Ez_gf (M := zM78) (ci := 2) (f := 6) rfl rfl h0 rfl hF (fun v1 hF => ?_)
  refine Ev_p 0 (c' := (4, [some (.ref a0), some (.int x1)], [.int v1])) rfl ?_
  refine Ez_if (M := zM78) (b := v1 ≤ 0) rfl rfl hF (fun _ hF => ?_) (fun _ hF => ?_)
  · refine Ev_p 0 (c' := (45, [some (.ref a0), some (.int x1)], [])) rfl ?_
    exact Ez_rv (M := zM78) rfl rfl hF
  · refine Ev_p 1 (c' := (8, [some (.ref a0), some (.int x1)], [.ref a0])) rfl ?_
    refine Ez_gr (M := zM78) (ci := 2) (f := 5) (t := 1) rfl rfl h0 rfl ?_
    refine Ev_p 1 (c' := (12, [some (.ref a0), some (.int x1)], [.int x1, .ref (zrf a0 5)])) rfl ?_
    refine Ez_cv (M := zM78) (As := [.ref (zrf a0 5), .int x1]) (st' := []) (am_site_v (y := 13) (k := 2) (ci := 1) rfl rfl (zrcv rfl (zty (ci := 2) (f := 5) (t := 1) h0 rfl) rfl)) (Nat.le_of_ble_eq_true rfl) (Nat.le_of_ble_eq_true rfl) rfl rfl (fun _ hF => zf13_ok hK (zty (ci := 2) (f := 5) (t := 1) h0 rfl) hF) hF (fun s3 hF => ?_)
    refine Ev_p 1 (c' := (16, [some (.ref a0), some (.int x1)], [.ref a0])) rfl ?_
    refine Ez_gr (M := zM78) (ci := 2) (f := 4) (t := 100) rfl rfl h0 rfl ?_
    refine Ev_p 1 (c' := (20, [some (.ref a0), some (.int x1)], [.ref a0, .ref (zrf a0 4)])) rfl ?_
    refine Ez_gf (M := zM78) (ci := 2) (f := 6) rfl rfl h0 rfl hF (fun v4 hF => ?_)
    refine Ev_p 3 (c' := (26, [some (.ref a0), some (.int x1)], [.ref a0, .int (v4 - 1), .ref (zrf a0 4)])) rfl ?_
    refine Ez_gr (M := zM78) (ci := 2) (f := 5) (t := 1) rfl rfl h0 rfl ?_
    refine Ev_p 0 (c' := (29, [some (.ref a0), some (.int x1)], [.ref (zrf a0 5), .int (v4 - 1), .ref (zrf a0 4)])) rfl ?_
    refine Ez_gf (M := zM78) (ci := 1) (f := 1) rfl rfl (zty (ci := 2) (f := 5) (t := 1) h0 rfl) rfl hF (fun v5 hF => ?_)
    refine Ev_p 1 (c' := (33, [some (.ref a0), some (.int x1)], [.ref a0, .int v5, .int (v4 - 1), .ref (zrf a0 4)])) rfl ?_
    refine Ez_gr (M := zM78) (ci := 2) (f := 3) (t := 100) rfl rfl h0 rfl ?_
    refine Ev_p 1 (c' := (37, [some (.ref a0), some (.int x1)], [.ref a0, .ref (zrf a0 3), .int v5, .int (v4 - 1), .ref (zrf a0 4)])) rfl ?_
    refine Ez_gf (M := zM78) (ci := 2) (f := 6) rfl rfl h0 rfl hF (fun v6 hF => ?_)
    refine Ev_p 2 (c' := (42, [some (.ref a0), some (.int x1)], [.int (v6 - 1), .ref (zrf a0 3), .int v5, .int (v4 - 1), .ref (zrf a0 4)])) rfl ?_
    refine Ez_al (M := zM78) rfl (zty (ci := 2) (f := 3) (t := 100) h0 rfl) hF (fun v7 hF => ?_)
    refine Ev_p 1 (c' := (44, [some (.ref a0), some (.int x1)], [.int (v5 - v7), .int (v4 - 1), .ref (zrf a0 4)])) rfl ?_
    refine Ez_as (M := zM78) rfl (zty (ci := 2) (f := 4) (t := 100) h0 rfl) hF (fun s8 hF => ?_)
    refine Ev_p 0 (c' := (45, [some (.ref a0), some (.int x1)], [])) rfl ?_
    exact Ez_rv (M := zM78) rfl rfl hF
-- PaperParcels$Builder.addLetter(II)Z
abbrev zM76 : ev_M := (am_in nd_i76, am_fl nd_f7, am_ct nd_k7, am_sl nd_ml nd_s76, fun _ => none, some .boolean)
noncomputable def zf76_29 (a0 : Nat)  (x2 : Int32) (s : zS) : Option (Int32 × zS) :=
  zbv (zf78 (zrf a0 2) x2 s) fun s2 =>
  zrb 1 s2
theorem zf76_29_ok {K : cx_K} (hK : Kok K) {lg : Nat → Int64} {v : Int32} {s' : zS} {a0 : Nat} (h0 : zsh a0 = 7)   {x2 : Int32}  {s : zS} (hF : zf76_29 a0 x2 s = some (v, s')) : Ev K zM76 (29, [some (.ref a0), none, some (.int x2)], [], zmk lg s) 0 (.inl (some (.int v))) (zmk lg s') 0 := by
  unfold zf76_29 at hF
  refine Ev_p 1 (c' := (30, [some (.ref a0), none, some (.int x2)], [.ref a0])) rfl ?_
  refine Ez_gr (M := zM76) (ci := 7) (f := 2) (t := 2) rfl rfl h0 rfl ?_
  refine Ev_p 1 (c' := (34, [some (.ref a0), none, some (.int x2)], [.int x2, .ref (zrf a0 2)])) rfl ?_
  refine Ez_cv (M := zM76) (As := [.ref (zrf a0 2), .int x2]) (st' := []) (am_site_v (y := 78) (k := 2) (ci := 2) rfl rfl (zrcv rfl (zty (ci := 7) (f := 2) (t := 2) h0 rfl) rfl)) (Nat.le_of_ble_eq_true rfl) (Nat.le_of_ble_eq_true rfl) rfl rfl (fun _ hF => zf78_ok hK (zty (ci := 7) (f := 2) (t := 2) h0 rfl) hF) hF (fun s2 hF => ?_)
  refine Ev_p 1 (c' := (38, [some (.ref a0), none, some (.int x2)], [.int 1])) rfl ?_
  exact Ez_rb (M := zM76) rfl rfl hF
noncomputable def zf76 (a0 : Nat) (x1 : Int32) (x2 : Int32) (s : zS) : Option (Int32 × zS) :=
  zbi (zf77 (zrf a0 2) x1 s) fun v1 s2 =>
  if ¬ v1 = 0 then
    zf76_29 a0 x2 s2
  else
    zgf s2 a0 5 fun v3 =>
    zbi (zf75 (zrf a0 2) 2 v3 x1 s2) fun v4 s5 =>
    if ¬ v4 = 0 then
      zf76_29 a0 x2 s5
    else
      zrb 0 s5
theorem zf76_ok {K : cx_K} (hK : Kok K) {lg : Nat → Int64} {v : Int32} {s' : zS} {a0 : Nat} (h0 : zsh a0 = 7) {x1 : Int32} {x2 : Int32} {s : zS} (hF : zf76 a0 x1 x2 s = some (v, s')) : Ct K 76 [.ref a0, .int x1, .int x2] (zmk lg s) (.inl (some (.int v))) (zmk lg s') 0 := by
  unfold zf76 at hF
  refine Ct_of hK nd_ok76 (mL := 3) (rt := some .boolean) rfl rfl (Nat.le_of_ble_eq_true rfl) zlen_le ?_
  refine Ev_p 1 (c' := (1, [some (.ref a0), some (.int x1), some (.int x2)], [.ref a0])) rfl ?_
  refine Ez_gr (M := zM76) (ci := 7) (f := 2) (t := 2) rfl rfl h0 rfl ?_
  refine Ev_p 1 (c' := (5, [some (.ref a0), some (.int x1), some (.int x2)], [.int x1, .ref (zrf a0 2)])) rfl ?_
  refine Ez_ci (M := zM76) (As := [.ref (zrf a0 2), .int x1]) (st' := []) (am_site_v (y := 77) (k := 2) (ci := 2) rfl rfl (zrcv rfl (zty (ci := 7) (f := 2) (t := 2) h0 rfl) rfl)) (Nat.le_of_ble_eq_true rfl) (Nat.le_of_ble_eq_true rfl) rfl rfl (fun _ _ hF => zf77_ok hK (zty (ci := 7) (f := 2) (t := 2) h0 rfl) hF) hF (fun v1 s2 hF => ?_)
  refine Ev_p 0 (c' := (8, [some (.ref a0), some (.int x1), some (.int x2)], [.int v1])) rfl ?_
  refine Ez_if (M := zM76) (b := ¬ v1 = 0) rfl rfl hF (fun _ hF => ?_) (fun _ hF => ?_)
  · refine Ev_p 0 (c' := (29, [some (.ref a0), some (.int x1), some (.int x2)], [])) rfl ?_
    refine Ev_w (L' := [some (.ref a0), none, some (.int x2)]) (zle_c (zle_n (zle_c zle_0))) ?_
    exact zf76_29_ok hK h0 hF
  · refine Ev_p 1 (c' := (12, [some (.ref a0), some (.int x1), some (.int x2)], [.ref a0])) rfl ?_
    refine Ez_gr (M := zM76) (ci := 7) (f := 2) (t := 2) rfl rfl h0 rfl ?_
    refine Ev_p 2 (c' := (17, [some (.ref a0), some (.int x1), some (.int x2)], [.ref a0, .int 2, .ref (zrf a0 2)])) rfl ?_
    refine Ez_gf (M := zM76) (ci := 7) (f := 5) rfl rfl h0 rfl hF (fun v3 hF => ?_)
    refine Ev_p 1 (c' := (21, [some (.ref a0), some (.int x1), some (.int x2)], [.int x1, .int v3, .int 2, .ref (zrf a0 2)])) rfl ?_
    refine Ez_ci (M := zM76) (As := [.ref (zrf a0 2), .int 2, .int v3, .int x1]) (st' := []) (am_site_v (y := 75) (k := 4) (ci := 2) rfl rfl (zrcv rfl (zty (ci := 7) (f := 2) (t := 2) h0 rfl) rfl)) (Nat.le_of_ble_eq_true rfl) (Nat.le_of_ble_eq_true rfl) rfl rfl (fun _ _ hF => zf75_ok hK (zty (ci := 7) (f := 2) (t := 2) h0 rfl) hF) hF (fun v4 s5 hF => ?_)
    refine Ev_p 0 (c' := (24, [some (.ref a0), some (.int x1), some (.int x2)], [.int v4])) rfl ?_
    refine Ez_if (M := zM76) (b := ¬ v4 = 0) rfl rfl hF (fun _ hF => ?_) (fun _ hF => ?_)
    · refine Ev_p 0 (c' := (29, [some (.ref a0), some (.int x1), some (.int x2)], [])) rfl ?_
      refine Ev_w (L' := [some (.ref a0), none, some (.int x2)]) (zle_c (zle_n (zle_c zle_0))) ?_
      exact zf76_29_ok hK h0 hF
    · refine Ev_p 1 (c' := (28, [some (.ref a0), some (.int x1), some (.int x2)], [.int 0])) rfl ?_
      exact Ez_rb (M := zM76) rfl rfl hF
-- PaperParcels$Builder.build()Z
abbrev zM70 : ev_M := (am_in nd_i70, am_fl nd_f7, am_ct nd_k7, am_sl nd_ml nd_s70, fun _ => none, some .boolean)
noncomputable def zf70_111 (a0 : Nat) (k16 : Int32 → Int32 → zS → Option (Int32 × zS)) (x1 : Int32) (x2 : Int32) (x3 : Int32) (s : zS) : Option (Int32 × zS) :=
  if ¬ x3 = 0 then
    k16 x1 (x2 + 1) s
  else
    zrb 0 s
theorem zf70_111_ok {K : cx_K} (hK : Kok K) {lg : Nat → Int64} {v : Int32} {s' : zS} {a0 : Nat} (h0 : zsh a0 = 7) {k16 : Int32 → Int32 → zS → Option (Int32 × zS)} (hk16 : ∀ x1 x2 s, k16 x1 x2 s = some (v, s') → Ev K zM70 (16, [some (.ref a0), some (.int x1), some (.int x2), none], [], zmk lg s) 0 (.inl (some (.int v))) (zmk lg s') 0) {x1 : Int32} {x2 : Int32} {x3 : Int32}  {s : zS} (hF : zf70_111 a0 k16 x1 x2 x3 s = some (v, s')) : Ev K zM70 (111, [some (.ref a0), some (.int x1), some (.int x2), some (.int x3)], [], zmk lg s) 0 (.inl (some (.int v))) (zmk lg s') 0 := by
  unfold zf70_111 at hF
  refine Ev_p 1 (c' := (112, [some (.ref a0), some (.int x1), some (.int x2), some (.int x3)], [.int x3])) rfl ?_
  refine Ez_if (M := zM70) (b := ¬ x3 = 0) rfl rfl hF (fun _ hF => ?_) (fun _ hF => ?_)
  · refine Ev_p 2 (c' := (16, [some (.ref a0), some (.int x1), some (.int (x2 + 1)), some (.int x3)], [])) rfl ?_
    refine Ev_w (L' := [some (.ref a0), some (.int x1), some (.int (x2 + 1)), none]) (zle_c (zle_c (zle_c (zle_n zle_0)))) ?_
    exact hk16 _ _ _ hF
  · refine Ev_p 1 (c' := (116, [some (.ref a0), some (.int x1), some (.int x2), some (.int x3)], [.int 0])) rfl ?_
    exact Ez_rb (M := zM70) rfl rfl hF
noncomputable def zf70_68 (a0 : Nat) (k16 : Int32 → Int32 → zS → Option (Int32 × zS)) (x1 : Int32) (x2 : Int32) (x3 : Int32) (s : zS) : Option (Int32 × zS) :=
  zal s (zrf (zrf a0 0) 10) x2 fun v1 =>
  if v1 = (-1) then
    zf70_111 a0 k16 x1 x2 x3 s
  else
    zal s (zrf (zrf a0 0) 10) x2 fun v2 =>
    zal s (zrf a0 3) v2 fun v3 =>
    zbi (zf18 (zrf (zrf a0 0) 0) x2 s) fun v4 s5 =>
    zbi (zf76 a0 v3 v4 s5) fun v6 s7 =>
    zf70_111 a0 k16 x1 x2 v6 s7
theorem zf70_68_ok {K : cx_K} (hK : Kok K) {lg : Nat → Int64} {v : Int32} {s' : zS} {a0 : Nat} (h0 : zsh a0 = 7) {k16 : Int32 → Int32 → zS → Option (Int32 × zS)} (hk16 : ∀ x1 x2 s, k16 x1 x2 s = some (v, s') → Ev K zM70 (16, [some (.ref a0), some (.int x1), some (.int x2), none], [], zmk lg s) 0 (.inl (some (.int v))) (zmk lg s') 0) {x1 : Int32} {x2 : Int32} {x3 : Int32}  {s : zS} (hF : zf70_68 a0 k16 x1 x2 x3 s = some (v, s')) : Ev K zM70 (68, [some (.ref a0), some (.int x1), some (.int x2), some (.int x3)], [], zmk lg s) 0 (.inl (some (.int v))) (zmk lg s') 0 := by
  unfold zf70_68 at hF
  refine Ev_p 1 (c' := (69, [some (.ref a0), some (.int x1), some (.int x2), some (.int x3)], [.ref a0])) rfl ?_
  refine Ez_gr (M := zM70) (ci := 7) (f := 0) (t := 5) rfl rfl h0 rfl ?_
  refine Ev_p 0 (c' := (72, [some (.ref a0), some (.int x1), some (.int x2), some (.int x3)], [.ref (zrf a0 0)])) rfl ?_
  refine Ez_gr (M := zM70) (ci := 5) (f := 10) (t := 100) rfl rfl (zty (ci := 7) (f := 0) (t := 5) h0 rfl) rfl ?_
  refine Ev_p 1 (c' := (76, [some (.ref a0), some (.int x1), some (.int x2), some (.int x3)], [.int x2, .ref (zrf (zrf a0 0) 10)])) rfl ?_
  refine Ez_al (M := zM70) rfl (zty (ci := 5) (f := 10) (t := 100) (zty (ci := 7) (f := 0) (t := 5) h0 rfl) rfl) hF (fun v1 hF => ?_)
  refine Ev_p 1 (c' := (78, [some (.ref a0), some (.int x1), some (.int x2), some (.int x3)], [.int (-1), .int v1])) rfl ?_
  refine Ez_if (M := zM70) (b := v1 = (-1)) rfl rfl hF (fun _ hF => ?_) (fun _ hF => ?_)
  · refine Ev_p 0 (c' := (111, [some (.ref a0), some (.int x1), some (.int x2), some (.int x3)], [])) rfl ?_
    exact zf70_111_ok hK h0 hk16 hF
  · refine Ev_p 2 (c' := (83, [some (.ref a0), some (.int x1), some (.int x2), some (.int x3)], [.ref a0, .ref a0])) rfl ?_
    refine Ez_gr (M := zM70) (ci := 7) (f := 3) (t := 100) rfl rfl h0 rfl ?_
    refine Ev_p 1 (c' := (87, [some (.ref a0), some (.int x1), some (.int x2), some (.int x3)], [.ref a0, .ref (zrf a0 3), .ref a0])) rfl ?_
    refine Ez_gr (M := zM70) (ci := 7) (f := 0) (t := 5) rfl rfl h0 rfl ?_
    refine Ev_p 0 (c' := (90, [some (.ref a0), some (.int x1), some (.int x2), some (.int x3)], [.ref (zrf a0 0), .ref (zrf a0 3), .ref a0])) rfl ?_
    refine Ez_gr (M := zM70) (ci := 5) (f := 10) (t := 100) rfl rfl (zty (ci := 7) (f := 0) (t := 5) h0 rfl) rfl ?_
    refine Ev_p 1 (c' := (94, [some (.ref a0), some (.int x1), some (.int x2), some (.int x3)], [.int x2, .ref (zrf (zrf a0 0) 10), .ref (zrf a0 3), .ref a0])) rfl ?_
    refine Ez_al (M := zM70) rfl (zty (ci := 5) (f := 10) (t := 100) (zty (ci := 7) (f := 0) (t := 5) h0 rfl) rfl) hF (fun v2 hF => ?_)
    refine Ev_p 0 (c' := (95, [some (.ref a0), some (.int x1), some (.int x2), some (.int x3)], [.int v2, .ref (zrf a0 3), .ref a0])) rfl ?_
    refine Ez_al (M := zM70) rfl (zty (ci := 7) (f := 3) (t := 100) h0 rfl) hF (fun v3 hF => ?_)
    refine Ev_p 1 (c' := (97, [some (.ref a0), some (.int x1), some (.int x2), some (.int x3)], [.ref a0, .int v3, .ref a0])) rfl ?_
    refine Ez_gr (M := zM70) (ci := 7) (f := 0) (t := 5) rfl rfl h0 rfl ?_
    refine Ev_p 0 (c' := (100, [some (.ref a0), some (.int x1), some (.int x2), some (.int x3)], [.ref (zrf a0 0), .int v3, .ref a0])) rfl ?_
    refine Ez_gr (M := zM70) (ci := 5) (f := 0) (t := 1) rfl rfl (zty (ci := 7) (f := 0) (t := 5) h0 rfl) rfl ?_
    refine Ev_p 1 (c' := (104, [some (.ref a0), some (.int x1), some (.int x2), some (.int x3)], [.int x2, .ref (zrf (zrf a0 0) 0), .int v3, .ref a0])) rfl ?_
    refine Ez_ci (M := zM70) (As := [.ref (zrf (zrf a0 0) 0), .int x2]) (st' := [.int v3, .ref a0]) (am_site_v (y := 18) (k := 2) (ci := 1) rfl rfl (zrcv rfl (zty (ci := 5) (f := 0) (t := 1) (zty (ci := 7) (f := 0) (t := 5) h0 rfl) rfl) rfl)) (Nat.le_of_ble_eq_true rfl) (Nat.le_of_ble_eq_true rfl) rfl rfl (fun _ _ hF => zf18_ok hK (zty (ci := 5) (f := 0) (t := 1) (zty (ci := 7) (f := 0) (t := 5) h0 rfl) rfl) hF) hF (fun v4 s5 hF => ?_)
    refine Ev_p 0 (c' := (107, [some (.ref a0), some (.int x1), some (.int x2), some (.int x3)], [.int v4, .int v3, .ref a0])) rfl ?_
    refine Ez_ci (M := zM70) (As := [.ref a0, .int v3, .int v4]) (st' := []) (am_site_v (y := 76) (k := 3) (ci := 7) rfl rfl (zrcv rfl h0 rfl)) (Nat.le_of_ble_eq_true rfl) (Nat.le_of_ble_eq_true rfl) rfl rfl (fun _ _ hF => zf76_ok hK h0 hF) hF (fun v6 s7 hF => ?_)
    refine Ev_p 1 (c' := (111, [some (.ref a0), some (.int x1), some (.int x2), some (.int v6)], [])) rfl ?_
    exact zf70_111_ok hK h0 hk16 hF
noncomputable def zf70_16 (a0 : Nat)  : Nat → Int32 → Int32 → zS → Option (Int32 × zS)
  | 0, _, _, _ => none
  | n + 1, x1, x2, s =>
    zgf s (zrf (zrf a0 0) 0) 1 fun v1 =>
    if v1 ≤ x2 then
      zrb 1 s
    else
      zgf s (zrf a0 0) 6 fun v2 =>
      if v2 ≤ x1 then
        zf70_68 a0 (zf70_16 a0 n) x1 x2 1 s
      else
        zal s (zrf (zrf a0 0) 2) x1 fun v3 =>
        if ¬ v3 = x2 then
          zf70_68 a0 (zf70_16 a0 n) x1 x2 1 s
        else
          zbi (zf72 a0 x1 s) fun v4 s5 =>
          zf70_111 a0 (zf70_16 a0 n) (x1 + 1) x2 v4 s5
theorem zf70_16_ok {K : cx_K} (hK : Kok K) {lg : Nat → Int64} {v : Int32} {s' : zS} {a0 : Nat} (h0 : zsh a0 = 7)   {n : Nat} : ∀ {x1 : Int32} {x2 : Int32} {s : zS}, zf70_16 a0 n x1 x2 s = some (v, s') → Ev K zM70 (16, [some (.ref a0), some (.int x1), some (.int x2), none], [], zmk lg s) 0 (.inl (some (.int v))) (zmk lg s') 0 := by
  induction n with
  | zero => intro x1 x2 s hF; rw [zf70_16] at hF; cases hF
  | succ n ih =>
    intro x1 x2 s hF
    rw [zf70_16] at hF
    refine Ev_p 2 (c' := (18, [some (.ref a0), some (.int x1), some (.int x2), none], [.ref a0, .int x2])) rfl ?_
    refine Ez_gr (M := zM70) (ci := 7) (f := 0) (t := 5) rfl rfl h0 rfl ?_
    refine Ev_p 0 (c' := (21, [some (.ref a0), some (.int x1), some (.int x2), none], [.ref (zrf a0 0), .int x2])) rfl ?_
    refine Ez_gr (M := zM70) (ci := 5) (f := 0) (t := 1) rfl rfl (zty (ci := 7) (f := 0) (t := 5) h0 rfl) rfl ?_
    refine Ev_p 0 (c' := (24, [some (.ref a0), some (.int x1), some (.int x2), none], [.ref (zrf (zrf a0 0) 0), .int x2])) rfl ?_
    refine Ez_gf (M := zM70) (ci := 1) (f := 1) rfl rfl (zty (ci := 5) (f := 0) (t := 1) (zty (ci := 7) (f := 0) (t := 5) h0 rfl) rfl) rfl hF (fun v1 hF => ?_)
    refine Ev_p 0 (c' := (27, [some (.ref a0), some (.int x1), some (.int x2), none], [.int v1, .int x2])) rfl ?_
    refine Ez_if (M := zM70) (b := v1 ≤ x2) rfl rfl hF (fun _ hF => ?_) (fun _ hF => ?_)
    · refine Ev_p 1 (c' := (124, [some (.ref a0), some (.int x1), some (.int x2), none], [.int 1])) rfl ?_
      exact Ez_rb (M := zM70) rfl rfl hF
    · refine Ev_p 4 (c' := (34, [some (.ref a0), some (.int x1), some (.int x2), some (.int 1)], [.ref a0, .int x1])) rfl ?_
      refine Ez_gr (M := zM70) (ci := 7) (f := 0) (t := 5) rfl rfl h0 rfl ?_
      refine Ev_p 0 (c' := (37, [some (.ref a0), some (.int x1), some (.int x2), some (.int 1)], [.ref (zrf a0 0), .int x1])) rfl ?_
      refine Ez_gf (M := zM70) (ci := 5) (f := 6) rfl rfl (zty (ci := 7) (f := 0) (t := 5) h0 rfl) rfl hF (fun v2 hF => ?_)
      refine Ev_p 0 (c' := (40, [some (.ref a0), some (.int x1), some (.int x2), some (.int 1)], [.int v2, .int x1])) rfl ?_
      refine Ez_if (M := zM70) (b := v2 ≤ x1) rfl rfl hF (fun _ hF => ?_) (fun _ hF => ?_)
      · refine Ev_p 0 (c' := (68, [some (.ref a0), some (.int x1), some (.int x2), some (.int 1)], [])) rfl ?_
        exact zf70_68_ok hK h0 (fun _ _ _ hF => ih hF) hF
      · refine Ev_p 1 (c' := (44, [some (.ref a0), some (.int x1), some (.int x2), some (.int 1)], [.ref a0])) rfl ?_
        refine Ez_gr (M := zM70) (ci := 7) (f := 0) (t := 5) rfl rfl h0 rfl ?_
        refine Ev_p 0 (c' := (47, [some (.ref a0), some (.int x1), some (.int x2), some (.int 1)], [.ref (zrf a0 0)])) rfl ?_
        refine Ez_gr (M := zM70) (ci := 5) (f := 2) (t := 100) rfl rfl (zty (ci := 7) (f := 0) (t := 5) h0 rfl) rfl ?_
        refine Ev_p 1 (c' := (51, [some (.ref a0), some (.int x1), some (.int x2), some (.int 1)], [.int x1, .ref (zrf (zrf a0 0) 2)])) rfl ?_
        refine Ez_al (M := zM70) rfl (zty (ci := 5) (f := 2) (t := 100) (zty (ci := 7) (f := 0) (t := 5) h0 rfl) rfl) hF (fun v3 hF => ?_)
        refine Ev_p 1 (c' := (53, [some (.ref a0), some (.int x1), some (.int x2), some (.int 1)], [.int x2, .int v3])) rfl ?_
        refine Ez_if (M := zM70) (b := ¬ v3 = x2) rfl rfl hF (fun _ hF => ?_) (fun _ hF => ?_)
        · refine Ev_p 0 (c' := (68, [some (.ref a0), some (.int x1), some (.int x2), some (.int 1)], [])) rfl ?_
          exact zf70_68_ok hK h0 (fun _ _ _ hF => ih hF) hF
        · refine Ev_p 2 (c' := (58, [some (.ref a0), some (.int x1), some (.int x2), some (.int 1)], [.int x1, .ref a0])) rfl ?_
          refine Ez_ci (M := zM70) (As := [.ref a0, .int x1]) (st' := []) (am_site_v (y := 72) (k := 2) (ci := 7) rfl rfl (zrcv rfl h0 rfl)) (Nat.le_of_ble_eq_true rfl) (Nat.le_of_ble_eq_true rfl) rfl rfl (fun _ _ hF => zf72_ok hK h0 hF) hF (fun v4 s5 hF => ?_)
          refine Ev_p 3 (c' := (111, [some (.ref a0), some (.int (x1 + 1)), some (.int x2), some (.int v4)], [])) rfl ?_
          exact zf70_111_ok hK h0 (fun _ _ _ hF => ih hF) hF
noncomputable def zf70 (a0 : Nat) (s : zS) : Option (Int32 × zS) :=
  zbv (zf71 (zrf a0 2) s) fun s2 =>
  zpf s2 a0 5 (-1) fun s3 =>
  zf70_16 a0 zfz 0 0 s3
theorem zf70_ok {K : cx_K} (hK : Kok K) {lg : Nat → Int64} {v : Int32} {s' : zS} {a0 : Nat} (h0 : zsh a0 = 7)  {s : zS} (hF : zf70 a0 s = some (v, s')) : Ct K 70 [.ref a0] (zmk lg s) (.inl (some (.int v))) (zmk lg s') 0 := by
  unfold zf70 at hF
  refine Ct_of hK nd_ok70 (mL := 4) (rt := some .boolean) rfl rfl (Nat.le_of_ble_eq_true rfl) zlen_le ?_
  refine Ev_p 1 (c' := (1, [some (.ref a0), none, none, none], [.ref a0])) rfl ?_
  refine Ez_gr (M := zM70) (ci := 7) (f := 2) (t := 2) rfl rfl h0 rfl ?_
  refine Ev_p 0 (c' := (4, [some (.ref a0), none, none, none], [.ref (zrf a0 2)])) rfl ?_
  refine Ez_cv (M := zM70) (As := [.ref (zrf a0 2)]) (st' := []) (am_site_v (y := 71) (k := 1) (ci := 2) rfl rfl (zrcv rfl (zty (ci := 7) (f := 2) (t := 2) h0 rfl) rfl)) (Nat.le_of_ble_eq_true rfl) (Nat.le_of_ble_eq_true rfl) rfl rfl (fun _ hF => zf71_ok hK (zty (ci := 7) (f := 2) (t := 2) h0 rfl) hF) hF (fun s2 hF => ?_)
  refine Ev_p 2 (c' := (9, [some (.ref a0), none, none, none], [.int (-1), .ref a0])) rfl ?_
  refine Ez_pf (M := zM70) (ci := 7) (f := 5) rfl rfl h0 rfl hF (fun s3 hF => ?_)
  refine Ev_p 4 (c' := (16, [some (.ref a0), some (.int 0), some (.int 0), none], [])) rfl ?_
  exact zf70_16_ok hK h0 hF
-- PaperParcels$Reader.findFault(LPaperParcels$Row;)I
abbrev zM26 : ev_M := (am_in nd_i26, am_fl nd_f3, am_ct nd_k3, am_sl nd_ml nd_s26, fun _ => none, some .int)
noncomputable def zf26_154 (a0 : Nat) (a1 : Nat)  (t0 : Int32) (s : zS) : Option (Int32 × zS) :=
  zbi (zf33 a0 t0 s) fun v1 s2 =>
  if v1 = 0 then
    some (0, s2)
  else
    some (7, s2)
theorem zf26_154_ok {K : cx_K} (hK : Kok K) {lg : Nat → Int64} {v : Int32} {s' : zS} {a0 : Nat} {a1 : Nat} (h0 : zsh a0 = 3) (h1 : zsh a1 = 1)   {t0 : Int32}  {s : zS} (hF : zf26_154 a0 a1 t0 s = some (v, s')) : Ev K zM26 (154, [some (.ref a0), some (.ref a1), none], [.int t0, .ref a0], zmk lg s) 0 (.inl (some (.int v))) (zmk lg s') 0 := by
  unfold zf26_154 at hF
  refine Ev_p 0 (c' := (154, [some (.ref a0), some (.ref a1), none], [.int t0, .ref a0])) rfl ?_
  refine Ez_ci (M := zM26) (As := [.ref a0, .int t0]) (st' := []) (am_site_v (y := 33) (k := 2) (ci := 3) rfl rfl (zrcv rfl h0 rfl)) (Nat.le_of_ble_eq_true rfl) (Nat.le_of_ble_eq_true rfl) rfl rfl (fun _ _ hF => zf33_ok hK h0 hF) hF (fun v1 s2 hF => ?_)
  refine Ev_p 0 (c' := (157, [some (.ref a0), some (.ref a1), none], [.int v1])) rfl ?_
  refine Ez_if (M := zM26) (b := v1 = 0) rfl rfl hF (fun _ hF => ?_) (fun _ hF => ?_)
  · refine Ev_p 1 (c' := (166, [some (.ref a0), some (.ref a1), none], [.int 0])) rfl ?_
    exact Ez_ri (M := zM26) rfl rfl hF
  · refine Ev_p 2 (c' := (166, [some (.ref a0), some (.ref a1), none], [.int 7])) rfl ?_
    exact Ez_ri (M := zM26) rfl rfl hF
noncomputable def zf26_38 (a0 : Nat) (a1 : Nat)  (x2 : Int32) (s : zS) : Option (Int32 × zS) :=
  if x2 = 0 then
    zbi (zf40 (zrf a0 4) s) fun v1 s2 =>
    zbi (zf33 a0 v1 s2) fun v3 s4 =>
    if ¬ v3 = 0 then
      some (4, s4)
    else
      zbi (zf40 (zrf a0 5) s4) fun v5 s6 =>
      zbi (zf52 v5 s6) fun v7 s8 =>
      zbi (zf33 a0 v7 s8) fun v9 s10 =>
      if v9 = 0 then
        zbi (zf53 (zrf a0 4) 116 s10) fun v11 s12 =>
        zbi (zf33 a0 v11 s12) fun v13 s14 =>
        if ¬ v13 = 0 then
          some (5, s14)
        else
          zbi (zf53 (zrf a0 5) 100 s14) fun v15 s16 =>
          zbi (zf52 v15 s16) fun v17 s18 =>
          zbi (zf33 a0 v17 s18) fun v19 s20 =>
          if v19 = 0 then
            zbi (zf61 (zrf a0 6) s20) fun v21 s22 =>
            zbi (zf33 a0 v21 s22) fun v23 s24 =>
            if v23 = 0 then
              zbv (zf67 (zrf a0 6) s24) fun s26 =>
              zbi (zf70 (zrf a0 7) s26) fun v27 s28 =>
              if v27 = 0 then
                zf26_154 a0 a1 0 s28
              else
                zf26_154 a0 a1 (-1) s28
            else
              some (6, s24)
          else
            some (5, s20)
      else
        some (4, s10)
  else
    some (x2, s)
theorem zf26_38_ok {K : cx_K} (hK : Kok K) {lg : Nat → Int64} {v : Int32} {s' : zS} {a0 : Nat} {a1 : Nat} (h0 : zsh a0 = 3) (h1 : zsh a1 = 1)   {x2 : Int32}  {s : zS} (hF : zf26_38 a0 a1 x2 s = some (v, s')) : Ev K zM26 (38, [some (.ref a0), some (.ref a1), some (.int x2)], [], zmk lg s) 0 (.inl (some (.int v))) (zmk lg s') 0 := by
  unfold zf26_38 at hF
  refine Ev_p 1 (c' := (39, [some (.ref a0), some (.ref a1), some (.int x2)], [.int x2])) rfl ?_
  refine Ez_if (M := zM26) (b := x2 = 0) rfl rfl hF (fun _ hF => ?_) (fun _ hF => ?_)
  · refine Ev_p 2 (c' := (46, [some (.ref a0), some (.ref a1), some (.int x2)], [.ref a0, .ref a0])) rfl ?_
    refine Ez_gr (M := zM26) (ci := 3) (f := 4) (t := 5) rfl rfl h0 rfl ?_
    refine Ev_p 0 (c' := (49, [some (.ref a0), some (.ref a1), some (.int x2)], [.ref (zrf a0 4), .ref a0])) rfl ?_
    refine Ez_ci (M := zM26) (As := [.ref (zrf a0 4)]) (st' := [.ref a0]) (am_site_v (y := 40) (k := 1) (ci := 5) rfl rfl (zrcv rfl (zty (ci := 3) (f := 4) (t := 5) h0 rfl) rfl)) (Nat.le_of_ble_eq_true rfl) (Nat.le_of_ble_eq_true rfl) rfl rfl (fun _ _ hF => zf40_ok hK (zty (ci := 3) (f := 4) (t := 5) h0 rfl) hF) hF (fun v1 s2 hF => ?_)
    refine Ev_p 0 (c' := (52, [some (.ref a0), some (.ref a1), some (.int x2)], [.int v1, .ref a0])) rfl ?_
    refine Ez_ci (M := zM26) (As := [.ref a0, .int v1]) (st' := []) (am_site_v (y := 33) (k := 2) (ci := 3) rfl rfl (zrcv rfl h0 rfl)) (Nat.le_of_ble_eq_true rfl) (Nat.le_of_ble_eq_true rfl) rfl rfl (fun _ _ hF => zf33_ok hK h0 hF) hF (fun v3 s4 hF => ?_)
    refine Ev_p 0 (c' := (55, [some (.ref a0), some (.ref a1), some (.int x2)], [.int v3])) rfl ?_
    refine Ez_if (M := zM26) (b := ¬ v3 = 0) rfl rfl hF (fun _ hF => ?_) (fun _ hF => ?_)
    · refine Ev_p 1 (c' := (76, [some (.ref a0), some (.ref a1), some (.int x2)], [.int 4])) rfl ?_
      exact Ez_ri (M := zM26) rfl rfl hF
    · refine Ev_p 2 (c' := (60, [some (.ref a0), some (.ref a1), some (.int x2)], [.ref a0, .ref a0])) rfl ?_
      refine Ez_gr (M := zM26) (ci := 3) (f := 5) (t := 5) rfl rfl h0 rfl ?_
      refine Ev_p 0 (c' := (63, [some (.ref a0), some (.ref a1), some (.int x2)], [.ref (zrf a0 5), .ref a0])) rfl ?_
      refine Ez_ci (M := zM26) (As := [.ref (zrf a0 5)]) (st' := [.ref a0]) (am_site_v (y := 40) (k := 1) (ci := 5) rfl rfl (zrcv rfl (zty (ci := 3) (f := 5) (t := 5) h0 rfl) rfl)) (Nat.le_of_ble_eq_true rfl) (Nat.le_of_ble_eq_true rfl) rfl rfl (fun _ _ hF => zf40_ok hK (zty (ci := 3) (f := 5) (t := 5) h0 rfl) hF) hF (fun v5 s6 hF => ?_)
      refine Ev_p 0 (c' := (66, [some (.ref a0), some (.ref a1), some (.int x2)], [.int v5, .ref a0])) rfl ?_
      refine Ez_ci (M := zM26) (As := [.int v5]) (st' := [.ref a0]) (zsite_0 (y := 52) (k := 1) (ci := 3) rfl rfl) (Nat.le_of_ble_eq_true rfl) (Nat.le_of_ble_eq_true rfl) rfl rfl (fun _ _ hF => zf52_ok hK  hF) hF (fun v7 s8 hF => ?_)
      refine Ev_p 0 (c' := (69, [some (.ref a0), some (.ref a1), some (.int x2)], [.int v7, .ref a0])) rfl ?_
      refine Ez_ci (M := zM26) (As := [.ref a0, .int v7]) (st' := []) (am_site_v (y := 33) (k := 2) (ci := 3) rfl rfl (zrcv rfl h0 rfl)) (Nat.le_of_ble_eq_true rfl) (Nat.le_of_ble_eq_true rfl) rfl rfl (fun _ _ hF => zf33_ok hK h0 hF) hF (fun v9 s10 hF => ?_)
      refine Ev_p 0 (c' := (72, [some (.ref a0), some (.ref a1), some (.int x2)], [.int v9])) rfl ?_
      refine Ez_if (M := zM26) (b := v9 = 0) rfl rfl hF (fun _ hF => ?_) (fun _ hF => ?_)
      · refine Ev_p 2 (c' := (79, [some (.ref a0), some (.ref a1), some (.int x2)], [.ref a0, .ref a0])) rfl ?_
        refine Ez_gr (M := zM26) (ci := 3) (f := 4) (t := 5) rfl rfl h0 rfl ?_
        refine Ev_p 1 (c' := (84, [some (.ref a0), some (.ref a1), some (.int x2)], [.int 116, .ref (zrf a0 4), .ref a0])) rfl ?_
        refine Ez_ci (M := zM26) (As := [.ref (zrf a0 4), .int 116]) (st' := [.ref a0]) (zsite_0 (y := 53) (k := 2) (ci := 99) rfl rfl) (Nat.le_of_ble_eq_true rfl) (Nat.le_of_ble_eq_true rfl) rfl rfl (fun _ _ hF => zf53_ok hK (zty (ci := 3) (f := 4) (t := 5) h0 rfl) hF) hF (fun v11 s12 hF => ?_)
        refine Ev_p 0 (c' := (87, [some (.ref a0), some (.ref a1), some (.int x2)], [.int v11, .ref a0])) rfl ?_
        refine Ez_ci (M := zM26) (As := [.ref a0, .int v11]) (st' := []) (am_site_v (y := 33) (k := 2) (ci := 3) rfl rfl (zrcv rfl h0 rfl)) (Nat.le_of_ble_eq_true rfl) (Nat.le_of_ble_eq_true rfl) rfl rfl (fun _ _ hF => zf33_ok hK h0 hF) hF (fun v13 s14 hF => ?_)
        refine Ev_p 0 (c' := (90, [some (.ref a0), some (.ref a1), some (.int x2)], [.int v13])) rfl ?_
        refine Ez_if (M := zM26) (b := ¬ v13 = 0) rfl rfl hF (fun _ hF => ?_) (fun _ hF => ?_)
        · refine Ev_p 1 (c' := (113, [some (.ref a0), some (.ref a1), some (.int x2)], [.int 5])) rfl ?_
          exact Ez_ri (M := zM26) rfl rfl hF
        · refine Ev_p 2 (c' := (95, [some (.ref a0), some (.ref a1), some (.int x2)], [.ref a0, .ref a0])) rfl ?_
          refine Ez_gr (M := zM26) (ci := 3) (f := 5) (t := 5) rfl rfl h0 rfl ?_
          refine Ev_p 1 (c' := (100, [some (.ref a0), some (.ref a1), some (.int x2)], [.int 100, .ref (zrf a0 5), .ref a0])) rfl ?_
          refine Ez_ci (M := zM26) (As := [.ref (zrf a0 5), .int 100]) (st' := [.ref a0]) (zsite_0 (y := 53) (k := 2) (ci := 99) rfl rfl) (Nat.le_of_ble_eq_true rfl) (Nat.le_of_ble_eq_true rfl) rfl rfl (fun _ _ hF => zf53_ok hK (zty (ci := 3) (f := 5) (t := 5) h0 rfl) hF) hF (fun v15 s16 hF => ?_)
          refine Ev_p 0 (c' := (103, [some (.ref a0), some (.ref a1), some (.int x2)], [.int v15, .ref a0])) rfl ?_
          refine Ez_ci (M := zM26) (As := [.int v15]) (st' := [.ref a0]) (zsite_0 (y := 52) (k := 1) (ci := 3) rfl rfl) (Nat.le_of_ble_eq_true rfl) (Nat.le_of_ble_eq_true rfl) rfl rfl (fun _ _ hF => zf52_ok hK  hF) hF (fun v17 s18 hF => ?_)
          refine Ev_p 0 (c' := (106, [some (.ref a0), some (.ref a1), some (.int x2)], [.int v17, .ref a0])) rfl ?_
          refine Ez_ci (M := zM26) (As := [.ref a0, .int v17]) (st' := []) (am_site_v (y := 33) (k := 2) (ci := 3) rfl rfl (zrcv rfl h0 rfl)) (Nat.le_of_ble_eq_true rfl) (Nat.le_of_ble_eq_true rfl) rfl rfl (fun _ _ hF => zf33_ok hK h0 hF) hF (fun v19 s20 hF => ?_)
          refine Ev_p 0 (c' := (109, [some (.ref a0), some (.ref a1), some (.int x2)], [.int v19])) rfl ?_
          refine Ez_if (M := zM26) (b := v19 = 0) rfl rfl hF (fun _ hF => ?_) (fun _ hF => ?_)
          · refine Ev_p 2 (c' := (116, [some (.ref a0), some (.ref a1), some (.int x2)], [.ref a0, .ref a0])) rfl ?_
            refine Ez_gr (M := zM26) (ci := 3) (f := 6) (t := 6) rfl rfl h0 rfl ?_
            refine Ev_p 0 (c' := (119, [some (.ref a0), some (.ref a1), some (.int x2)], [.ref (zrf a0 6), .ref a0])) rfl ?_
            refine Ez_ci (M := zM26) (As := [.ref (zrf a0 6)]) (st' := [.ref a0]) (am_site_v (y := 61) (k := 1) (ci := 6) rfl rfl (zrcv rfl (zty (ci := 3) (f := 6) (t := 6) h0 rfl) rfl)) (Nat.le_of_ble_eq_true rfl) (Nat.le_of_ble_eq_true rfl) rfl rfl (fun _ _ hF => zf61_ok hK (zty (ci := 3) (f := 6) (t := 6) h0 rfl) hF) hF (fun v21 s22 hF => ?_)
            refine Ev_p 0 (c' := (122, [some (.ref a0), some (.ref a1), some (.int x2)], [.int v21, .ref a0])) rfl ?_
            refine Ez_ci (M := zM26) (As := [.ref a0, .int v21]) (st' := []) (am_site_v (y := 33) (k := 2) (ci := 3) rfl rfl (zrcv rfl h0 rfl)) (Nat.le_of_ble_eq_true rfl) (Nat.le_of_ble_eq_true rfl) rfl rfl (fun _ _ hF => zf33_ok hK h0 hF) hF (fun v23 s24 hF => ?_)
            refine Ev_p 0 (c' := (125, [some (.ref a0), some (.ref a1), some (.int x2)], [.int v23])) rfl ?_
            refine Ez_if (M := zM26) (b := v23 = 0) rfl rfl hF (fun _ hF => ?_) (fun _ hF => ?_)
            · refine Ev_p 1 (c' := (132, [some (.ref a0), some (.ref a1), some (.int x2)], [.ref a0])) rfl ?_
              refine Ez_gr (M := zM26) (ci := 3) (f := 6) (t := 6) rfl rfl h0 rfl ?_
              refine Ev_p 0 (c' := (135, [some (.ref a0), some (.ref a1), some (.int x2)], [.ref (zrf a0 6)])) rfl ?_
              refine Ez_cv (M := zM26) (As := [.ref (zrf a0 6)]) (st' := []) (am_site_v (y := 67) (k := 1) (ci := 6) rfl rfl (zrcv rfl (zty (ci := 3) (f := 6) (t := 6) h0 rfl) rfl)) (Nat.le_of_ble_eq_true rfl) (Nat.le_of_ble_eq_true rfl) rfl rfl (fun _ hF => zf67_ok hK (zty (ci := 3) (f := 6) (t := 6) h0 rfl) hF) hF (fun s26 hF => ?_)
              refine Ev_p 2 (c' := (140, [some (.ref a0), some (.ref a1), some (.int x2)], [.ref a0, .ref a0])) rfl ?_
              refine Ez_gr (M := zM26) (ci := 3) (f := 7) (t := 7) rfl rfl h0 rfl ?_
              refine Ev_p 0 (c' := (143, [some (.ref a0), some (.ref a1), some (.int x2)], [.ref (zrf a0 7), .ref a0])) rfl ?_
              refine Ez_ci (M := zM26) (As := [.ref (zrf a0 7)]) (st' := [.ref a0]) (am_site_v (y := 70) (k := 1) (ci := 7) rfl rfl (zrcv rfl (zty (ci := 3) (f := 7) (t := 7) h0 rfl) rfl)) (Nat.le_of_ble_eq_true rfl) (Nat.le_of_ble_eq_true rfl) rfl rfl (fun _ _ hF => zf70_ok hK (zty (ci := 3) (f := 7) (t := 7) h0 rfl) hF) hF (fun v27 s28 hF => ?_)
              refine Ev_p 0 (c' := (146, [some (.ref a0), some (.ref a1), some (.int x2)], [.int v27, .ref a0])) rfl ?_
              refine Ez_if (M := zM26) (b := v27 = 0) rfl rfl hF (fun _ hF => ?_) (fun _ hF => ?_)
              · refine Ev_p 1 (c' := (154, [some (.ref a0), some (.ref a1), some (.int x2)], [.int 0, .ref a0])) rfl ?_
                refine Ev_w (L' := [some (.ref a0), some (.ref a1), none]) (zle_c (zle_c (zle_n zle_0))) ?_
                exact zf26_154_ok hK h0 h1 hF
              · refine Ev_p 2 (c' := (154, [some (.ref a0), some (.ref a1), some (.int x2)], [.int (-1), .ref a0])) rfl ?_
                refine Ev_w (L' := [some (.ref a0), some (.ref a1), none]) (zle_c (zle_c (zle_n zle_0))) ?_
                exact zf26_154_ok hK h0 h1 hF
            · refine Ev_p 1 (c' := (130, [some (.ref a0), some (.ref a1), some (.int x2)], [.int 6])) rfl ?_
              exact Ez_ri (M := zM26) rfl rfl hF
          · refine Ev_p 1 (c' := (113, [some (.ref a0), some (.ref a1), some (.int x2)], [.int 5])) rfl ?_
            exact Ez_ri (M := zM26) rfl rfl hF
      · refine Ev_p 1 (c' := (76, [some (.ref a0), some (.ref a1), some (.int x2)], [.int 4])) rfl ?_
        exact Ez_ri (M := zM26) rfl rfl hF
  · refine Ev_p 1 (c' := (43, [some (.ref a0), some (.ref a1), some (.int x2)], [.int x2])) rfl ?_
    exact Ez_ri (M := zM26) rfl rfl hF
noncomputable def zf26 (a0 : Nat) (a1 : Nat) (s : zS) : Option (Int32 × zS) :=
  zbi (zf27 a0 a1 s) fun v1 s2 =>
  zbi (zf33 a0 v1 s2) fun v3 s4 =>
  if v3 = 0 then
    zbi (zf34 a0 (zrf a0 2) a1 s4) fun v5 s6 =>
    if ¬ v5 = 0 then
      zf26_38 a0 a1 v5 s6
    else
      zbi (zf34 a0 (zrf a0 3) a1 s6) fun v7 s8 =>
      zf26_38 a0 a1 v7 s8
  else
    some (1, s4)
theorem zf26_ok {K : cx_K} (hK : Kok K) {lg : Nat → Int64} {v : Int32} {s' : zS} {a0 : Nat} {a1 : Nat} (h0 : zsh a0 = 3) (h1 : zsh a1 = 1)  {s : zS} (hF : zf26 a0 a1 s = some (v, s')) : Ct K 26 [.ref a0, .ref a1] (zmk lg s) (.inl (some (.int v))) (zmk lg s') 0 := by
  unfold zf26 at hF
  refine Ct_of hK nd_ok26 (mL := 3) (rt := some .int) rfl rfl (Nat.le_of_ble_eq_true rfl) zlen_le ?_
  refine Ev_p 3 (c' := (3, [some (.ref a0), some (.ref a1), none], [.ref a1, .ref a0, .ref a0])) rfl ?_
  refine Ez_ci (M := zM26) (As := [.ref a0, .ref a1]) (st' := [.ref a0]) (am_site_v (y := 27) (k := 2) (ci := 3) rfl rfl (zrcv rfl h0 rfl)) (Nat.le_of_ble_eq_true rfl) (Nat.le_of_ble_eq_true rfl) rfl rfl (fun _ _ hF => zf27_ok hK h0 h1 hF) hF (fun v1 s2 hF => ?_)
  refine Ev_p 0 (c' := (6, [some (.ref a0), some (.ref a1), none], [.int v1, .ref a0])) rfl ?_
  refine Ez_ci (M := zM26) (As := [.ref a0, .int v1]) (st' := []) (am_site_v (y := 33) (k := 2) (ci := 3) rfl rfl (zrcv rfl h0 rfl)) (Nat.le_of_ble_eq_true rfl) (Nat.le_of_ble_eq_true rfl) rfl rfl (fun _ _ hF => zf33_ok hK h0 hF) hF (fun v3 s4 hF => ?_)
  refine Ev_p 0 (c' := (9, [some (.ref a0), some (.ref a1), none], [.int v3])) rfl ?_
  refine Ez_if (M := zM26) (b := v3 = 0) rfl rfl hF (fun _ hF => ?_) (fun _ hF => ?_)
  · refine Ev_p 2 (c' := (16, [some (.ref a0), some (.ref a1), none], [.ref a0, .ref a0])) rfl ?_
    refine Ez_gr (M := zM26) (ci := 3) (f := 2) (t := 4) rfl rfl h0 rfl ?_
    refine Ev_p 1 (c' := (20, [some (.ref a0), some (.ref a1), none], [.ref a1, .ref (zrf a0 2), .ref a0])) rfl ?_
    refine Ez_ci (M := zM26) (As := [.ref a0, .ref (zrf a0 2), .ref a1]) (st' := []) (am_site_v (y := 34) (k := 3) (ci := 3) rfl rfl (zrcv rfl h0 rfl)) (Nat.le_of_ble_eq_true rfl) (Nat.le_of_ble_eq_true rfl) rfl rfl (fun _ _ hF => zf34_ok hK h0 (zty (ci := 3) (f := 2) (t := 4) h0 rfl) h1 hF) hF (fun v5 s6 hF => ?_)
    refine Ev_p 2 (c' := (25, [some (.ref a0), some (.ref a1), some (.int v5)], [.int v5])) rfl ?_
    refine Ez_if (M := zM26) (b := ¬ v5 = 0) rfl rfl hF (fun _ hF => ?_) (fun _ hF => ?_)
    · refine Ev_p 0 (c' := (38, [some (.ref a0), some (.ref a1), some (.int v5)], [])) rfl ?_
      exact zf26_38_ok hK h0 h1 hF
    · refine Ev_p 2 (c' := (30, [some (.ref a0), some (.ref a1), some (.int v5)], [.ref a0, .ref a0])) rfl ?_
      refine Ez_gr (M := zM26) (ci := 3) (f := 3) (t := 4) rfl rfl h0 rfl ?_
      refine Ev_p 1 (c' := (34, [some (.ref a0), some (.ref a1), some (.int v5)], [.ref a1, .ref (zrf a0 3), .ref a0])) rfl ?_
      refine Ez_ci (M := zM26) (As := [.ref a0, .ref (zrf a0 3), .ref a1]) (st' := []) (am_site_v (y := 34) (k := 3) (ci := 3) rfl rfl (zrcv rfl h0 rfl)) (Nat.le_of_ble_eq_true rfl) (Nat.le_of_ble_eq_true rfl) rfl rfl (fun _ _ hF => zf34_ok hK h0 (zty (ci := 3) (f := 3) (t := 4) h0 rfl) h1 hF) hF (fun v7 s8 hF => ?_)
      refine Ev_p 1 (c' := (38, [some (.ref a0), some (.ref a1), some (.int v7)], [])) rfl ?_
      exact zf26_38_ok hK h0 h1 hF
  · refine Ev_p 1 (c' := (13, [some (.ref a0), some (.ref a1), none], [.int 1])) rfl ?_
    exact Ez_ri (M := zM26) rfl rfl hF

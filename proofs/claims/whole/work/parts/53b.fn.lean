/-! The methods as functions, and that the machine goes so (printed by wip/gen/fgen.py). -/
set_option maxRecDepth 100000
set_option linter.unusedVariables false
-- PaperParcels$Reader.isFault(I)Z
abbrev zM33 : ev_M := (am_in nd_i33, am_fl nd_f3, am_ct nd_k3, am_sl nd_ml nd_s33, fun _ => none, some .boolean)
noncomputable def zf33 (a0 : Nat) (x1 : Int32) (s : zS) : Option (Int32 × zS) :=
  zpf s a0 1 x1 fun s1 =>
  if x1 = (-1) then
    zrb 0 s1
  else
    zrb 1 s1
theorem zf33_ok {K : cx_K} (hK : Kok K) {lg : Nat → Int64} {v : Int32} {s' : zS} {a0 : Nat} (h0 : zsh a0 = 3) {x1 : Int32} {s : zS} (hF : zf33 a0 x1 s = some (v, s')) : Ct K 33 [.ref a0, .int x1] (zmk lg s) (.inl (some (.int v))) (zmk lg s') 0 := by
  unfold zf33 at hF
  refine Ct_of hK nd_ok33 (mL := 2) (rt := some .boolean) rfl rfl (Nat.le_of_ble_eq_true rfl) zlen_le ?_
  refine Ev_p 2 (c' := (2, [some (.ref a0), some (.int x1)], [.int x1, .ref a0])) rfl ?_
  refine Ez_pf (M := zM33) (ci := 3) (f := 1) rfl rfl h0 rfl hF (fun s1 hF => ?_)
  refine Ev_p 2 (c' := (7, [some (.ref a0), some (.int x1)], [.int (-1), .int x1])) rfl ?_
  refine Ez_if (M := zM33) (b := x1 = (-1)) rfl rfl hF (fun _ hF => ?_) (fun _ hF => ?_)
  · refine Ev_p 1 (c' := (15, [some (.ref a0), some (.int x1)], [.int 0])) rfl ?_
    exact Ez_rb (M := zM33) rfl rfl hF
  · refine Ev_p 2 (c' := (15, [some (.ref a0), some (.int x1)], [.int 1])) rfl ?_
    exact Ez_rb (M := zM33) rfl rfl hF
-- PaperParcels$Part.follow(LPaperParcels$Row;I)Z
abbrev zM36 : ev_M := (am_in nd_i36, am_fl nd_f4, am_ct nd_k4, am_sl nd_ml nd_s36, fun _ => none, some .boolean)
noncomputable def zf36_101 (a0 : Nat) (a1 : Nat)  : Nat → Int32 → Int32 → Int32 → zS → Option (Int32 × zS)
  | 0, _, _, _, _ => none
  | n + 1, x3, x4, x5, s =>
    if x4 ≤ x5 then
      zrb 1 s
    else
      zgf s (zrf a0 1) 1 fun v1 =>
      zbi (zf18 (zrf a0 1) (v1 - x3) s) fun v2 s3 =>
      zbv (zf13 (zrf a0 1) v2 s3) fun s5 =>
      zf36_101 a0 a1 n x3 x4 (x5 + 1) s5
theorem zf36_101_ok {K : cx_K} (hK : Kok K) {lg : Nat → Int64} {v : Int32} {s' : zS} {a0 : Nat} {a1 : Nat} (h0 : zsh a0 = 4) (h1 : zsh a1 = 1)   {n : Nat} : ∀ {x3 : Int32} {x4 : Int32} {x5 : Int32} {s : zS}, zf36_101 a0 a1 n x3 x4 x5 s = some (v, s') → Ev K zM36 (101, [some (.ref a0), some (.ref a1), none, some (.int x3), some (.int x4), some (.int x5)], [], zmk lg s) 0 (.inl (some (.int v))) (zmk lg s') 0 := by
  induction n with
  | zero => intro x3 x4 x5 s hF; rw [zf36_101] at hF; cases hF
  | succ n ih =>
    intro x3 x4 x5 s hF
    rw [zf36_101] at hF
    refine Ev_p 2 (c' := (105, [some (.ref a0), some (.ref a1), none, some (.int x3), some (.int x4), some (.int x5)], [.int x4, .int x5])) rfl ?_
    refine Ez_if (M := zM36) (b := x4 ≤ x5) rfl rfl hF (fun _ hF => ?_) (fun _ hF => ?_)
    · refine Ev_p 1 (c' := (138, [some (.ref a0), some (.ref a1), none, some (.int x3), some (.int x4), some (.int x5)], [.int 1])) rfl ?_
      exact Ez_rb (M := zM36) rfl rfl hF
    · refine Ev_p 1 (c' := (109, [some (.ref a0), some (.ref a1), none, some (.int x3), some (.int x4), some (.int x5)], [.ref a0])) rfl ?_
      refine Ez_gr (M := zM36) (ci := 4) (f := 1) (t := 1) rfl rfl h0 rfl ?_
      refine Ev_p 1 (c' := (113, [some (.ref a0), some (.ref a1), none, some (.int x3), some (.int x4), some (.int x5)], [.ref a0, .ref (zrf a0 1)])) rfl ?_
      refine Ez_gr (M := zM36) (ci := 4) (f := 1) (t := 1) rfl rfl h0 rfl ?_
      refine Ev_p 1 (c' := (117, [some (.ref a0), some (.ref a1), none, some (.int x3), some (.int x4), some (.int x5)], [.ref a0, .ref (zrf a0 1), .ref (zrf a0 1)])) rfl ?_
      refine Ez_gr (M := zM36) (ci := 4) (f := 1) (t := 1) rfl rfl h0 rfl ?_
      refine Ev_p 0 (c' := (120, [some (.ref a0), some (.ref a1), none, some (.int x3), some (.int x4), some (.int x5)], [.ref (zrf a0 1), .ref (zrf a0 1), .ref (zrf a0 1)])) rfl ?_
      refine Ez_gf (M := zM36) (ci := 1) (f := 1) rfl rfl (zty (ci := 4) (f := 1) (t := 1) h0 rfl) rfl hF (fun v1 hF => ?_)
      refine Ev_p 2 (c' := (125, [some (.ref a0), some (.ref a1), none, some (.int x3), some (.int x4), some (.int x5)], [.int (v1 - x3), .ref (zrf a0 1), .ref (zrf a0 1)])) rfl ?_
      refine Ez_ci (M := zM36) (As := [.ref (zrf a0 1), .int (v1 - x3)]) (st' := [.ref (zrf a0 1)]) (am_site_v (y := 18) (k := 2) (ci := 1) rfl rfl (zrcv rfl (zty (ci := 4) (f := 1) (t := 1) h0 rfl) rfl)) (Nat.le_of_ble_eq_true rfl) (Nat.le_of_ble_eq_true rfl) rfl rfl (fun _ _ hF => zf18_ok hK (zty (ci := 4) (f := 1) (t := 1) h0 rfl) hF) hF (fun v2 s3 hF => ?_)
      refine Ev_p 0 (c' := (128, [some (.ref a0), some (.ref a1), none, some (.int x3), some (.int x4), some (.int x5)], [.int v2, .ref (zrf a0 1)])) rfl ?_
      refine Ez_cv (M := zM36) (As := [.ref (zrf a0 1), .int v2]) (st' := []) (am_site_v (y := 13) (k := 2) (ci := 1) rfl rfl (zrcv rfl (zty (ci := 4) (f := 1) (t := 1) h0 rfl) rfl)) (Nat.le_of_ble_eq_true rfl) (Nat.le_of_ble_eq_true rfl) rfl rfl (fun _ hF => zf13_ok hK (zty (ci := 4) (f := 1) (t := 1) h0 rfl) hF) hF (fun s5 hF => ?_)
      refine Ev_p 2 (c' := (101, [some (.ref a0), some (.ref a1), none, some (.int x3), some (.int x4), some (.int (x5 + 1))], [])) rfl ?_
      exact ih hF
noncomputable def zf36_16 (a0 : Nat) (a1 : Nat)  : Nat → Int32 → Int32 → zS → Option (Int32 × zS)
  | 0, _, _, _ => none
  | n + 1, x2, x3, s =>
    if (x2 + 3) < x3 then
      zbi (zf18 a1 (x2 + 1) s) fun v1 s2 =>
      zbi (zf18 a1 (x2 + 2) s2) fun v3 s4 =>
      if (((10 * (v1 - 48)) + v3) - 48) = 0 then
        zrb 0 s4
      else
        zgf s4 (zrf a0 1) 1 fun v5 =>
        if (((10 * (v1 - 48)) + v3) - 48) ≤ v5 then
          zbi (zf18 a1 (x2 + 3) s4) fun v6 s7 =>
          zf36_101 a0 a1 zfz (((10 * (v1 - 48)) + v3) - 48) ((v6 - 48) + 5) 0 s7
        else
          zrb 0 s4
    else
      zbi (zf18 a1 x3 s) fun v8 s9 =>
      zbi (zf29 v8 s9) fun v10 s11 =>
      if ¬ v10 = 0 then
        zf36_16 a0 a1 n x2 (x3 + 1) s11
      else
        zrb 0 s11
theorem zf36_16_ok {K : cx_K} (hK : Kok K) {lg : Nat → Int64} {v : Int32} {s' : zS} {a0 : Nat} {a1 : Nat} (h0 : zsh a0 = 4) (h1 : zsh a1 = 1)   {n : Nat} : ∀ {x2 : Int32} {x3 : Int32} {s : zS}, zf36_16 a0 a1 n x2 x3 s = some (v, s') → Ev K zM36 (16, [some (.ref a0), some (.ref a1), some (.int x2), some (.int x3), none, none], [], zmk lg s) 0 (.inl (some (.int v))) (zmk lg s') 0 := by
  induction n with
  | zero => intro x2 x3 s hF; rw [zf36_16] at hF; cases hF
  | succ n ih =>
    intro x2 x3 s hF
    rw [zf36_16] at hF
    refine Ev_p 4 (c' := (20, [some (.ref a0), some (.ref a1), some (.int x2), some (.int x3), none, none], [.int (x2 + 3), .int x3])) rfl ?_
    refine Ez_if (M := zM36) (b := (x2 + 3) < x3) rfl rfl hF (fun _ hF => ?_) (fun _ hF => ?_)
    · refine Ev_p 5 (c' := (48, [some (.ref a0), some (.ref a1), some (.int x2), some (.int x3), none, none], [.int (x2 + 1), .ref a1, .int 10])) rfl ?_
      refine Ez_ci (M := zM36) (As := [.ref a1, .int (x2 + 1)]) (st' := [.int 10]) (am_site_v (y := 18) (k := 2) (ci := 1) rfl rfl (zrcv rfl h1 rfl)) (Nat.le_of_ble_eq_true rfl) (Nat.le_of_ble_eq_true rfl) rfl rfl (fun _ _ hF => zf18_ok hK h1 hF) hF (fun v1 s2 hF => ?_)
      refine Ev_p 7 (c' := (59, [some (.ref a0), some (.ref a1), some (.int x2), some (.int x3), none, none], [.int (x2 + 2), .ref a1, .int (10 * (v1 - 48))])) rfl ?_
      refine Ez_ci (M := zM36) (As := [.ref a1, .int (x2 + 2)]) (st' := [.int (10 * (v1 - 48))]) (am_site_v (y := 18) (k := 2) (ci := 1) rfl rfl (zrcv rfl h1 rfl)) (Nat.le_of_ble_eq_true rfl) (Nat.le_of_ble_eq_true rfl) rfl rfl (fun _ _ hF => zf18_ok hK h1 hF) hF (fun v3 s4 hF => ?_)
      refine Ev_p 5 (c' := (68, [some (.ref a0), some (.ref a1), some (.int x2), some (.int (((10 * (v1 - 48)) + v3) - 48)), none, none], [.int (((10 * (v1 - 48)) + v3) - 48)])) rfl ?_
      refine Ez_if (M := zM36) (b := (((10 * (v1 - 48)) + v3) - 48) = 0) rfl rfl hF (fun _ hF => ?_) (fun _ hF => ?_)
      · refine Ev_p 1 (c' := (83, [some (.ref a0), some (.ref a1), some (.int x2), some (.int (((10 * (v1 - 48)) + v3) - 48)), none, none], [.int 0])) rfl ?_
        exact Ez_rb (M := zM36) rfl rfl hF
      · refine Ev_p 2 (c' := (73, [some (.ref a0), some (.ref a1), some (.int x2), some (.int (((10 * (v1 - 48)) + v3) - 48)), none, none], [.ref a0, .int (((10 * (v1 - 48)) + v3) - 48)])) rfl ?_
        refine Ez_gr (M := zM36) (ci := 4) (f := 1) (t := 1) rfl rfl h0 rfl ?_
        refine Ev_p 0 (c' := (76, [some (.ref a0), some (.ref a1), some (.int x2), some (.int (((10 * (v1 - 48)) + v3) - 48)), none, none], [.ref (zrf a0 1), .int (((10 * (v1 - 48)) + v3) - 48)])) rfl ?_
        refine Ez_gf (M := zM36) (ci := 1) (f := 1) rfl rfl (zty (ci := 4) (f := 1) (t := 1) h0 rfl) rfl hF (fun v5 hF => ?_)
        refine Ev_p 0 (c' := (79, [some (.ref a0), some (.ref a1), some (.int x2), some (.int (((10 * (v1 - 48)) + v3) - 48)), none, none], [.int v5, .int (((10 * (v1 - 48)) + v3) - 48)])) rfl ?_
        refine Ez_if (M := zM36) (b := (((10 * (v1 - 48)) + v3) - 48) ≤ v5) rfl rfl hF (fun _ hF => ?_) (fun _ hF => ?_)
        · refine Ev_p 4 (c' := (88, [some (.ref a0), some (.ref a1), some (.int x2), some (.int (((10 * (v1 - 48)) + v3) - 48)), none, none], [.int (x2 + 3), .ref a1])) rfl ?_
          refine Ez_ci (M := zM36) (As := [.ref a1, .int (x2 + 3)]) (st' := []) (am_site_v (y := 18) (k := 2) (ci := 1) rfl rfl (zrcv rfl h1 rfl)) (Nat.le_of_ble_eq_true rfl) (Nat.le_of_ble_eq_true rfl) rfl rfl (fun _ _ hF => zf18_ok hK h1 hF) hF (fun v6 s7 hF => ?_)
          refine Ev_p 7 (c' := (101, [some (.ref a0), some (.ref a1), some (.int x2), some (.int (((10 * (v1 - 48)) + v3) - 48)), some (.int ((v6 - 48) + 5)), some (.int 0)], [])) rfl ?_
          refine Ev_w (L' := [some (.ref a0), some (.ref a1), none, some (.int (((10 * (v1 - 48)) + v3) - 48)), some (.int ((v6 - 48) + 5)), some (.int 0)]) (zle_c (zle_c (zle_n (zle_c (zle_c (zle_c zle_0)))))) ?_
          exact zf36_101_ok hK h0 h1 hF
        · refine Ev_p 1 (c' := (83, [some (.ref a0), some (.ref a1), some (.int x2), some (.int (((10 * (v1 - 48)) + v3) - 48)), none, none], [.int 0])) rfl ?_
          exact Ez_rb (M := zM36) rfl rfl hF
    · refine Ev_p 2 (c' := (25, [some (.ref a0), some (.ref a1), some (.int x2), some (.int x3), none, none], [.int x3, .ref a1])) rfl ?_
      refine Ez_ci (M := zM36) (As := [.ref a1, .int x3]) (st' := []) (am_site_v (y := 18) (k := 2) (ci := 1) rfl rfl (zrcv rfl h1 rfl)) (Nat.le_of_ble_eq_true rfl) (Nat.le_of_ble_eq_true rfl) rfl rfl (fun _ _ hF => zf18_ok hK h1 hF) hF (fun v8 s9 hF => ?_)
      refine Ev_p 0 (c' := (28, [some (.ref a0), some (.ref a1), some (.int x2), some (.int x3), none, none], [.int v8])) rfl ?_
      refine Ez_ci (M := zM36) (As := [.int v8]) (st' := []) (zsite_3 (y := 29) (k := 1) (ci := 0) rfl rfl) (Nat.le_of_ble_eq_true rfl) (Nat.le_of_ble_eq_true rfl) rfl rfl (fun _ _ hF => zf29_ok hK  hF) hF (fun v10 s11 hF => ?_)
      refine Ev_p 0 (c' := (31, [some (.ref a0), some (.ref a1), some (.int x2), some (.int x3), none, none], [.int v10])) rfl ?_
      refine Ez_if (M := zM36) (b := ¬ v10 = 0) rfl rfl hF (fun _ hF => ?_) (fun _ hF => ?_)
      · refine Ev_p 2 (c' := (16, [some (.ref a0), some (.ref a1), some (.int x2), some (.int (x3 + 1)), none, none], [])) rfl ?_
        exact ih hF
      · refine Ev_p 1 (c' := (35, [some (.ref a0), some (.ref a1), some (.int x2), some (.int x3), none, none], [.int 0])) rfl ?_
        exact Ez_rb (M := zM36) rfl rfl hF
noncomputable def zf36 (a0 : Nat) (a1 : Nat) (x2 : Int32) (s : zS) : Option (Int32 × zS) :=
  zgf s a0 4 fun v1 =>
  if (x2 + 3) < v1 then
    zf36_16 a0 a1 zfz x2 (x2 + 1) s
  else
    zrb 0 s
theorem zf36_ok {K : cx_K} (hK : Kok K) {lg : Nat → Int64} {v : Int32} {s' : zS} {a0 : Nat} {a1 : Nat} (h0 : zsh a0 = 4) (h1 : zsh a1 = 1) {x2 : Int32} {s : zS} (hF : zf36 a0 a1 x2 s = some (v, s')) : Ct K 36 [.ref a0, .ref a1, .int x2] (zmk lg s) (.inl (some (.int v))) (zmk lg s') 0 := by
  unfold zf36 at hF
  refine Ct_of hK nd_ok36 (mL := 6) (rt := some .boolean) rfl rfl (Nat.le_of_ble_eq_true rfl) zlen_le ?_
  refine Ev_p 4 (c' := (4, [some (.ref a0), some (.ref a1), some (.int x2), none, none, none], [.ref a0, .int (x2 + 3)])) rfl ?_
  refine Ez_gf (M := zM36) (ci := 4) (f := 4) rfl rfl h0 rfl hF (fun v1 hF => ?_)
  refine Ev_p 0 (c' := (7, [some (.ref a0), some (.ref a1), some (.int x2), none, none, none], [.int v1, .int (x2 + 3)])) rfl ?_
  refine Ez_if (M := zM36) (b := (x2 + 3) < v1) rfl rfl hF (fun _ hF => ?_) (fun _ hF => ?_)
  · refine Ev_p 4 (c' := (16, [some (.ref a0), some (.ref a1), some (.int x2), some (.int (x2 + 1)), none, none], [])) rfl ?_
    exact zf36_16_ok hK h0 h1 hF
  · refine Ev_p 1 (c' := (11, [some (.ref a0), some (.ref a1), some (.int x2), none, none, none], [.int 0])) rfl ?_
    exact Ez_rb (M := zM36) rfl rfl hF
-- PaperParcels$Part.unpack(LPaperParcels$Row;)I
abbrev zM35 : ev_M := (am_in nd_i35, am_fl nd_f4, am_ct nd_k4, am_sl nd_ml nd_s35, fun _ => none, some .int)
noncomputable def zf35_68 (a0 : Nat) (a1 : Nat) (k12 : Int32 → zS → Option (Int32 × zS)) (x2 : Int32) (x3 : Int32) (s : zS) : Option (Int32 × zS) :=
  zgf s (zrf a0 1) 2 fun v1 =>
  if v1 = 0 then
    k12 (x2 + 1) s
  else
    some (x3, s)
theorem zf35_68_ok {K : cx_K} (hK : Kok K) {lg : Nat → Int64} {v : Int32} {s' : zS} {a0 : Nat} {a1 : Nat} (h0 : zsh a0 = 4) (h1 : zsh a1 = 1) {k12 : Int32 → zS → Option (Int32 × zS)} (hk12 : ∀ x2 s, k12 x2 s = some (v, s') → Ev K zM35 (12, [some (.ref a0), some (.ref a1), some (.int x2), none], [], zmk lg s) 0 (.inl (some (.int v))) (zmk lg s') 0) {x2 : Int32} {x3 : Int32}  {s : zS} (hF : zf35_68 a0 a1 k12 x2 x3 s = some (v, s')) : Ev K zM35 (68, [some (.ref a0), some (.ref a1), some (.int x2), some (.int x3)], [], zmk lg s) 0 (.inl (some (.int v))) (zmk lg s') 0 := by
  unfold zf35_68 at hF
  refine Ev_p 1 (c' := (69, [some (.ref a0), some (.ref a1), some (.int x2), some (.int x3)], [.ref a0])) rfl ?_
  refine Ez_gr (M := zM35) (ci := 4) (f := 1) (t := 1) rfl rfl h0 rfl ?_
  refine Ev_p 0 (c' := (72, [some (.ref a0), some (.ref a1), some (.int x2), some (.int x3)], [.ref (zrf a0 1)])) rfl ?_
  refine Ez_gf (M := zM35) (ci := 1) (f := 2) rfl rfl (zty (ci := 4) (f := 1) (t := 1) h0 rfl) rfl hF (fun v1 hF => ?_)
  refine Ev_p 0 (c' := (75, [some (.ref a0), some (.ref a1), some (.int x2), some (.int x3)], [.int v1])) rfl ?_
  refine Ez_if (M := zM35) (b := v1 = 0) rfl rfl hF (fun _ hF => ?_) (fun _ hF => ?_)
  · refine Ev_p 2 (c' := (12, [some (.ref a0), some (.ref a1), some (.int (x2 + 1)), some (.int x3)], [])) rfl ?_
    refine Ev_w (L' := [some (.ref a0), some (.ref a1), some (.int (x2 + 1)), none]) (zle_c (zle_c (zle_c (zle_n zle_0)))) ?_
    exact hk12 _ _ hF
  · refine Ev_p 1 (c' := (79, [some (.ref a0), some (.ref a1), some (.int x2), some (.int x3)], [.int x3])) rfl ?_
    exact Ez_ri (M := zM35) rfl rfl hF
noncomputable def zf35_56 (a0 : Nat) (a1 : Nat) (k12 : Int32 → zS → Option (Int32 × zS)) (x2 : Int32) (x3 : Int32) (s : zS) : Option (Int32 × zS) :=
  zbi (zf18 a1 x2 s) fun v1 s2 =>
  zbv (zf13 (zrf a0 1) v1 s2) fun s4 =>
  zf35_68 a0 a1 k12 x2 x3 s4
theorem zf35_56_ok {K : cx_K} (hK : Kok K) {lg : Nat → Int64} {v : Int32} {s' : zS} {a0 : Nat} {a1 : Nat} (h0 : zsh a0 = 4) (h1 : zsh a1 = 1) {k12 : Int32 → zS → Option (Int32 × zS)} (hk12 : ∀ x2 s, k12 x2 s = some (v, s') → Ev K zM35 (12, [some (.ref a0), some (.ref a1), some (.int x2), none], [], zmk lg s) 0 (.inl (some (.int v))) (zmk lg s') 0) {x2 : Int32} {x3 : Int32}  {s : zS} (hF : zf35_56 a0 a1 k12 x2 x3 s = some (v, s')) : Ev K zM35 (56, [some (.ref a0), some (.ref a1), some (.int x2), some (.int x3)], [], zmk lg s) 0 (.inl (some (.int v))) (zmk lg s') 0 := by
  unfold zf35_56 at hF
  refine Ev_p 1 (c' := (57, [some (.ref a0), some (.ref a1), some (.int x2), some (.int x3)], [.ref a0])) rfl ?_
  refine Ez_gr (M := zM35) (ci := 4) (f := 1) (t := 1) rfl rfl h0 rfl ?_
  refine Ev_p 2 (c' := (62, [some (.ref a0), some (.ref a1), some (.int x2), some (.int x3)], [.int x2, .ref a1, .ref (zrf a0 1)])) rfl ?_
  refine Ez_ci (M := zM35) (As := [.ref a1, .int x2]) (st' := [.ref (zrf a0 1)]) (am_site_v (y := 18) (k := 2) (ci := 1) rfl rfl (zrcv rfl h1 rfl)) (Nat.le_of_ble_eq_true rfl) (Nat.le_of_ble_eq_true rfl) rfl rfl (fun _ _ hF => zf18_ok hK h1 hF) hF (fun v1 s2 hF => ?_)
  refine Ev_p 0 (c' := (65, [some (.ref a0), some (.ref a1), some (.int x2), some (.int x3)], [.int v1, .ref (zrf a0 1)])) rfl ?_
  refine Ez_cv (M := zM35) (As := [.ref (zrf a0 1), .int v1]) (st' := []) (am_site_v (y := 13) (k := 2) (ci := 1) rfl rfl (zrcv rfl (zty (ci := 4) (f := 1) (t := 1) h0 rfl) rfl)) (Nat.le_of_ble_eq_true rfl) (Nat.le_of_ble_eq_true rfl) rfl rfl (fun _ hF => zf13_ok hK (zty (ci := 4) (f := 1) (t := 1) h0 rfl) hF) hF (fun s4 hF => ?_)
  refine Ev_p 0 (c' := (68, [some (.ref a0), some (.ref a1), some (.int x2), some (.int x3)], [])) rfl ?_
  exact zf35_68_ok hK h0 h1 hk12 hF
noncomputable def zf35_12 (a0 : Nat) (a1 : Nat)  : Nat → Int32 → zS → Option (Int32 × zS)
  | 0, _, _ => none
  | n + 1, x2, s =>
    zgf s a0 4 fun v1 =>
    if v1 ≤ x2 then
      some ((-1), s)
    else
      zgf s a0 2 fun v2 =>
      if v2 = 0 then
        zf35_56 a0 a1 (zf35_12 a0 a1 n) x2 x2 s
      else
        zbi (zf18 a1 x2 s) fun v3 s4 =>
        if ¬ v3 = 126 then
          zf35_56 a0 a1 (zf35_12 a0 a1 n) x2 x2 s4
        else
          zbi (zf36 a0 a1 x2 s4) fun v5 s6 =>
          if ¬ v5 = 0 then
            zf35_68 a0 a1 (zf35_12 a0 a1 n) (x2 + 3) x2 s6
          else
            some (x2, s6)
theorem zf35_12_ok {K : cx_K} (hK : Kok K) {lg : Nat → Int64} {v : Int32} {s' : zS} {a0 : Nat} {a1 : Nat} (h0 : zsh a0 = 4) (h1 : zsh a1 = 1)   {n : Nat} : ∀ {x2 : Int32} {s : zS}, zf35_12 a0 a1 n x2 s = some (v, s') → Ev K zM35 (12, [some (.ref a0), some (.ref a1), some (.int x2), none], [], zmk lg s) 0 (.inl (some (.int v))) (zmk lg s') 0 := by
  induction n with
  | zero => intro x2 s hF; rw [zf35_12] at hF; cases hF
  | succ n ih =>
    intro x2 s hF
    rw [zf35_12] at hF
    refine Ev_p 2 (c' := (14, [some (.ref a0), some (.ref a1), some (.int x2), none], [.ref a0, .int x2])) rfl ?_
    refine Ez_gf (M := zM35) (ci := 4) (f := 4) rfl rfl h0 rfl hF (fun v1 hF => ?_)
    refine Ev_p 0 (c' := (17, [some (.ref a0), some (.ref a1), some (.int x2), none], [.int v1, .int x2])) rfl ?_
    refine Ez_if (M := zM35) (b := v1 ≤ x2) rfl rfl hF (fun _ hF => ?_) (fun _ hF => ?_)
    · refine Ev_p 1 (c' := (87, [some (.ref a0), some (.ref a1), some (.int x2), none], [.int (-1)])) rfl ?_
      exact Ez_ri (M := zM35) rfl rfl hF
    · refine Ev_p 3 (c' := (23, [some (.ref a0), some (.ref a1), some (.int x2), some (.int x2)], [.ref a0])) rfl ?_
      refine Ez_gf (M := zM35) (ci := 4) (f := 2) rfl rfl h0 rfl hF (fun v2 hF => ?_)
      refine Ev_p 0 (c' := (26, [some (.ref a0), some (.ref a1), some (.int x2), some (.int x2)], [.int v2])) rfl ?_
      refine Ez_if (M := zM35) (b := v2 = 0) rfl rfl hF (fun _ hF => ?_) (fun _ hF => ?_)
      · refine Ev_p 0 (c' := (56, [some (.ref a0), some (.ref a1), some (.int x2), some (.int x2)], [])) rfl ?_
        exact zf35_56_ok hK h0 h1 (fun _ _ hF => ih hF) hF
      · refine Ev_p 2 (c' := (31, [some (.ref a0), some (.ref a1), some (.int x2), some (.int x2)], [.int x2, .ref a1])) rfl ?_
        refine Ez_ci (M := zM35) (As := [.ref a1, .int x2]) (st' := []) (am_site_v (y := 18) (k := 2) (ci := 1) rfl rfl (zrcv rfl h1 rfl)) (Nat.le_of_ble_eq_true rfl) (Nat.le_of_ble_eq_true rfl) rfl rfl (fun _ _ hF => zf18_ok hK h1 hF) hF (fun v3 s4 hF => ?_)
        refine Ev_p 1 (c' := (36, [some (.ref a0), some (.ref a1), some (.int x2), some (.int x2)], [.int 126, .int v3])) rfl ?_
        refine Ez_if (M := zM35) (b := ¬ v3 = 126) rfl rfl hF (fun _ hF => ?_) (fun _ hF => ?_)
        · refine Ev_p 0 (c' := (56, [some (.ref a0), some (.ref a1), some (.int x2), some (.int x2)], [])) rfl ?_
          exact zf35_56_ok hK h0 h1 (fun _ _ hF => ih hF) hF
        · refine Ev_p 3 (c' := (42, [some (.ref a0), some (.ref a1), some (.int x2), some (.int x2)], [.int x2, .ref a1, .ref a0])) rfl ?_
          refine Ez_ci (M := zM35) (As := [.ref a0, .ref a1, .int x2]) (st' := []) (am_site_v (y := 36) (k := 3) (ci := 4) rfl rfl (zrcv rfl h0 rfl)) (Nat.le_of_ble_eq_true rfl) (Nat.le_of_ble_eq_true rfl) rfl rfl (fun _ _ hF => zf36_ok hK h0 h1 hF) hF (fun v5 s6 hF => ?_)
          refine Ev_p 0 (c' := (45, [some (.ref a0), some (.ref a1), some (.int x2), some (.int x2)], [.int v5])) rfl ?_
          refine Ez_if (M := zM35) (b := ¬ v5 = 0) rfl rfl hF (fun _ hF => ?_) (fun _ hF => ?_)
          · refine Ev_p 2 (c' := (68, [some (.ref a0), some (.ref a1), some (.int (x2 + 3)), some (.int x2)], [])) rfl ?_
            exact zf35_68_ok hK h0 h1 (fun _ _ hF => ih hF) hF
          · refine Ev_p 1 (c' := (49, [some (.ref a0), some (.ref a1), some (.int x2), some (.int x2)], [.int x2])) rfl ?_
            exact Ez_ri (M := zM35) rfl rfl hF
noncomputable def zf35 (a0 : Nat) (a1 : Nat) (s : zS) : Option (Int32 × zS) :=
  zbv (zf15 (zrf a0 1) s) fun s2 =>
  zgf s2 a0 3 fun v3 =>
  zf35_12 a0 a1 zfz v3 s2
theorem zf35_ok {K : cx_K} (hK : Kok K) {lg : Nat → Int64} {v : Int32} {s' : zS} {a0 : Nat} {a1 : Nat} (h0 : zsh a0 = 4) (h1 : zsh a1 = 1)  {s : zS} (hF : zf35 a0 a1 s = some (v, s')) : Ct K 35 [.ref a0, .ref a1] (zmk lg s) (.inl (some (.int v))) (zmk lg s') 0 := by
  unfold zf35 at hF
  refine Ct_of hK nd_ok35 (mL := 4) (rt := some .int) rfl rfl (Nat.le_of_ble_eq_true rfl) zlen_le ?_
  refine Ev_p 1 (c' := (1, [some (.ref a0), some (.ref a1), none, none], [.ref a0])) rfl ?_
  refine Ez_gr (M := zM35) (ci := 4) (f := 1) (t := 1) rfl rfl h0 rfl ?_
  refine Ev_p 0 (c' := (4, [some (.ref a0), some (.ref a1), none, none], [.ref (zrf a0 1)])) rfl ?_
  refine Ez_cv (M := zM35) (As := [.ref (zrf a0 1)]) (st' := []) (am_site_v (y := 15) (k := 1) (ci := 1) rfl rfl (zrcv rfl (zty (ci := 4) (f := 1) (t := 1) h0 rfl) rfl)) (Nat.le_of_ble_eq_true rfl) (Nat.le_of_ble_eq_true rfl) rfl rfl (fun _ hF => zf15_ok hK (zty (ci := 4) (f := 1) (t := 1) h0 rfl) hF) hF (fun s2 hF => ?_)
  refine Ev_p 1 (c' := (8, [some (.ref a0), some (.ref a1), none, none], [.ref a0])) rfl ?_
  refine Ez_gf (M := zM35) (ci := 4) (f := 3) rfl rfl h0 rfl hF (fun v3 hF => ?_)
  refine Ev_p 1 (c' := (12, [some (.ref a0), some (.ref a1), some (.int v3), none], [])) rfl ?_
  exact zf35_12_ok hK h0 h1 hF
-- PaperParcels$Row.checkSum()I
abbrev zM38 : ev_M := (am_in nd_i38, am_fl nd_f1, am_ct nd_k1, am_sl nd_ml nd_s38, fun _ => none, some .int)
noncomputable def zf38_45 (a0 : Nat) (k5 : Int32 → Int32 → zS → Option (Int32 × zS)) (k27 : Int32 → Int32 → Int32 → zS → Option (Int32 × zS)) (x1 : Int32) (x2 : Int32) (x3 : Int32) (t0 : Int32) (s : zS) : Option (Int32 × zS) :=
  if t0 = 0 then
    k27 ((x1 <<< (1 &&& 31)) &&& 65535) x2 (x3 + 1) s
  else
    k27 (((x1 <<< (1 &&& 31)) &&& 65535) ^^^ 4129) x2 (x3 + 1) s
theorem zf38_45_ok {K : cx_K} (hK : Kok K) {lg : Nat → Int64} {v : Int32} {s' : zS} {a0 : Nat} (h0 : zsh a0 = 1) {k5 : Int32 → Int32 → zS → Option (Int32 × zS)} {k27 : Int32 → Int32 → Int32 → zS → Option (Int32 × zS)} (hk5 : ∀ x1 x2 s, k5 x1 x2 s = some (v, s') → Ev K zM38 (5, [some (.ref a0), some (.int x1), some (.int x2), none, none], [], zmk lg s) 0 (.inl (some (.int v))) (zmk lg s') 0) (hk27 : ∀ x1 x2 x3 s, k27 x1 x2 x3 s = some (v, s') → Ev K zM38 (27, [some (.ref a0), some (.int x1), some (.int x2), some (.int x3), none], [], zmk lg s) 0 (.inl (some (.int v))) (zmk lg s') 0) {x1 : Int32} {x2 : Int32} {x3 : Int32} {t0 : Int32}  {s : zS} (hF : zf38_45 a0 k5 k27 x1 x2 x3 t0 s = some (v, s')) : Ev K zM38 (45, [some (.ref a0), some (.int x1), some (.int x2), some (.int x3), none], [.int t0], zmk lg s) 0 (.inl (some (.int v))) (zmk lg s') 0 := by
  unfold zf38_45 at hF
  refine Ev_p 4 (c' := (50, [some (.ref a0), some (.int x1), some (.int x2), some (.int x3), some (.int t0)], [.int (x1 <<< (1 &&& 31))])) rfl ?_
  refine Ez_ldc (M := zM38) (x := 65535) rfl rfl ?_
  refine Ev_p 3 (c' := (56, [some (.ref a0), some (.int ((x1 <<< (1 &&& 31)) &&& 65535)), some (.int x2), some (.int x3), some (.int t0)], [.int t0])) rfl ?_
  refine Ez_if (M := zM38) (b := t0 = 0) rfl rfl hF (fun _ hF => ?_) (fun _ hF => ?_)
  · refine Ev_p 2 (c' := (27, [some (.ref a0), some (.int ((x1 <<< (1 &&& 31)) &&& 65535)), some (.int x2), some (.int (x3 + 1)), some (.int t0)], [])) rfl ?_
    refine Ev_w (L' := [some (.ref a0), some (.int ((x1 <<< (1 &&& 31)) &&& 65535)), some (.int x2), some (.int (x3 + 1)), none]) (zle_c (zle_c (zle_c (zle_c (zle_n zle_0))))) ?_
    exact hk27 _ _ _ _ hF
  · refine Ev_p 6 (c' := (27, [some (.ref a0), some (.int (((x1 <<< (1 &&& 31)) &&& 65535) ^^^ 4129)), some (.int x2), some (.int (x3 + 1)), some (.int t0)], [])) rfl ?_
    refine Ev_w (L' := [some (.ref a0), some (.int (((x1 <<< (1 &&& 31)) &&& 65535) ^^^ 4129)), some (.int x2), some (.int (x3 + 1)), none]) (zle_c (zle_c (zle_c (zle_c (zle_n zle_0))))) ?_
    exact hk27 _ _ _ _ hF
noncomputable def zf38_27 (a0 : Nat) (k5 : Int32 → Int32 → zS → Option (Int32 × zS)) : Nat → Int32 → Int32 → Int32 → zS → Option (Int32 × zS)
  | 0, _, _, _, _ => none
  | n + 1, x1, x2, x3, s =>
    if 8 ≤ x3 then
      k5 x1 (x2 + 1) s
    else
      if (x1 &&& 32768) = 0 then
        zf38_45 a0 k5 (zf38_27 a0 k5 n) x1 x2 x3 0 s
      else
        zf38_45 a0 k5 (zf38_27 a0 k5 n) x1 x2 x3 1 s
theorem zf38_27_ok {K : cx_K} (hK : Kok K) {lg : Nat → Int64} {v : Int32} {s' : zS} {a0 : Nat} (h0 : zsh a0 = 1) {k5 : Int32 → Int32 → zS → Option (Int32 × zS)} (hk5 : ∀ x1 x2 s, k5 x1 x2 s = some (v, s') → Ev K zM38 (5, [some (.ref a0), some (.int x1), some (.int x2), none, none], [], zmk lg s) 0 (.inl (some (.int v))) (zmk lg s') 0) {n : Nat} : ∀ {x1 : Int32} {x2 : Int32} {x3 : Int32} {s : zS}, zf38_27 a0 k5 n x1 x2 x3 s = some (v, s') → Ev K zM38 (27, [some (.ref a0), some (.int x1), some (.int x2), some (.int x3), none], [], zmk lg s) 0 (.inl (some (.int v))) (zmk lg s') 0 := by
  induction n with
  | zero => intro x1 x2 x3 s hF; rw [zf38_27] at hF; cases hF
  | succ n ih =>
    intro x1 x2 x3 s hF
    rw [zf38_27] at hF
    refine Ev_p 2 (c' := (30, [some (.ref a0), some (.int x1), some (.int x2), some (.int x3), none], [.int 8, .int x3])) rfl ?_
    refine Ez_if (M := zM38) (b := 8 ≤ x3) rfl rfl hF (fun _ hF => ?_) (fun _ hF => ?_)
    · refine Ev_p 2 (c' := (5, [some (.ref a0), some (.int x1), some (.int (x2 + 1)), some (.int x3), none], [])) rfl ?_
      refine Ev_w (L' := [some (.ref a0), some (.int x1), some (.int (x2 + 1)), none, none]) (zle_c (zle_c (zle_c (zle_n (zle_c zle_0))))) ?_
      exact hk5 _ _ _ hF
    · refine Ev_p 1 (c' := (34, [some (.ref a0), some (.int x1), some (.int x2), some (.int x3), none], [.int x1])) rfl ?_
      refine Ez_ldc (M := zM38) (x := 32768) rfl rfl ?_
      refine Ev_p 1 (c' := (37, [some (.ref a0), some (.int x1), some (.int x2), some (.int x3), none], [.int (x1 &&& 32768)])) rfl ?_
      refine Ez_if (M := zM38) (b := (x1 &&& 32768) = 0) rfl rfl hF (fun _ hF => ?_) (fun _ hF => ?_)
      · refine Ev_p 1 (c' := (45, [some (.ref a0), some (.int x1), some (.int x2), some (.int x3), none], [.int 0])) rfl ?_
        exact zf38_45_ok hK h0 hk5 (fun _ _ _ _ hF => ih hF) hF
      · refine Ev_p 2 (c' := (45, [some (.ref a0), some (.int x1), some (.int x2), some (.int x3), none], [.int 1])) rfl ?_
        exact zf38_45_ok hK h0 hk5 (fun _ _ _ _ hF => ih hF) hF
noncomputable def zf38_5 (a0 : Nat)  : Nat → Int32 → Int32 → zS → Option (Int32 × zS)
  | 0, _, _, _ => none
  | n + 1, x1, x2, s =>
    zgf s a0 1 fun v1 =>
    if v1 ≤ x2 then
      some (x1, s)
    else
      zal s (zrf a0 0) x2 fun v2 =>
      zf38_27 a0 (zf38_5 a0 n) zfz (x1 ^^^ (v2 <<< (8 &&& 31))) x2 0 s
theorem zf38_5_ok {K : cx_K} (hK : Kok K) {lg : Nat → Int64} {v : Int32} {s' : zS} {a0 : Nat} (h0 : zsh a0 = 1)   {n : Nat} : ∀ {x1 : Int32} {x2 : Int32} {s : zS}, zf38_5 a0 n x1 x2 s = some (v, s') → Ev K zM38 (5, [some (.ref a0), some (.int x1), some (.int x2), none, none], [], zmk lg s) 0 (.inl (some (.int v))) (zmk lg s') 0 := by
  induction n with
  | zero => intro x1 x2 s hF; rw [zf38_5] at hF; cases hF
  | succ n ih =>
    intro x1 x2 s hF
    rw [zf38_5] at hF
    refine Ev_p 2 (c' := (7, [some (.ref a0), some (.int x1), some (.int x2), none, none], [.ref a0, .int x2])) rfl ?_
    refine Ez_gf (M := zM38) (ci := 1) (f := 1) rfl rfl h0 rfl hF (fun v1 hF => ?_)
    refine Ev_p 0 (c' := (10, [some (.ref a0), some (.int x1), some (.int x2), none, none], [.int v1, .int x2])) rfl ?_
    refine Ez_if (M := zM38) (b := v1 ≤ x2) rfl rfl hF (fun _ hF => ?_) (fun _ hF => ?_)
    · refine Ev_p 1 (c' := (78, [some (.ref a0), some (.int x1), some (.int x2), none, none], [.int x1])) rfl ?_
      exact Ez_ri (M := zM38) rfl rfl hF
    · refine Ev_p 2 (c' := (15, [some (.ref a0), some (.int x1), some (.int x2), none, none], [.ref a0, .int x1])) rfl ?_
      refine Ez_gr (M := zM38) (ci := 1) (f := 0) (t := 100) rfl rfl h0 rfl ?_
      refine Ev_p 1 (c' := (19, [some (.ref a0), some (.int x1), some (.int x2), none, none], [.int x2, .ref (zrf a0 0), .int x1])) rfl ?_
      refine Ez_al (M := zM38) rfl (zty (ci := 1) (f := 0) (t := 100) h0 rfl) hF (fun v2 hF => ?_)
      refine Ev_p 6 (c' := (27, [some (.ref a0), some (.int (x1 ^^^ (v2 <<< (8 &&& 31)))), some (.int x2), some (.int 0), none], [])) rfl ?_
      exact zf38_27_ok hK h0 (fun _ _ _ hF => ih hF) hF
noncomputable def zf38 (a0 : Nat) (s : zS) : Option (Int32 × zS) :=
  zf38_5 a0 zfz 65535 0 s
theorem zf38_ok {K : cx_K} (hK : Kok K) {lg : Nat → Int64} {v : Int32} {s' : zS} {a0 : Nat} (h0 : zsh a0 = 1)  {s : zS} (hF : zf38 a0 s = some (v, s')) : Ct K 38 [.ref a0] (zmk lg s) (.inl (some (.int v))) (zmk lg s') 0 := by
  unfold zf38 at hF
  refine Ct_of hK nd_ok38 (mL := 5) (rt := some .int) rfl rfl (Nat.le_of_ble_eq_true rfl) zlen_le ?_
  refine Ev_p 0 (c' := (0, [some (.ref a0), none, none, none, none], [])) rfl ?_
  refine Ez_ldc (M := zM38) (x := 65535) rfl rfl ?_
  refine Ev_p 3 (c' := (5, [some (.ref a0), some (.int 65535), some (.int 0), none, none], [])) rfl ?_
  exact zf38_5_ok hK h0 hF
-- PaperParcels.hexDigit(I)I
abbrev zM39 : ev_M := (am_in nd_i39, am_fl nd_f0, am_ct nd_k0, am_sl nd_ml nd_s39, fun _ => none, some .int)
noncomputable def zf39 (x0 : Int32) (s : zS) : Option (Int32 × zS) :=
  if 10 ≤ x0 then
    some (((97 + x0) - 10), s)
  else
    some ((48 + x0), s)
theorem zf39_ok {K : cx_K} (hK : Kok K) {lg : Nat → Int64} {v : Int32} {s' : zS}   {x0 : Int32} {s : zS} (hF : zf39 x0 s = some (v, s')) : Ct K 39 [.int x0] (zmk lg s) (.inl (some (.int v))) (zmk lg s') 0 := by
  unfold zf39 at hF
  refine Ct_of hK nd_ok39 (mL := 1) (rt := some .int) rfl rfl (Nat.le_of_ble_eq_true rfl) zlen_le ?_
  refine Ev_p 2 (c' := (3, [some (.int x0)], [.int 10, .int x0])) rfl ?_
  refine Ez_if (M := zM39) (b := 10 ≤ x0) rfl rfl hF (fun _ hF => ?_) (fun _ hF => ?_)
  · refine Ev_p 5 (c' := (20, [some (.int x0)], [.int ((97 + x0) - 10)])) rfl ?_
    exact Ez_ri (M := zM39) rfl rfl hF
  · refine Ev_p 4 (c' := (20, [some (.int x0)], [.int (48 + x0)])) rfl ?_
    exact Ez_ri (M := zM39) rfl rfl hF
-- PaperParcels$Part.checkFault(LPaperParcels$Row;)I
abbrev zM37 : ev_M := (am_in nd_i37, am_fl nd_f4, am_ct nd_k4, am_sl nd_ml nd_s37, fun _ => none, some .int)
noncomputable def zf37_10 (a0 : Nat) (a1 : Nat)  : Nat → Int32 → Int32 → zS → Option (Int32 × zS)
  | 0, _, _, _ => none
  | n + 1, x2, x3, s =>
    if 4 ≤ x3 then
      some ((-1), s)
    else
      zgf s a0 4 fun v1 =>
      zbi (zf18 a1 (v1 + x3) s) fun v2 s3 =>
      zbi (zf39 ((x2 >>> ((12 - (4 * x3)) &&& 31)) &&& 15) s3) fun v4 s5 =>
      if v2 = v4 then
        zf37_10 a0 a1 n x2 (x3 + 1) s5
      else
        zgf s5 a0 4 fun v6 =>
        some (v6, s5)
theorem zf37_10_ok {K : cx_K} (hK : Kok K) {lg : Nat → Int64} {v : Int32} {s' : zS} {a0 : Nat} {a1 : Nat} (h0 : zsh a0 = 4) (h1 : zsh a1 = 1)   {n : Nat} : ∀ {x2 : Int32} {x3 : Int32} {s : zS}, zf37_10 a0 a1 n x2 x3 s = some (v, s') → Ev K zM37 (10, [some (.ref a0), some (.ref a1), some (.int x2), some (.int x3)], [], zmk lg s) 0 (.inl (some (.int v))) (zmk lg s') 0 := by
  induction n with
  | zero => intro x2 x3 s hF; rw [zf37_10] at hF; cases hF
  | succ n ih =>
    intro x2 x3 s hF
    rw [zf37_10] at hF
    refine Ev_p 2 (c' := (12, [some (.ref a0), some (.ref a1), some (.int x2), some (.int x3)], [.int 4, .int x3])) rfl ?_
    refine Ez_if (M := zM37) (b := 4 ≤ x3) rfl rfl hF (fun _ hF => ?_) (fun _ hF => ?_)
    · refine Ev_p 1 (c' := (54, [some (.ref a0), some (.ref a1), some (.int x2), some (.int x3)], [.int (-1)])) rfl ?_
      exact Ez_ri (M := zM37) rfl rfl hF
    · refine Ev_p 2 (c' := (17, [some (.ref a0), some (.ref a1), some (.int x2), some (.int x3)], [.ref a0, .ref a1])) rfl ?_
      refine Ez_gf (M := zM37) (ci := 4) (f := 4) rfl rfl h0 rfl hF (fun v1 hF => ?_)
      refine Ev_p 2 (c' := (22, [some (.ref a0), some (.ref a1), some (.int x2), some (.int x3)], [.int (v1 + x3), .ref a1])) rfl ?_
      refine Ez_ci (M := zM37) (As := [.ref a1, .int (v1 + x3)]) (st' := []) (am_site_v (y := 18) (k := 2) (ci := 1) rfl rfl (zrcv rfl h1 rfl)) (Nat.le_of_ble_eq_true rfl) (Nat.le_of_ble_eq_true rfl) rfl rfl (fun _ _ hF => zf18_ok hK h1 hF) hF (fun v2 s3 hF => ?_)
      refine Ev_p 9 (c' := (36, [some (.ref a0), some (.ref a1), some (.int x2), some (.int x3)], [.int ((x2 >>> ((12 - (4 * x3)) &&& 31)) &&& 15), .int v2])) rfl ?_
      refine Ez_ci (M := zM37) (As := [.int ((x2 >>> ((12 - (4 * x3)) &&& 31)) &&& 15)]) (st' := [.int v2]) (zsite_3 (y := 39) (k := 1) (ci := 0) rfl rfl) (Nat.le_of_ble_eq_true rfl) (Nat.le_of_ble_eq_true rfl) rfl rfl (fun _ _ hF => zf39_ok hK  hF) hF (fun v4 s5 hF => ?_)
      refine Ev_p 0 (c' := (39, [some (.ref a0), some (.ref a1), some (.int x2), some (.int x3)], [.int v4, .int v2])) rfl ?_
      refine Ez_if (M := zM37) (b := v2 = v4) rfl rfl hF (fun _ hF => ?_) (fun _ hF => ?_)
      · refine Ev_p 2 (c' := (10, [some (.ref a0), some (.ref a1), some (.int x2), some (.int (x3 + 1))], [])) rfl ?_
        exact ih hF
      · refine Ev_p 1 (c' := (43, [some (.ref a0), some (.ref a1), some (.int x2), some (.int x3)], [.ref a0])) rfl ?_
        refine Ez_gf (M := zM37) (ci := 4) (f := 4) rfl rfl h0 rfl hF (fun v6 hF => ?_)
        refine Ev_p 0 (c' := (46, [some (.ref a0), some (.ref a1), some (.int x2), some (.int x3)], [.int v6])) rfl ?_
        exact Ez_ri (M := zM37) rfl rfl hF
noncomputable def zf37 (a0 : Nat) (a1 : Nat) (s : zS) : Option (Int32 × zS) :=
  zbi (zf38 (zrf a0 1) s) fun v1 s2 =>
  zf37_10 a0 a1 zfz v1 0 s2
theorem zf37_ok {K : cx_K} (hK : Kok K) {lg : Nat → Int64} {v : Int32} {s' : zS} {a0 : Nat} {a1 : Nat} (h0 : zsh a0 = 4) (h1 : zsh a1 = 1)  {s : zS} (hF : zf37 a0 a1 s = some (v, s')) : Ct K 37 [.ref a0, .ref a1] (zmk lg s) (.inl (some (.int v))) (zmk lg s') 0 := by
  unfold zf37 at hF
  refine Ct_of hK nd_ok37 (mL := 4) (rt := some .int) rfl rfl (Nat.le_of_ble_eq_true rfl) zlen_le ?_
  refine Ev_p 1 (c' := (1, [some (.ref a0), some (.ref a1), none, none], [.ref a0])) rfl ?_
  refine Ez_gr (M := zM37) (ci := 4) (f := 1) (t := 1) rfl rfl h0 rfl ?_
  refine Ev_p 0 (c' := (4, [some (.ref a0), some (.ref a1), none, none], [.ref (zrf a0 1)])) rfl ?_
  refine Ez_ci (M := zM37) (As := [.ref (zrf a0 1)]) (st' := []) (am_site_v (y := 38) (k := 1) (ci := 1) rfl rfl (zrcv rfl (zty (ci := 4) (f := 1) (t := 1) h0 rfl) rfl)) (Nat.le_of_ble_eq_true rfl) (Nat.le_of_ble_eq_true rfl) rfl rfl (fun _ _ hF => zf38_ok hK (zty (ci := 4) (f := 1) (t := 1) h0 rfl) hF) hF (fun v1 s2 hF => ?_)
  refine Ev_p 3 (c' := (10, [some (.ref a0), some (.ref a1), some (.int v1), some (.int 0)], [])) rfl ?_
  exact zf37_10_ok hK h0 h1 hF
-- PaperParcels$Reader.contentFault(LPaperParcels$Part;LPaperParcels$Row;)I
abbrev zM34 : ev_M := (am_in nd_i34, am_fl nd_f3, am_ct nd_k3, am_sl nd_ml nd_s34, fun _ => none, some .int)
noncomputable def zf34 (a0 : Nat) (a1 : Nat) (a2 : Nat) (s : zS) : Option (Int32 × zS) :=
  zbi (zf35 a1 a2 s) fun v1 s2 =>
  zbi (zf33 a0 v1 s2) fun v3 s4 =>
  if v3 = 0 then
    zbi (zf37 a1 a2 s4) fun v5 s6 =>
    zbi (zf33 a0 v5 s6) fun v7 s8 =>
    if v7 = 0 then
      some (0, s8)
    else
      some (3, s8)
  else
    some (2, s4)
theorem zf34_ok {K : cx_K} (hK : Kok K) {lg : Nat → Int64} {v : Int32} {s' : zS} {a0 : Nat} {a1 : Nat} {a2 : Nat} (h0 : zsh a0 = 3) (h1 : zsh a1 = 4) (h2 : zsh a2 = 1)  {s : zS} (hF : zf34 a0 a1 a2 s = some (v, s')) : Ct K 34 [.ref a0, .ref a1, .ref a2] (zmk lg s) (.inl (some (.int v))) (zmk lg s') 0 := by
  unfold zf34 at hF
  refine Ct_of hK nd_ok34 (mL := 3) (rt := some .int) rfl rfl (Nat.le_of_ble_eq_true rfl) zlen_le ?_
  refine Ev_p 3 (c' := (3, [some (.ref a0), some (.ref a1), some (.ref a2)], [.ref a2, .ref a1, .ref a0])) rfl ?_
  refine Ez_ci (M := zM34) (As := [.ref a1, .ref a2]) (st' := [.ref a0]) (am_site_v (y := 35) (k := 2) (ci := 4) rfl rfl (zrcv rfl h1 rfl)) (Nat.le_of_ble_eq_true rfl) (Nat.le_of_ble_eq_true rfl) rfl rfl (fun _ _ hF => zf35_ok hK h1 h2 hF) hF (fun v1 s2 hF => ?_)
  refine Ev_p 0 (c' := (6, [some (.ref a0), some (.ref a1), some (.ref a2)], [.int v1, .ref a0])) rfl ?_
  refine Ez_ci (M := zM34) (As := [.ref a0, .int v1]) (st' := []) (am_site_v (y := 33) (k := 2) (ci := 3) rfl rfl (zrcv rfl h0 rfl)) (Nat.le_of_ble_eq_true rfl) (Nat.le_of_ble_eq_true rfl) rfl rfl (fun _ _ hF => zf33_ok hK h0 hF) hF (fun v3 s4 hF => ?_)
  refine Ev_p 0 (c' := (9, [some (.ref a0), some (.ref a1), some (.ref a2)], [.int v3])) rfl ?_
  refine Ez_if (M := zM34) (b := v3 = 0) rfl rfl hF (fun _ hF => ?_) (fun _ hF => ?_)
  · refine Ev_p 3 (c' := (17, [some (.ref a0), some (.ref a1), some (.ref a2)], [.ref a2, .ref a1, .ref a0])) rfl ?_
    refine Ez_ci (M := zM34) (As := [.ref a1, .ref a2]) (st' := [.ref a0]) (am_site_v (y := 37) (k := 2) (ci := 4) rfl rfl (zrcv rfl h1 rfl)) (Nat.le_of_ble_eq_true rfl) (Nat.le_of_ble_eq_true rfl) rfl rfl (fun _ _ hF => zf37_ok hK h1 h2 hF) hF (fun v5 s6 hF => ?_)
    refine Ev_p 0 (c' := (20, [some (.ref a0), some (.ref a1), some (.ref a2)], [.int v5, .ref a0])) rfl ?_
    refine Ez_ci (M := zM34) (As := [.ref a0, .int v5]) (st' := []) (am_site_v (y := 33) (k := 2) (ci := 3) rfl rfl (zrcv rfl h0 rfl)) (Nat.le_of_ble_eq_true rfl) (Nat.le_of_ble_eq_true rfl) rfl rfl (fun _ _ hF => zf33_ok hK h0 hF) hF (fun v7 s8 hF => ?_)
    refine Ev_p 0 (c' := (23, [some (.ref a0), some (.ref a1), some (.ref a2)], [.int v7])) rfl ?_
    refine Ez_if (M := zM34) (b := v7 = 0) rfl rfl hF (fun _ hF => ?_) (fun _ hF => ?_)
    · refine Ev_p 1 (c' := (31, [some (.ref a0), some (.ref a1), some (.ref a2)], [.int 0])) rfl ?_
      exact Ez_ri (M := zM34) rfl rfl hF
    · refine Ev_p 2 (c' := (31, [some (.ref a0), some (.ref a1), some (.ref a2)], [.int 3])) rfl ?_
      exact Ez_ri (M := zM34) rfl rfl hF
  · refine Ev_p 1 (c' := (13, [some (.ref a0), some (.ref a1), some (.ref a2)], [.int 2])) rfl ?_
    exact Ez_ri (M := zM34) rfl rfl hF
-- java/util/Arrays.fill([II)V
abbrev zM41 : ev_M := (am_in nd_i41, am_fl [], am_ct [], am_sl nd_ml nd_s41, fun _ => none, none)
noncomputable def zf41_5 (a0 : Nat)  : Nat → Int32 → Int32 → Int32 → zS → Option (zS)
  | 0, _, _, _, _ => none
  | n + 1, x1, x2, x3, s =>
    if x3 ≤ x2 then
      some s
    else
      zas s a0 x2 x1 fun s1 =>
      zf41_5 a0 n x1 (x2 + 1) x3 s1
theorem zf41_5_ok {K : cx_K} (hK : Kok K) {lg : Nat → Int64} {s' : zS} {a0 : Nat} (h0 : zsh a0 = 100)   {n : Nat} : ∀ {x1 : Int32} {x2 : Int32} {x3 : Int32} {s : zS}, zf41_5 a0 n x1 x2 x3 s = some s' → Ev K zM41 (5, [some (.ref a0), some (.int x1), some (.int x2), some (.int x3)], [], zmk lg s) 0 (.inl none) (zmk lg s') 0 := by
  induction n with
  | zero => intro x1 x2 x3 s hF; rw [zf41_5] at hF; cases hF
  | succ n ih =>
    intro x1 x2 x3 s hF
    rw [zf41_5] at hF
    refine Ev_p 2 (c' := (7, [some (.ref a0), some (.int x1), some (.int x2), some (.int x3)], [.int x3, .int x2])) rfl ?_
    refine Ez_if (M := zM41) (b := x3 ≤ x2) rfl rfl hF (fun _ hF => ?_) (fun _ hF => ?_)
    · refine Ev_p 0 (c' := (20, [some (.ref a0), some (.int x1), some (.int x2), some (.int x3)], [])) rfl ?_
      exact Ez_rv (M := zM41) rfl rfl hF
    · refine Ev_p 3 (c' := (13, [some (.ref a0), some (.int x1), some (.int x2), some (.int x3)], [.int x1, .int x2, .ref a0])) rfl ?_
      refine Ez_as (M := zM41) rfl h0 hF (fun s1 hF => ?_)
      refine Ev_p 2 (c' := (5, [some (.ref a0), some (.int x1), some (.int (x2 + 1)), some (.int x3)], [])) rfl ?_
      exact ih hF
noncomputable def zf41 (a0 : Nat) (x1 : Int32) (s : zS) : Option (zS) :=
  zf41_5 a0 zfz x1 0 (nI (zca a0)) s
theorem zf41_ok {K : cx_K} (hK : Kok K) {lg : Nat → Int64} {s' : zS} {a0 : Nat} (h0 : zsh a0 = 100) {x1 : Int32} {s : zS} (hF : zf41 a0 x1 s = some s') : Ct K 41 [.ref a0, .int x1] (zmk lg s) (.inl none) (zmk lg s') 0 := by
  unfold zf41 at hF
  refine Ct_of hK nd_ok41 (mL := 4) (rt := none) rfl rfl (Nat.le_of_ble_eq_true rfl) zlen_le ?_
  refine Ev_p 3 (c' := (3, [some (.ref a0), some (.int x1), some (.int 0), none], [.ref a0])) rfl ?_
  refine Ez_len (M := zM41) rfl h0 ?_
  refine Ev_p 1 (c' := (5, [some (.ref a0), some (.int x1), some (.int 0), some (.int (nI (zca a0)))], [])) rfl ?_
  exact zf41_5_ok hK h0 hF
-- PaperParcels.isSmall(I)Z
abbrev zM43 : ev_M := (am_in nd_i43, am_fl nd_f0, am_ct nd_k0, am_sl nd_ml nd_s43, fun _ => none, some .boolean)
noncomputable def zf43 (x0 : Int32) (s : zS) : Option (Int32 × zS) :=
  if x0 < 97 then
    zrb 0 s
  else
    if 122 < x0 then
      zrb 0 s
    else
      zrb 1 s
theorem zf43_ok {K : cx_K} (hK : Kok K) {lg : Nat → Int64} {v : Int32} {s' : zS}   {x0 : Int32} {s : zS} (hF : zf43 x0 s = some (v, s')) : Ct K 43 [.int x0] (zmk lg s) (.inl (some (.int v))) (zmk lg s') 0 := by
  unfold zf43 at hF
  refine Ct_of hK nd_ok43 (mL := 1) (rt := some .boolean) rfl rfl (Nat.le_of_ble_eq_true rfl) zlen_le ?_
  refine Ev_p 2 (c' := (3, [some (.int x0)], [.int 97, .int x0])) rfl ?_
  refine Ez_if (M := zM43) (b := x0 < 97) rfl rfl hF (fun _ hF => ?_) (fun _ hF => ?_)
  · refine Ev_p 1 (c' := (17, [some (.int x0)], [.int 0])) rfl ?_
    exact Ez_rb (M := zM43) rfl rfl hF
  · refine Ev_p 2 (c' := (9, [some (.int x0)], [.int 122, .int x0])) rfl ?_
    refine Ez_if (M := zM43) (b := 122 < x0) rfl rfl hF (fun _ hF => ?_) (fun _ hF => ?_)
    · refine Ev_p 1 (c' := (17, [some (.int x0)], [.int 0])) rfl ?_
      exact Ez_rb (M := zM43) rfl rfl hF
    · refine Ev_p 2 (c' := (17, [some (.int x0)], [.int 1])) rfl ?_
      exact Ez_rb (M := zM43) rfl rfl hF
-- PaperParcels$Elements.addElement(I)I
abbrev zM44 : ev_M := (am_in nd_i44, am_fl nd_f5, am_ct nd_k5, am_sl nd_ml nd_s44, fun _ => none, some .int)
noncomputable def zf44 (a0 : Nat) (x1 : Int32) (s : zS) : Option (Int32 × zS) :=
  zgf s a0 6 fun v1 =>
  zbi (zf18 (zrf a0 0) (x1 + 1) s) fun v2 s3 =>
  zas s3 (zrf a0 1) v1 v2 fun s4 =>
  zgf s4 a0 6 fun v5 =>
  zas s4 (zrf a0 2) v5 x1 fun s6 =>
  zgf s6 a0 6 fun v7 =>
  zgf s6 a0 12 fun v8 =>
  zas s6 (zrf a0 3) v7 v8 fun s9 =>
  zgf s9 a0 6 fun v10 =>
  zgf s9 a0 9 fun v11 =>
  zas s9 (zrf a0 4) v10 v11 fun s12 =>
  zgf s12 a0 6 fun v13 =>
  zgf s12 a0 9 fun v14 =>
  zas s12 (zrf a0 5) v13 v14 fun s15 =>
  zgf s15 a0 6 fun v16 =>
  zpf s15 a0 6 (v16 + 1) fun s17 =>
  zgf s17 a0 6 fun v18 =>
  some ((v18 - 1), s17)
theorem zf44_ok {K : cx_K} (hK : Kok K) {lg : Nat → Int64} {v : Int32} {s' : zS} {a0 : Nat} (h0 : zsh a0 = 5) {x1 : Int32} {s : zS} (hF : zf44 a0 x1 s = some (v, s')) : Ct K 44 [.ref a0, .int x1] (zmk lg s) (.inl (some (.int v))) (zmk lg s') 0 := by
  unfold zf44 at hF
  refine Ct_of hK nd_ok44 (mL := 2) (rt := some .int) rfl rfl (Nat.le_of_ble_eq_true rfl) zlen_le ?_
  refine Ev_p 1 (c' := (1, [some (.ref a0), some (.int x1)], [.ref a0])) rfl ?_
  refine Ez_gr (M := zM44) (ci := 5) (f := 1) (t := 100) rfl rfl h0 rfl ?_
  refine Ev_p 1 (c' := (5, [some (.ref a0), some (.int x1)], [.ref a0, .ref (zrf a0 1)])) rfl ?_
  refine Ez_gf (M := zM44) (ci := 5) (f := 6) rfl rfl h0 rfl hF (fun v1 hF => ?_)
  refine Ev_p 1 (c' := (9, [some (.ref a0), some (.int x1)], [.ref a0, .int v1, .ref (zrf a0 1)])) rfl ?_
  refine Ez_gr (M := zM44) (ci := 5) (f := 0) (t := 1) rfl rfl h0 rfl ?_
  refine Ev_p 3 (c' := (15, [some (.ref a0), some (.int x1)], [.int (x1 + 1), .ref (zrf a0 0), .int v1, .ref (zrf a0 1)])) rfl ?_
  refine Ez_ci (M := zM44) (As := [.ref (zrf a0 0), .int (x1 + 1)]) (st' := [.int v1, .ref (zrf a0 1)]) (am_site_v (y := 18) (k := 2) (ci := 1) rfl rfl (zrcv rfl (zty (ci := 5) (f := 0) (t := 1) h0 rfl) rfl)) (Nat.le_of_ble_eq_true rfl) (Nat.le_of_ble_eq_true rfl) rfl rfl (fun _ _ hF => zf18_ok hK (zty (ci := 5) (f := 0) (t := 1) h0 rfl) hF) hF (fun v2 s3 hF => ?_)
  refine Ev_p 0 (c' := (18, [some (.ref a0), some (.int x1)], [.int v2, .int v1, .ref (zrf a0 1)])) rfl ?_
  refine Ez_as (M := zM44) rfl (zty (ci := 5) (f := 1) (t := 100) h0 rfl) hF (fun s4 hF => ?_)
  refine Ev_p 1 (c' := (20, [some (.ref a0), some (.int x1)], [.ref a0])) rfl ?_
  refine Ez_gr (M := zM44) (ci := 5) (f := 2) (t := 100) rfl rfl h0 rfl ?_
  refine Ev_p 1 (c' := (24, [some (.ref a0), some (.int x1)], [.ref a0, .ref (zrf a0 2)])) rfl ?_
  refine Ez_gf (M := zM44) (ci := 5) (f := 6) rfl rfl h0 rfl hF (fun v5 hF => ?_)
  refine Ev_p 1 (c' := (28, [some (.ref a0), some (.int x1)], [.int x1, .int v5, .ref (zrf a0 2)])) rfl ?_
  refine Ez_as (M := zM44) rfl (zty (ci := 5) (f := 2) (t := 100) h0 rfl) hF (fun s6 hF => ?_)
  refine Ev_p 1 (c' := (30, [some (.ref a0), some (.int x1)], [.ref a0])) rfl ?_
  refine Ez_gr (M := zM44) (ci := 5) (f := 3) (t := 100) rfl rfl h0 rfl ?_
  refine Ev_p 1 (c' := (34, [some (.ref a0), some (.int x1)], [.ref a0, .ref (zrf a0 3)])) rfl ?_
  refine Ez_gf (M := zM44) (ci := 5) (f := 6) rfl rfl h0 rfl hF (fun v7 hF => ?_)
  refine Ev_p 1 (c' := (38, [some (.ref a0), some (.int x1)], [.ref a0, .int v7, .ref (zrf a0 3)])) rfl ?_
  refine Ez_gf (M := zM44) (ci := 5) (f := 12) rfl rfl h0 rfl hF (fun v8 hF => ?_)
  refine Ev_p 0 (c' := (41, [some (.ref a0), some (.int x1)], [.int v8, .int v7, .ref (zrf a0 3)])) rfl ?_
  refine Ez_as (M := zM44) rfl (zty (ci := 5) (f := 3) (t := 100) h0 rfl) hF (fun s9 hF => ?_)
  refine Ev_p 1 (c' := (43, [some (.ref a0), some (.int x1)], [.ref a0])) rfl ?_
  refine Ez_gr (M := zM44) (ci := 5) (f := 4) (t := 100) rfl rfl h0 rfl ?_
  refine Ev_p 1 (c' := (47, [some (.ref a0), some (.int x1)], [.ref a0, .ref (zrf a0 4)])) rfl ?_
  refine Ez_gf (M := zM44) (ci := 5) (f := 6) rfl rfl h0 rfl hF (fun v10 hF => ?_)
  refine Ev_p 1 (c' := (51, [some (.ref a0), some (.int x1)], [.ref a0, .int v10, .ref (zrf a0 4)])) rfl ?_
  refine Ez_gf (M := zM44) (ci := 5) (f := 9) rfl rfl h0 rfl hF (fun v11 hF => ?_)
  refine Ev_p 0 (c' := (54, [some (.ref a0), some (.int x1)], [.int v11, .int v10, .ref (zrf a0 4)])) rfl ?_
  refine Ez_as (M := zM44) rfl (zty (ci := 5) (f := 4) (t := 100) h0 rfl) hF (fun s12 hF => ?_)
  refine Ev_p 1 (c' := (56, [some (.ref a0), some (.int x1)], [.ref a0])) rfl ?_
  refine Ez_gr (M := zM44) (ci := 5) (f := 5) (t := 100) rfl rfl h0 rfl ?_
  refine Ev_p 1 (c' := (60, [some (.ref a0), some (.int x1)], [.ref a0, .ref (zrf a0 5)])) rfl ?_
  refine Ez_gf (M := zM44) (ci := 5) (f := 6) rfl rfl h0 rfl hF (fun v13 hF => ?_)
  refine Ev_p 1 (c' := (64, [some (.ref a0), some (.int x1)], [.ref a0, .int v13, .ref (zrf a0 5)])) rfl ?_
  refine Ez_gf (M := zM44) (ci := 5) (f := 9) rfl rfl h0 rfl hF (fun v14 hF => ?_)
  refine Ev_p 0 (c' := (67, [some (.ref a0), some (.int x1)], [.int v14, .int v13, .ref (zrf a0 5)])) rfl ?_
  refine Ez_as (M := zM44) rfl (zty (ci := 5) (f := 5) (t := 100) h0 rfl) hF (fun s15 hF => ?_)
  refine Ev_p 2 (c' := (70, [some (.ref a0), some (.int x1)], [.ref a0, .ref a0])) rfl ?_
  refine Ez_gf (M := zM44) (ci := 5) (f := 6) rfl rfl h0 rfl hF (fun v16 hF => ?_)
  refine Ev_p 2 (c' := (75, [some (.ref a0), some (.int x1)], [.int (v16 + 1), .ref a0])) rfl ?_
  refine Ez_pf (M := zM44) (ci := 5) (f := 6) rfl rfl h0 rfl hF (fun s17 hF => ?_)
  refine Ev_p 1 (c' := (79, [some (.ref a0), some (.int x1)], [.ref a0])) rfl ?_
  refine Ez_gf (M := zM44) (ci := 5) (f := 6) rfl rfl h0 rfl hF (fun v18 hF => ?_)
  refine Ev_p 2 (c' := (84, [some (.ref a0), some (.int x1)], [.int (v18 - 1)])) rfl ?_
  exact Ez_ri (M := zM44) rfl rfl hF

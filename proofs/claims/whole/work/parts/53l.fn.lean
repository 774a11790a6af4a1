/-! The methods as functions, and that the machine goes so (printed by wip/gen/fgen.py). -/
set_option maxRecDepth 100000
set_option linter.unusedVariables false
-- PaperParcels$Emitter.gatherLooks(LPaperParcels$Paper;)Z
abbrev zM117 : ev_M := (am_in nd_i117, am_fl nd_f10, am_ct nd_k10, am_sl nd_ml nd_s117, fun _ => none, some .boolean)
noncomputable def zf117_7 (a0 : Nat) (a1 : Nat)  : Nat → Int32 → zS → Option (Int32 × zS)
  | 0, _, _ => none
  | n + 1, x2, s =>
    zgf s a1 6 fun v1 =>
    if v1 ≤ x2 then
      zrb 1 s
    else
      zbi (zf118 a1 x2 s) fun v2 s3 =>
      if v2 = 0 then
        zf117_7 a0 a1 n (x2 + 1) s3
      else
        zal s3 (zrf a1 2) x2 fun v4 =>
        zbi (zf119 a0 v4 s3) fun v5 s6 =>
        if ¬ v5 = (-1) then
          zf117_7 a0 a1 n (x2 + 1) s6
        else
          zgf s6 a0 5 fun v7 =>
          if ¬ v7 = 26 then
            zgf s6 a0 5 fun v8 =>
            zal s6 (zrf a1 2) x2 fun v9 =>
            zas s6 (zrf a0 4) v8 v9 fun s10 =>
            zgf s10 a0 5 fun v11 =>
            zpf s10 a0 5 (v11 + 1) fun s12 =>
            zf117_7 a0 a1 n (x2 + 1) s12
          else
            zrb 0 s6
theorem zf117_7_ok {K : cx_K} (hK : Kok K) {lg : Nat → Int64} {v : Int32} {s' : zS} {a0 : Nat} {a1 : Nat} (h0 : zsh a0 = 10) (h1 : zsh a1 = 2)   {n : Nat} : ∀ {x2 : Int32} {s : zS}, zf117_7 a0 a1 n x2 s = some (v, s') → Ev K zM117 (7, [some (.ref a0), some (.ref a1), some (.int x2)], [], zmk lg s) 0 (.inl (some (.int v))) (zmk lg s') 0 := by
  induction n with
  | zero => intro x2 s hF; rw [zf117_7] at hF; cases hF
  | succ n ih =>
    intro x2 s hF
    rw [zf117_7] at hF
    refine Ev_p 2 (c' := (9, [some (.ref a0), some (.ref a1), some (.int x2)], [.ref a1, .int x2])) rfl ?_
    refine Ez_gf (M := zM117) (ci := 2) (f := 6) rfl rfl h1 rfl hF (fun v1 hF => ?_)
    refine Ev_p 0 (c' := (12, [some (.ref a0), some (.ref a1), some (.int x2)], [.int v1, .int x2])) rfl ?_
    refine Ez_if (M := zM117) (b := v1 ≤ x2) rfl rfl hF (fun _ hF => ?_) (fun _ hF => ?_)
    · refine Ev_p 1 (c' := (80, [some (.ref a0), some (.ref a1), some (.int x2)], [.int 1])) rfl ?_
      exact Ez_rb (M := zM117) rfl rfl hF
    · refine Ev_p 2 (c' := (17, [some (.ref a0), some (.ref a1), some (.int x2)], [.int x2, .ref a1])) rfl ?_
      refine Ez_ci (M := zM117) (As := [.ref a1, .int x2]) (st' := []) (zsite_0 (y := 118) (k := 2) (ci := 10) rfl rfl) (Nat.le_of_ble_eq_true rfl) (Nat.le_of_ble_eq_true rfl) rfl rfl (fun _ _ hF => zf118_ok hK h1 hF) hF (fun v2 s3 hF => ?_)
      refine Ev_p 0 (c' := (20, [some (.ref a0), some (.ref a1), some (.int x2)], [.int v2])) rfl ?_
      refine Ez_if (M := zM117) (b := v2 = 0) rfl rfl hF (fun _ hF => ?_) (fun _ hF => ?_)
      · refine Ev_p 2 (c' := (7, [some (.ref a0), some (.ref a1), some (.int (x2 + 1))], [])) rfl ?_
        exact ih hF
      · refine Ev_p 2 (c' := (25, [some (.ref a0), some (.ref a1), some (.int x2)], [.ref a1, .ref a0])) rfl ?_
        refine Ez_gr (M := zM117) (ci := 2) (f := 2) (t := 100) rfl rfl h1 rfl ?_
        refine Ev_p 1 (c' := (29, [some (.ref a0), some (.ref a1), some (.int x2)], [.int x2, .ref (zrf a1 2), .ref a0])) rfl ?_
        refine Ez_al (M := zM117) rfl (zty (ci := 2) (f := 2) (t := 100) h1 rfl) hF (fun v4 hF => ?_)
        refine Ev_p 0 (c' := (30, [some (.ref a0), some (.ref a1), some (.int x2)], [.int v4, .ref a0])) rfl ?_
        refine Ez_ci (M := zM117) (As := [.ref a0, .int v4]) (st' := []) (am_site_v (y := 119) (k := 2) (ci := 10) rfl rfl (zrcv rfl h0 rfl)) (Nat.le_of_ble_eq_true rfl) (Nat.le_of_ble_eq_true rfl) rfl rfl (fun _ _ hF => zf119_ok hK h0 hF) hF (fun v5 s6 hF => ?_)
        refine Ev_p 1 (c' := (34, [some (.ref a0), some (.ref a1), some (.int x2)], [.int (-1), .int v5])) rfl ?_
        refine Ez_if (M := zM117) (b := ¬ v5 = (-1)) rfl rfl hF (fun _ hF => ?_) (fun _ hF => ?_)
        · refine Ev_p 2 (c' := (7, [some (.ref a0), some (.ref a1), some (.int (x2 + 1))], [])) rfl ?_
          exact ih hF
        · refine Ev_p 1 (c' := (38, [some (.ref a0), some (.ref a1), some (.int x2)], [.ref a0])) rfl ?_
          refine Ez_gf (M := zM117) (ci := 10) (f := 5) rfl rfl h0 rfl hF (fun v7 hF => ?_)
          refine Ev_p 1 (c' := (43, [some (.ref a0), some (.ref a1), some (.int x2)], [.int 26, .int v7])) rfl ?_
          refine Ez_if (M := zM117) (b := ¬ v7 = 26) rfl rfl hF (fun _ hF => ?_) (fun _ hF => ?_)
          · refine Ev_p 1 (c' := (49, [some (.ref a0), some (.ref a1), some (.int x2)], [.ref a0])) rfl ?_
            refine Ez_gr (M := zM117) (ci := 10) (f := 4) (t := 100) rfl rfl h0 rfl ?_
            refine Ev_p 1 (c' := (53, [some (.ref a0), some (.ref a1), some (.int x2)], [.ref a0, .ref (zrf a0 4)])) rfl ?_
            refine Ez_gf (M := zM117) (ci := 10) (f := 5) rfl rfl h0 rfl hF (fun v8 hF => ?_)
            refine Ev_p 1 (c' := (57, [some (.ref a0), some (.ref a1), some (.int x2)], [.ref a1, .int v8, .ref (zrf a0 4)])) rfl ?_
            refine Ez_gr (M := zM117) (ci := 2) (f := 2) (t := 100) rfl rfl h1 rfl ?_
            refine Ev_p 1 (c' := (61, [some (.ref a0), some (.ref a1), some (.int x2)], [.int x2, .ref (zrf a1 2), .int v8, .ref (zrf a0 4)])) rfl ?_
            refine Ez_al (M := zM117) rfl (zty (ci := 2) (f := 2) (t := 100) h1 rfl) hF (fun v9 hF => ?_)
            refine Ev_p 0 (c' := (62, [some (.ref a0), some (.ref a1), some (.int x2)], [.int v9, .int v8, .ref (zrf a0 4)])) rfl ?_
            refine Ez_as (M := zM117) rfl (zty (ci := 10) (f := 4) (t := 100) h0 rfl) hF (fun s10 hF => ?_)
            refine Ev_p 2 (c' := (65, [some (.ref a0), some (.ref a1), some (.int x2)], [.ref a0, .ref a0])) rfl ?_
            refine Ez_gf (M := zM117) (ci := 10) (f := 5) rfl rfl h0 rfl hF (fun v11 hF => ?_)
            refine Ev_p 2 (c' := (70, [some (.ref a0), some (.ref a1), some (.int x2)], [.int (v11 + 1), .ref a0])) rfl ?_
            refine Ez_pf (M := zM117) (ci := 10) (f := 5) rfl rfl h0 rfl hF (fun s12 hF => ?_)
            refine Ev_p 2 (c' := (7, [some (.ref a0), some (.ref a1), some (.int (x2 + 1))], [])) rfl ?_
            exact ih hF
          · refine Ev_p 1 (c' := (47, [some (.ref a0), some (.ref a1), some (.int x2)], [.int 0])) rfl ?_
            exact Ez_rb (M := zM117) rfl rfl hF
noncomputable def zf117 (a0 : Nat) (a1 : Nat) (s : zS) : Option (Int32 × zS) :=
  zpf s a0 5 0 fun s1 =>
  zf117_7 a0 a1 zfz 0 s1
theorem zf117_ok {K : cx_K} (hK : Kok K) {lg : Nat → Int64} {v : Int32} {s' : zS} {a0 : Nat} {a1 : Nat} (h0 : zsh a0 = 10) (h1 : zsh a1 = 2)  {s : zS} (hF : zf117 a0 a1 s = some (v, s')) : Ct K 117 [.ref a0, .ref a1] (zmk lg s) (.inl (some (.int v))) (zmk lg s') 0 := by
  unfold zf117 at hF
  refine Ct_of hK nd_ok117 (mL := 3) (rt := some .boolean) rfl rfl (Nat.le_of_ble_eq_true rfl) zlen_le ?_
  refine Ev_p 2 (c' := (2, [some (.ref a0), some (.ref a1), none], [.int 0, .ref a0])) rfl ?_
  refine Ez_pf (M := zM117) (ci := 10) (f := 5) rfl rfl h0 rfl hF (fun s1 hF => ?_)
  refine Ev_p 2 (c' := (7, [some (.ref a0), some (.ref a1), some (.int 0)], [])) rfl ?_
  exact zf117_7_ok hK h0 h1 hF
-- PaperParcels$Paper.isEmptyNode(I)Z
abbrev zM139 : ev_M := (am_in nd_i139, am_fl nd_f2, am_ct nd_k2, am_sl nd_ml nd_s139, fun _ => none, some .boolean)
noncomputable def zf139 (a0 : Nat) (x1 : Int32) (s : zS) : Option (Int32 × zS) :=
  zgf s a0 6 fun v1 =>
  if v1 ≤ (x1 + 1) then
    zrb 1 s
  else
    zal s (zrf a0 1) (x1 + 1) fun v2 =>
    if v2 = x1 then
      zrb 0 s
    else
      zrb 1 s
theorem zf139_ok {K : cx_K} (hK : Kok K) {lg : Nat → Int64} {v : Int32} {s' : zS} {a0 : Nat} (h0 : zsh a0 = 2) {x1 : Int32} {s : zS} (hF : zf139 a0 x1 s = some (v, s')) : Ct K 139 [.ref a0, .int x1] (zmk lg s) (.inl (some (.int v))) (zmk lg s') 0 := by
  unfold zf139 at hF
  refine Ct_of hK nd_ok139 (mL := 2) (rt := some .boolean) rfl rfl (Nat.le_of_ble_eq_true rfl) zlen_le ?_
  refine Ev_p 4 (c' := (4, [some (.ref a0), some (.int x1)], [.ref a0, .int (x1 + 1)])) rfl ?_
  refine Ez_gf (M := zM139) (ci := 2) (f := 6) rfl rfl h0 rfl hF (fun v1 hF => ?_)
  refine Ev_p 0 (c' := (7, [some (.ref a0), some (.int x1)], [.int v1, .int (x1 + 1)])) rfl ?_
  refine Ez_if (M := zM139) (b := v1 ≤ (x1 + 1)) rfl rfl hF (fun _ hF => ?_) (fun _ hF => ?_)
  · refine Ev_p 2 (c' := (27, [some (.ref a0), some (.int x1)], [.int 1])) rfl ?_
    exact Ez_rb (M := zM139) rfl rfl hF
  · refine Ev_p 1 (c' := (11, [some (.ref a0), some (.int x1)], [.ref a0])) rfl ?_
    refine Ez_gr (M := zM139) (ci := 2) (f := 1) (t := 100) rfl rfl h0 rfl ?_
    refine Ev_p 3 (c' := (17, [some (.ref a0), some (.int x1)], [.int (x1 + 1), .ref (zrf a0 1)])) rfl ?_
    refine Ez_al (M := zM139) rfl (zty (ci := 2) (f := 1) (t := 100) h0 rfl) hF (fun v2 hF => ?_)
    refine Ev_p 1 (c' := (19, [some (.ref a0), some (.int x1)], [.int x1, .int v2])) rfl ?_
    refine Ez_if (M := zM139) (b := v2 = x1) rfl rfl hF (fun _ hF => ?_) (fun _ hF => ?_)
    · refine Ev_p 1 (c' := (27, [some (.ref a0), some (.int x1)], [.int 0])) rfl ?_
      exact Ez_rb (M := zM139) rfl rfl hF
    · refine Ev_p 2 (c' := (27, [some (.ref a0), some (.int x1)], [.int 1])) rfl ?_
      exact Ez_rb (M := zM139) rfl rfl hF
-- PaperParcels$Emitter.sameFrom(LPaperParcels$Row;II)I
abbrev zM143 : ev_M := (am_in nd_i143, am_fl nd_f10, am_ct nd_k10, am_sl nd_ml nd_s143, fun _ => none, some .int)
noncomputable def zf143_2 (a0 : Nat)  : Nat → Int32 → Int32 → Int32 → zS → Option (Int32 × zS)
  | 0, _, _, _, _ => none
  | n + 1, x1, x2, x3, s =>
    if 14 ≤ x3 then
      some (x3, s)
    else
      zgf s a0 1 fun v1 =>
      if v1 ≤ (x1 + x3) then
        some (x3, s)
      else
        zbi (zf18 a0 (x1 + x3) s) fun v2 s3 =>
        zbi (zf18 a0 ((x1 + x3) - x2) s3) fun v4 s5 =>
        if ¬ v2 = v4 then
          some (x3, s5)
        else
          zf143_2 a0 n x1 x2 (x3 + 1) s5
theorem zf143_2_ok {K : cx_K} (hK : Kok K) {lg : Nat → Int64} {v : Int32} {s' : zS} {a0 : Nat} (h0 : zsh a0 = 1)   {n : Nat} : ∀ {x1 : Int32} {x2 : Int32} {x3 : Int32} {s : zS}, zf143_2 a0 n x1 x2 x3 s = some (v, s') → Ev K zM143 (2, [some (.ref a0), some (.int x1), some (.int x2), some (.int x3)], [], zmk lg s) 0 (.inl (some (.int v))) (zmk lg s') 0 := by
  induction n with
  | zero => intro x1 x2 x3 s hF; rw [zf143_2] at hF; cases hF
  | succ n ih =>
    intro x1 x2 x3 s hF
    rw [zf143_2] at hF
    refine Ev_p 2 (c' := (5, [some (.ref a0), some (.int x1), some (.int x2), some (.int x3)], [.int 14, .int x3])) rfl ?_
    refine Ez_if (M := zM143) (b := 14 ≤ x3) rfl rfl hF (fun _ hF => ?_) (fun _ hF => ?_)
    · refine Ev_p 1 (c' := (44, [some (.ref a0), some (.int x1), some (.int x2), some (.int x3)], [.int x3])) rfl ?_
      exact Ez_ri (M := zM143) rfl rfl hF
    · refine Ev_p 4 (c' := (12, [some (.ref a0), some (.int x1), some (.int x2), some (.int x3)], [.ref a0, .int (x1 + x3)])) rfl ?_
      refine Ez_gf (M := zM143) (ci := 1) (f := 1) rfl rfl h0 rfl hF (fun v1 hF => ?_)
      refine Ev_p 0 (c' := (15, [some (.ref a0), some (.int x1), some (.int x2), some (.int x3)], [.int v1, .int (x1 + x3)])) rfl ?_
      refine Ez_if (M := zM143) (b := v1 ≤ (x1 + x3)) rfl rfl hF (fun _ hF => ?_) (fun _ hF => ?_)
      · refine Ev_p 1 (c' := (44, [some (.ref a0), some (.int x1), some (.int x2), some (.int x3)], [.int x3])) rfl ?_
        exact Ez_ri (M := zM143) rfl rfl hF
      · refine Ev_p 4 (c' := (22, [some (.ref a0), some (.int x1), some (.int x2), some (.int x3)], [.int (x1 + x3), .ref a0])) rfl ?_
        refine Ez_ci (M := zM143) (As := [.ref a0, .int (x1 + x3)]) (st' := []) (am_site_v (y := 18) (k := 2) (ci := 1) rfl rfl (zrcv rfl h0 rfl)) (Nat.le_of_ble_eq_true rfl) (Nat.le_of_ble_eq_true rfl) rfl rfl (fun _ _ hF => zf18_ok hK h0 hF) hF (fun v2 s3 hF => ?_)
        refine Ev_p 6 (c' := (31, [some (.ref a0), some (.int x1), some (.int x2), some (.int x3)], [.int ((x1 + x3) - x2), .ref a0, .int v2])) rfl ?_
        refine Ez_ci (M := zM143) (As := [.ref a0, .int ((x1 + x3) - x2)]) (st' := [.int v2]) (am_site_v (y := 18) (k := 2) (ci := 1) rfl rfl (zrcv rfl h0 rfl)) (Nat.le_of_ble_eq_true rfl) (Nat.le_of_ble_eq_true rfl) rfl rfl (fun _ _ hF => zf18_ok hK h0 hF) hF (fun v4 s5 hF => ?_)
        refine Ev_p 0 (c' := (34, [some (.ref a0), some (.int x1), some (.int x2), some (.int x3)], [.int v4, .int v2])) rfl ?_
        refine Ez_if (M := zM143) (b := ¬ v2 = v4) rfl rfl hF (fun _ hF => ?_) (fun _ hF => ?_)
        · refine Ev_p 1 (c' := (44, [some (.ref a0), some (.int x1), some (.int x2), some (.int x3)], [.int x3])) rfl ?_
          exact Ez_ri (M := zM143) rfl rfl hF
        · refine Ev_p 2 (c' := (2, [some (.ref a0), some (.int x1), some (.int x2), some (.int (x3 + 1))], [])) rfl ?_
          exact ih hF
noncomputable def zf143 (a0 : Nat) (x1 : Int32) (x2 : Int32) (s : zS) : Option (Int32 × zS) :=
  zf143_2 a0 zfz x1 x2 0 s
theorem zf143_ok {K : cx_K} (hK : Kok K) {lg : Nat → Int64} {v : Int32} {s' : zS} {a0 : Nat} (h0 : zsh a0 = 1) {x1 : Int32} {x2 : Int32} {s : zS} (hF : zf143 a0 x1 x2 s = some (v, s')) : Ct K 143 [.ref a0, .int x1, .int x2] (zmk lg s) (.inl (some (.int v))) (zmk lg s') 0 := by
  unfold zf143 at hF
  refine Ct_of hK nd_ok143 (mL := 4) (rt := some .int) rfl rfl (Nat.le_of_ble_eq_true rfl) zlen_le ?_
  refine Ev_p 2 (c' := (2, [some (.ref a0), some (.int x1), some (.int x2), some (.int 0)], [])) rfl ?_
  exact zf143_2_ok hK h0 hF
-- PaperParcels$Emitter.bestBack(LPaperParcels$Row;I)I
abbrev zM142 : ev_M := (am_in nd_i142, am_fl nd_f10, am_ct nd_k10, am_sl nd_ml nd_s142, fun _ => none, some .int)
noncomputable def zf142_7 (a0 : Nat)  : Nat → Int32 → Int32 → Int32 → Int32 → zS → Option (Int32 × zS)
  | 0, _, _, _, _, _ => none
  | n + 1, x1, x2, x3, x4, s =>
    if 99 < x4 then
      some (x2, s)
    else
      if x1 < x4 then
        some (x2, s)
      else
        zbi (zf143 a0 x1 x4 s) fun v1 s2 =>
        if v1 ≤ x3 then
          zf142_7 a0 n x1 x2 x3 (x4 + 1) s2
        else
          zf142_7 a0 n x1 x4 v1 (x4 + 1) s2
theorem zf142_7_ok {K : cx_K} (hK : Kok K) {lg : Nat → Int64} {v : Int32} {s' : zS} {a0 : Nat} (h0 : zsh a0 = 1)   {n : Nat} : ∀ {x1 : Int32} {x2 : Int32} {x3 : Int32} {x4 : Int32} {s : zS}, zf142_7 a0 n x1 x2 x3 x4 s = some (v, s') → Ev K zM142 (7, [some (.ref a0), some (.int x1), some (.int x2), some (.int x3), some (.int x4), none], [], zmk lg s) 0 (.inl (some (.int v))) (zmk lg s') 0 := by
  induction n with
  | zero => intro x1 x2 x3 x4 s hF; rw [zf142_7] at hF; cases hF
  | succ n ih =>
    intro x1 x2 x3 x4 s hF
    rw [zf142_7] at hF
    refine Ev_p 2 (c' := (11, [some (.ref a0), some (.int x1), some (.int x2), some (.int x3), some (.int x4), none], [.int 99, .int x4])) rfl ?_
    refine Ez_if (M := zM142) (b := 99 < x4) rfl rfl hF (fun _ hF => ?_) (fun _ hF => ?_)
    · refine Ev_p 1 (c' := (48, [some (.ref a0), some (.int x1), some (.int x2), some (.int x3), some (.int x4), none], [.int x2])) rfl ?_
      exact Ez_ri (M := zM142) rfl rfl hF
    · refine Ev_p 2 (c' := (17, [some (.ref a0), some (.int x1), some (.int x2), some (.int x3), some (.int x4), none], [.int x1, .int x4])) rfl ?_
      refine Ez_if (M := zM142) (b := x1 < x4) rfl rfl hF (fun _ hF => ?_) (fun _ hF => ?_)
      · refine Ev_p 1 (c' := (48, [some (.ref a0), some (.int x1), some (.int x2), some (.int x3), some (.int x4), none], [.int x2])) rfl ?_
        exact Ez_ri (M := zM142) rfl rfl hF
      · refine Ev_p 3 (c' := (24, [some (.ref a0), some (.int x1), some (.int x2), some (.int x3), some (.int x4), none], [.int x4, .int x1, .ref a0])) rfl ?_
        refine Ez_ci (M := zM142) (As := [.ref a0, .int x1, .int x4]) (st' := []) (zsite_0 (y := 143) (k := 3) (ci := 10) rfl rfl) (Nat.le_of_ble_eq_true rfl) (Nat.le_of_ble_eq_true rfl) rfl rfl (fun _ _ hF => zf143_ok hK h0 hF) hF (fun v1 s2 hF => ?_)
        refine Ev_p 3 (c' := (32, [some (.ref a0), some (.int x1), some (.int x2), some (.int x3), some (.int x4), some (.int v1)], [.int x3, .int v1])) rfl ?_
        refine Ez_if (M := zM142) (b := v1 ≤ x3) rfl rfl hF (fun _ hF => ?_) (fun _ hF => ?_)
        · refine Ev_p 2 (c' := (7, [some (.ref a0), some (.int x1), some (.int x2), some (.int x3), some (.int (x4 + 1)), some (.int v1)], [])) rfl ?_
          refine Ev_w (L' := [some (.ref a0), some (.int x1), some (.int x2), some (.int x3), some (.int (x4 + 1)), none]) (zle_c (zle_c (zle_c (zle_c (zle_c (zle_n zle_0)))))) ?_
          exact ih hF
        · refine Ev_p 6 (c' := (7, [some (.ref a0), some (.int x1), some (.int x4), some (.int v1), some (.int (x4 + 1)), some (.int v1)], [])) rfl ?_
          refine Ev_w (L' := [some (.ref a0), some (.int x1), some (.int x4), some (.int v1), some (.int (x4 + 1)), none]) (zle_c (zle_c (zle_c (zle_c (zle_c (zle_n zle_0)))))) ?_
          exact ih hF
noncomputable def zf142 (a0 : Nat) (x1 : Int32) (s : zS) : Option (Int32 × zS) :=
  zf142_7 a0 zfz x1 (-1) 4 1 s
theorem zf142_ok {K : cx_K} (hK : Kok K) {lg : Nat → Int64} {v : Int32} {s' : zS} {a0 : Nat} (h0 : zsh a0 = 1) {x1 : Int32} {s : zS} (hF : zf142 a0 x1 s = some (v, s')) : Ct K 142 [.ref a0, .int x1] (zmk lg s) (.inl (some (.int v))) (zmk lg s') 0 := by
  unfold zf142 at hF
  refine Ct_of hK nd_ok142 (mL := 6) (rt := some .int) rfl rfl (Nat.le_of_ble_eq_true rfl) zlen_le ?_
  refine Ev_p 6 (c' := (7, [some (.ref a0), some (.int x1), some (.int (-1)), some (.int 4), some (.int 1), none], [])) rfl ?_
  exact zf142_7_ok hK h0 hF
-- PaperParcels$Emitter.pack(LPaperParcels$Row;)V
abbrev zM141 : ev_M := (am_in nd_i141, am_fl nd_f10, am_ct nd_k10, am_sl nd_ml nd_s141, fun _ => none, none)
noncomputable def zf141_2 (a0 : Nat) (a1 : Nat)  : Nat → Int32 → zS → Option (zS)
  | 0, _, _ => none
  | n + 1, x2, s =>
    zgf s a1 1 fun v1 =>
    if v1 ≤ x2 then
      some s
    else
      zbi (zf142 a1 x2 s) fun v2 s3 =>
      if ¬ v2 = (-1) then
        zbi (zf143 a1 x2 v2 s3) fun v4 s5 =>
        zbv (zf13 (zrf a0 3) 126 s5) fun s7 =>
        zbv (zf13 (zrf a0 3) (48 + (v2 / 10)) s7) fun s9 =>
        zbv (zf13 (zrf a0 3) (48 + (v2 - v2 / 10 * 10)) s9) fun s11 =>
        zbv (zf13 (zrf a0 3) ((48 + v4) - 5) s11) fun s13 =>
        zf141_2 a0 a1 n ((x2 + (v4 - 1)) + 1) s13
      else
        zbi (zf18 a1 x2 s3) fun v14 s15 =>
        zbv (zf13 (zrf a0 3) v14 s15) fun s17 =>
        zf141_2 a0 a1 n (x2 + 1) s17
theorem zf141_2_ok {K : cx_K} (hK : Kok K) {lg : Nat → Int64} {s' : zS} {a0 : Nat} {a1 : Nat} (h0 : zsh a0 = 10) (h1 : zsh a1 = 1)   {n : Nat} : ∀ {x2 : Int32} {s : zS}, zf141_2 a0 a1 n x2 s = some s' → Ev K zM141 (2, [some (.ref a0), some (.ref a1), some (.int x2), none, none], [], zmk lg s) 0 (.inl none) (zmk lg s') 0 := by
  induction n with
  | zero => intro x2 s hF; rw [zf141_2] at hF; cases hF
  | succ n ih =>
    intro x2 s hF
    rw [zf141_2] at hF
    refine Ev_p 2 (c' := (4, [some (.ref a0), some (.ref a1), some (.int x2), none, none], [.ref a1, .int x2])) rfl ?_
    refine Ez_gf (M := zM141) (ci := 1) (f := 1) rfl rfl h1 rfl hF (fun v1 hF => ?_)
    refine Ev_p 0 (c' := (7, [some (.ref a0), some (.ref a1), some (.int x2), none, none], [.int v1, .int x2])) rfl ?_
    refine Ez_if (M := zM141) (b := v1 ≤ x2) rfl rfl hF (fun _ hF => ?_) (fun _ hF => ?_)
    · refine Ev_p 0 (c' := (108, [some (.ref a0), some (.ref a1), some (.int x2), none, none], [])) rfl ?_
      exact Ez_rv (M := zM141) rfl rfl hF
    · refine Ev_p 2 (c' := (12, [some (.ref a0), some (.ref a1), some (.int x2), none, none], [.int x2, .ref a1])) rfl ?_
      refine Ez_ci (M := zM141) (As := [.ref a1, .int x2]) (st' := []) (zsite_0 (y := 142) (k := 2) (ci := 10) rfl rfl) (Nat.le_of_ble_eq_true rfl) (Nat.le_of_ble_eq_true rfl) rfl rfl (fun _ _ hF => zf142_ok hK h1 hF) hF (fun v2 s3 hF => ?_)
      refine Ev_p 3 (c' := (18, [some (.ref a0), some (.ref a1), some (.int x2), some (.int v2), none], [.int (-1), .int v2])) rfl ?_
      refine Ez_if (M := zM141) (b := ¬ v2 = (-1)) rfl rfl hF (fun _ hF => ?_) (fun _ hF => ?_)
      · refine Ev_p 3 (c' := (39, [some (.ref a0), some (.ref a1), some (.int x2), some (.int v2), none], [.int v2, .int x2, .ref a1])) rfl ?_
        refine Ez_ci (M := zM141) (As := [.ref a1, .int x2, .int v2]) (st' := []) (zsite_0 (y := 143) (k := 3) (ci := 10) rfl rfl) (Nat.le_of_ble_eq_true rfl) (Nat.le_of_ble_eq_true rfl) rfl rfl (fun _ _ hF => zf143_ok hK h1 hF) hF (fun v4 s5 hF => ?_)
        refine Ev_p 2 (c' := (45, [some (.ref a0), some (.ref a1), some (.int x2), some (.int v2), some (.int v4)], [.ref a0])) rfl ?_
        refine Ez_gr (M := zM141) (ci := 10) (f := 3) (t := 1) rfl rfl h0 rfl ?_
        refine Ev_p 1 (c' := (50, [some (.ref a0), some (.ref a1), some (.int x2), some (.int v2), some (.int v4)], [.int 126, .ref (zrf a0 3)])) rfl ?_
        refine Ez_cv (M := zM141) (As := [.ref (zrf a0 3), .int 126]) (st' := []) (am_site_v (y := 13) (k := 2) (ci := 1) rfl rfl (zrcv rfl (zty (ci := 10) (f := 3) (t := 1) h0 rfl) rfl)) (Nat.le_of_ble_eq_true rfl) (Nat.le_of_ble_eq_true rfl) rfl rfl (fun _ hF => zf13_ok hK (zty (ci := 10) (f := 3) (t := 1) h0 rfl) hF) hF (fun s7 hF => ?_)
        refine Ev_p 1 (c' := (54, [some (.ref a0), some (.ref a1), some (.int x2), some (.int v2), some (.int v4)], [.ref a0])) rfl ?_
        refine Ez_gr (M := zM141) (ci := 10) (f := 3) (t := 1) rfl rfl h0 rfl ?_
        refine Ev_p 5 (c' := (64, [some (.ref a0), some (.ref a1), some (.int x2), some (.int v2), some (.int v4)], [.int (48 + (v2 / 10)), .ref (zrf a0 3)])) rfl ?_
        refine Ez_cv (M := zM141) (As := [.ref (zrf a0 3), .int (48 + (v2 / 10))]) (st' := []) (am_site_v (y := 13) (k := 2) (ci := 1) rfl rfl (zrcv rfl (zty (ci := 10) (f := 3) (t := 1) h0 rfl) rfl)) (Nat.le_of_ble_eq_true rfl) (Nat.le_of_ble_eq_true rfl) rfl rfl (fun _ hF => zf13_ok hK (zty (ci := 10) (f := 3) (t := 1) h0 rfl) hF) hF (fun s9 hF => ?_)
        refine Ev_p 1 (c' := (68, [some (.ref a0), some (.ref a1), some (.int x2), some (.int v2), some (.int v4)], [.ref a0])) rfl ?_
        refine Ez_gr (M := zM141) (ci := 10) (f := 3) (t := 1) rfl rfl h0 rfl ?_
        refine Ev_p 5 (c' := (78, [some (.ref a0), some (.ref a1), some (.int x2), some (.int v2), some (.int v4)], [.int (48 + (v2 - v2 / 10 * 10)), .ref (zrf a0 3)])) rfl ?_
        refine Ez_cv (M := zM141) (As := [.ref (zrf a0 3), .int (48 + (v2 - v2 / 10 * 10))]) (st' := []) (am_site_v (y := 13) (k := 2) (ci := 1) rfl rfl (zrcv rfl (zty (ci := 10) (f := 3) (t := 1) h0 rfl) rfl)) (Nat.le_of_ble_eq_true rfl) (Nat.le_of_ble_eq_true rfl) rfl rfl (fun _ hF => zf13_ok hK (zty (ci := 10) (f := 3) (t := 1) h0 rfl) hF) hF (fun s11 hF => ?_)
        refine Ev_p 1 (c' := (82, [some (.ref a0), some (.ref a1), some (.int x2), some (.int v2), some (.int v4)], [.ref a0])) rfl ?_
        refine Ez_gr (M := zM141) (ci := 10) (f := 3) (t := 1) rfl rfl h0 rfl ?_
        refine Ev_p 5 (c' := (92, [some (.ref a0), some (.ref a1), some (.int x2), some (.int v2), some (.int v4)], [.int ((48 + v4) - 5), .ref (zrf a0 3)])) rfl ?_
        refine Ez_cv (M := zM141) (As := [.ref (zrf a0 3), .int ((48 + v4) - 5)]) (st' := []) (am_site_v (y := 13) (k := 2) (ci := 1) rfl rfl (zrcv rfl (zty (ci := 10) (f := 3) (t := 1) h0 rfl) rfl)) (Nat.le_of_ble_eq_true rfl) (Nat.le_of_ble_eq_true rfl) rfl rfl (fun _ hF => zf13_ok hK (zty (ci := 10) (f := 3) (t := 1) h0 rfl) hF) hF (fun s13 hF => ?_)
        refine Ev_p 8 (c' := (2, [some (.ref a0), some (.ref a1), some (.int ((x2 + (v4 - 1)) + 1)), some (.int v2), some (.int v4)], [])) rfl ?_
        refine Ev_w (L' := [some (.ref a0), some (.ref a1), some (.int ((x2 + (v4 - 1)) + 1)), none, none]) (zle_c (zle_c (zle_c (zle_n (zle_n zle_0))))) ?_
        exact ih hF
      · refine Ev_p 1 (c' := (22, [some (.ref a0), some (.ref a1), some (.int x2), some (.int v2), none], [.ref a0])) rfl ?_
        refine Ez_gr (M := zM141) (ci := 10) (f := 3) (t := 1) rfl rfl h0 rfl ?_
        refine Ev_p 2 (c' := (27, [some (.ref a0), some (.ref a1), some (.int x2), some (.int v2), none], [.int x2, .ref a1, .ref (zrf a0 3)])) rfl ?_
        refine Ez_ci (M := zM141) (As := [.ref a1, .int x2]) (st' := [.ref (zrf a0 3)]) (am_site_v (y := 18) (k := 2) (ci := 1) rfl rfl (zrcv rfl h1 rfl)) (Nat.le_of_ble_eq_true rfl) (Nat.le_of_ble_eq_true rfl) rfl rfl (fun _ _ hF => zf18_ok hK h1 hF) hF (fun v14 s15 hF => ?_)
        refine Ev_p 0 (c' := (30, [some (.ref a0), some (.ref a1), some (.int x2), some (.int v2), none], [.int v14, .ref (zrf a0 3)])) rfl ?_
        refine Ez_cv (M := zM141) (As := [.ref (zrf a0 3), .int v14]) (st' := []) (am_site_v (y := 13) (k := 2) (ci := 1) rfl rfl (zrcv rfl (zty (ci := 10) (f := 3) (t := 1) h0 rfl) rfl)) (Nat.le_of_ble_eq_true rfl) (Nat.le_of_ble_eq_true rfl) rfl rfl (fun _ hF => zf13_ok hK (zty (ci := 10) (f := 3) (t := 1) h0 rfl) hF) hF (fun s17 hF => ?_)
        refine Ev_p 3 (c' := (2, [some (.ref a0), some (.ref a1), some (.int (x2 + 1)), some (.int v2), none], [])) rfl ?_
        refine Ev_w (L' := [some (.ref a0), some (.ref a1), some (.int (x2 + 1)), none, none]) (zle_c (zle_c (zle_c (zle_n (zle_c zle_0))))) ?_
        exact ih hF
noncomputable def zf141 (a0 : Nat) (a1 : Nat) (s : zS) : Option (zS) :=
  zf141_2 a0 a1 zfz 0 s
theorem zf141_ok {K : cx_K} (hK : Kok K) {lg : Nat → Int64} {s' : zS} {a0 : Nat} {a1 : Nat} (h0 : zsh a0 = 10) (h1 : zsh a1 = 1)  {s : zS} (hF : zf141 a0 a1 s = some s') : Ct K 141 [.ref a0, .ref a1] (zmk lg s) (.inl none) (zmk lg s') 0 := by
  unfold zf141 at hF
  refine Ct_of hK nd_ok141 (mL := 5) (rt := none) rfl rfl (Nat.le_of_ble_eq_true rfl) zlen_le ?_
  refine Ev_p 2 (c' := (2, [some (.ref a0), some (.ref a1), some (.int 0), none, none], [])) rfl ?_
  exact zf141_2_ok hK h0 h1 hF
-- PaperParcels$Row.putAll(LPaperParcels$Row;)V
abbrev zM144 : ev_M := (am_in nd_i144, am_fl nd_f1, am_ct nd_k1, am_sl nd_ml nd_s144, fun _ => none, none)
noncomputable def zf144_2 (a0 : Nat) (a1 : Nat)  : Nat → Int32 → zS → Option (zS)
  | 0, _, _ => none
  | n + 1, x2, s =>
    zgf s a1 1 fun v1 =>
    if v1 ≤ x2 then
      some s
    else
      zal s (zrf a1 0) x2 fun v2 =>
      zbv (zf13 a0 v2 s) fun s4 =>
      zf144_2 a0 a1 n (x2 + 1) s4
theorem zf144_2_ok {K : cx_K} (hK : Kok K) {lg : Nat → Int64} {s' : zS} {a0 : Nat} {a1 : Nat} (h0 : zsh a0 = 1) (h1 : zsh a1 = 1)   {n : Nat} : ∀ {x2 : Int32} {s : zS}, zf144_2 a0 a1 n x2 s = some s' → Ev K zM144 (2, [some (.ref a0), some (.ref a1), some (.int x2)], [], zmk lg s) 0 (.inl none) (zmk lg s') 0 := by
  induction n with
  | zero => intro x2 s hF; rw [zf144_2] at hF; cases hF
  | succ n ih =>
    intro x2 s hF
    rw [zf144_2] at hF
    refine Ev_p 2 (c' := (4, [some (.ref a0), some (.ref a1), some (.int x2)], [.ref a1, .int x2])) rfl ?_
    refine Ez_gf (M := zM144) (ci := 1) (f := 1) rfl rfl h1 rfl hF (fun v1 hF => ?_)
    refine Ev_p 0 (c' := (7, [some (.ref a0), some (.ref a1), some (.int x2)], [.int v1, .int x2])) rfl ?_
    refine Ez_if (M := zM144) (b := v1 ≤ x2) rfl rfl hF (fun _ hF => ?_) (fun _ hF => ?_)
    · refine Ev_p 0 (c' := (26, [some (.ref a0), some (.ref a1), some (.int x2)], [])) rfl ?_
      exact Ez_rv (M := zM144) rfl rfl hF
    · refine Ev_p 2 (c' := (12, [some (.ref a0), some (.ref a1), some (.int x2)], [.ref a1, .ref a0])) rfl ?_
      refine Ez_gr (M := zM144) (ci := 1) (f := 0) (t := 100) rfl rfl h1 rfl ?_
      refine Ev_p 1 (c' := (16, [some (.ref a0), some (.ref a1), some (.int x2)], [.int x2, .ref (zrf a1 0), .ref a0])) rfl ?_
      refine Ez_al (M := zM144) rfl (zty (ci := 1) (f := 0) (t := 100) h1 rfl) hF (fun v2 hF => ?_)
      refine Ev_p 0 (c' := (17, [some (.ref a0), some (.ref a1), some (.int x2)], [.int v2, .ref a0])) rfl ?_
      refine Ez_cv (M := zM144) (As := [.ref a0, .int v2]) (st' := []) (am_site_v (y := 13) (k := 2) (ci := 1) rfl rfl (zrcv rfl h0 rfl)) (Nat.le_of_ble_eq_true rfl) (Nat.le_of_ble_eq_true rfl) rfl rfl (fun _ hF => zf13_ok hK h0 hF) hF (fun s4 hF => ?_)
      refine Ev_p 2 (c' := (2, [some (.ref a0), some (.ref a1), some (.int (x2 + 1))], [])) rfl ?_
      exact ih hF
noncomputable def zf144 (a0 : Nat) (a1 : Nat) (s : zS) : Option (zS) :=
  zf144_2 a0 a1 zfz 0 s
theorem zf144_ok {K : cx_K} (hK : Kok K) {lg : Nat → Int64} {s' : zS} {a0 : Nat} {a1 : Nat} (h0 : zsh a0 = 1) (h1 : zsh a1 = 1)  {s : zS} (hF : zf144 a0 a1 s = some s') : Ct K 144 [.ref a0, .ref a1] (zmk lg s) (.inl none) (zmk lg s') 0 := by
  unfold zf144 at hF
  refine Ct_of hK nd_ok144 (mL := 3) (rt := none) rfl rfl (Nat.le_of_ble_eq_true rfl) zlen_le ?_
  refine Ev_p 2 (c' := (2, [some (.ref a0), some (.ref a1), some (.int 0)], [])) rfl ?_
  exact zf144_2_ok hK h0 h1 hF
-- PaperParcels$Emitter.putPart(ILPaperParcels$Row;I)V
abbrev zM140 : ev_M := (am_in nd_i140, am_fl nd_f10, am_ct nd_k10, am_sl nd_ml nd_s140, fun _ => none, none)
noncomputable def zf140_131 (a0 : Nat) (a2 : Nat)  : Nat → Int32 → Int32 → zS → Option (zS)
  | 0, _, _, _ => none
  | n + 1, x4, x5, s =>
    if x5 < 0 then
      some s
    else
      zbi (zf39 ((x4 >>> (x5 &&& 31)) &&& 15) s) fun v1 s2 =>
      zbv (zf13 (zrf a0 0) v1 s2) fun s4 =>
      zf140_131 a0 a2 n x4 (x5 + (-4)) s4
theorem zf140_131_ok {K : cx_K} (hK : Kok K) {lg : Nat → Int64} {s' : zS} {a0 : Nat} {a2 : Nat} (h0 : zsh a0 = 10) (h2 : zsh a2 = 1)   {n : Nat} : ∀ {x4 : Int32} {x5 : Int32} {s : zS}, zf140_131 a0 a2 n x4 x5 s = some s' → Ev K zM140 (131, [some (.ref a0), none, some (.ref a2), none, some (.int x4), some (.int x5)], [], zmk lg s) 0 (.inl none) (zmk lg s') 0 := by
  induction n with
  | zero => intro x4 x5 s hF; rw [zf140_131] at hF; cases hF
  | succ n ih =>
    intro x4 x5 s hF
    rw [zf140_131] at hF
    refine Ev_p 1 (c' := (133, [some (.ref a0), none, some (.ref a2), none, some (.int x4), some (.int x5)], [.int x5])) rfl ?_
    refine Ez_if (M := zM140) (b := x5 < 0) rfl rfl hF (fun _ hF => ?_) (fun _ hF => ?_)
    · refine Ev_p 0 (c' := (160, [some (.ref a0), none, some (.ref a2), none, some (.int x4), some (.int x5)], [])) rfl ?_
      exact Ez_rv (M := zM140) rfl rfl hF
    · refine Ev_p 1 (c' := (137, [some (.ref a0), none, some (.ref a2), none, some (.int x4), some (.int x5)], [.ref a0])) rfl ?_
      refine Ez_gr (M := zM140) (ci := 10) (f := 0) (t := 1) rfl rfl h0 rfl ?_
      refine Ev_p 5 (c' := (148, [some (.ref a0), none, some (.ref a2), none, some (.int x4), some (.int x5)], [.int ((x4 >>> (x5 &&& 31)) &&& 15), .ref (zrf a0 0)])) rfl ?_
      refine Ez_ci (M := zM140) (As := [.int ((x4 >>> (x5 &&& 31)) &&& 15)]) (st' := [.ref (zrf a0 0)]) (zsite_3 (y := 39) (k := 1) (ci := 0) rfl rfl) (Nat.le_of_ble_eq_true rfl) (Nat.le_of_ble_eq_true rfl) rfl rfl (fun _ _ hF => zf39_ok hK  hF) hF (fun v1 s2 hF => ?_)
      refine Ev_p 0 (c' := (151, [some (.ref a0), none, some (.ref a2), none, some (.int x4), some (.int x5)], [.int v1, .ref (zrf a0 0)])) rfl ?_
      refine Ez_cv (M := zM140) (As := [.ref (zrf a0 0), .int v1]) (st' := []) (am_site_v (y := 13) (k := 2) (ci := 1) rfl rfl (zrcv rfl (zty (ci := 10) (f := 0) (t := 1) h0 rfl) rfl)) (Nat.le_of_ble_eq_true rfl) (Nat.le_of_ble_eq_true rfl) rfl rfl (fun _ hF => zf13_ok hK (zty (ci := 10) (f := 0) (t := 1) h0 rfl) hF) hF (fun s4 hF => ?_)
      refine Ev_p 2 (c' := (131, [some (.ref a0), none, some (.ref a2), none, some (.int x4), some (.int (x5 + (-4)))], [])) rfl ?_
      exact ih hF
noncomputable def zf140_28 (a0 : Nat) (a2 : Nat)  (x1 : Int32) (x3 : Int32) (s : zS) : Option (zS) :=
  zbv (zf13 (zrf a0 0) x1 s) fun s2 =>
  zbv (zf13 (zrf a0 0) (48 + x3) s2) fun s4 =>
  zgf s4 (zrf a0 3) 1 fun v5 =>
  zbv (zf13 (zrf a0 0) (48 + (v5 / 100)) s4) fun s7 =>
  zgf s7 (zrf a0 3) 1 fun v8 =>
  zbv (zf13 (zrf a0 0) (48 + ((v8 / 10) - (v8 / 10) / 10 * 10)) s7) fun s10 =>
  zgf s10 (zrf a0 3) 1 fun v11 =>
  zbv (zf13 (zrf a0 0) (48 + (v11 - v11 / 10 * 10)) s10) fun s13 =>
  zbv (zf144 (zrf a0 0) (zrf a0 3) s13) fun s15 =>
  zbi (zf38 a2 s15) fun v16 s17 =>
  zf140_131 a0 a2 zfz v16 12 s17
theorem zf140_28_ok {K : cx_K} (hK : Kok K) {lg : Nat → Int64} {s' : zS} {a0 : Nat} {a2 : Nat} (h0 : zsh a0 = 10) (h2 : zsh a2 = 1)   {x1 : Int32} {x3 : Int32}  {s : zS} (hF : zf140_28 a0 a2 x1 x3 s = some s') : Ev K zM140 (28, [some (.ref a0), some (.int x1), some (.ref a2), some (.int x3), none, none], [], zmk lg s) 0 (.inl none) (zmk lg s') 0 := by
  unfold zf140_28 at hF
  refine Ev_p 1 (c' := (29, [some (.ref a0), some (.int x1), some (.ref a2), some (.int x3), none, none], [.ref a0])) rfl ?_
  refine Ez_gr (M := zM140) (ci := 10) (f := 0) (t := 1) rfl rfl h0 rfl ?_
  refine Ev_p 1 (c' := (33, [some (.ref a0), some (.int x1), some (.ref a2), some (.int x3), none, none], [.int x1, .ref (zrf a0 0)])) rfl ?_
  refine Ez_cv (M := zM140) (As := [.ref (zrf a0 0), .int x1]) (st' := []) (am_site_v (y := 13) (k := 2) (ci := 1) rfl rfl (zrcv rfl (zty (ci := 10) (f := 0) (t := 1) h0 rfl) rfl)) (Nat.le_of_ble_eq_true rfl) (Nat.le_of_ble_eq_true rfl) rfl rfl (fun _ hF => zf13_ok hK (zty (ci := 10) (f := 0) (t := 1) h0 rfl) hF) hF (fun s2 hF => ?_)
  refine Ev_p 1 (c' := (37, [some (.ref a0), some (.int x1), some (.ref a2), some (.int x3), none, none], [.ref a0])) rfl ?_
  refine Ez_gr (M := zM140) (ci := 10) (f := 0) (t := 1) rfl rfl h0 rfl ?_
  refine Ev_p 3 (c' := (44, [some (.ref a0), some (.int x1), some (.ref a2), some (.int x3), none, none], [.int (48 + x3), .ref (zrf a0 0)])) rfl ?_
  refine Ez_cv (M := zM140) (As := [.ref (zrf a0 0), .int (48 + x3)]) (st' := []) (am_site_v (y := 13) (k := 2) (ci := 1) rfl rfl (zrcv rfl (zty (ci := 10) (f := 0) (t := 1) h0 rfl) rfl)) (Nat.le_of_ble_eq_true rfl) (Nat.le_of_ble_eq_true rfl) rfl rfl (fun _ hF => zf13_ok hK (zty (ci := 10) (f := 0) (t := 1) h0 rfl) hF) hF (fun s4 hF => ?_)
  refine Ev_p 1 (c' := (48, [some (.ref a0), some (.int x1), some (.ref a2), some (.int x3), none, none], [.ref a0])) rfl ?_
  refine Ez_gr (M := zM140) (ci := 10) (f := 0) (t := 1) rfl rfl h0 rfl ?_
  refine Ev_p 2 (c' := (54, [some (.ref a0), some (.int x1), some (.ref a2), some (.int x3), none, none], [.ref a0, .int 48, .ref (zrf a0 0)])) rfl ?_
  refine Ez_gr (M := zM140) (ci := 10) (f := 3) (t := 1) rfl rfl h0 rfl ?_
  refine Ev_p 0 (c' := (57, [some (.ref a0), some (.int x1), some (.ref a2), some (.int x3), none, none], [.ref (zrf a0 3), .int 48, .ref (zrf a0 0)])) rfl ?_
  refine Ez_gf (M := zM140) (ci := 1) (f := 1) rfl rfl (zty (ci := 10) (f := 3) (t := 1) h0 rfl) rfl hF (fun v5 hF => ?_)
  refine Ev_p 3 (c' := (64, [some (.ref a0), some (.int x1), some (.ref a2), some (.int x3), none, none], [.int (48 + (v5 / 100)), .ref (zrf a0 0)])) rfl ?_
  refine Ez_cv (M := zM140) (As := [.ref (zrf a0 0), .int (48 + (v5 / 100))]) (st' := []) (am_site_v (y := 13) (k := 2) (ci := 1) rfl rfl (zrcv rfl (zty (ci := 10) (f := 0) (t := 1) h0 rfl) rfl)) (Nat.le_of_ble_eq_true rfl) (Nat.le_of_ble_eq_true rfl) rfl rfl (fun _ hF => zf13_ok hK (zty (ci := 10) (f := 0) (t := 1) h0 rfl) hF) hF (fun s7 hF => ?_)
  refine Ev_p 1 (c' := (68, [some (.ref a0), some (.int x1), some (.ref a2), some (.int x3), none, none], [.ref a0])) rfl ?_
  refine Ez_gr (M := zM140) (ci := 10) (f := 0) (t := 1) rfl rfl h0 rfl ?_
  refine Ev_p 2 (c' := (74, [some (.ref a0), some (.int x1), some (.ref a2), some (.int x3), none, none], [.ref a0, .int 48, .ref (zrf a0 0)])) rfl ?_
  refine Ez_gr (M := zM140) (ci := 10) (f := 3) (t := 1) rfl rfl h0 rfl ?_
  refine Ev_p 0 (c' := (77, [some (.ref a0), some (.int x1), some (.ref a2), some (.int x3), none, none], [.ref (zrf a0 3), .int 48, .ref (zrf a0 0)])) rfl ?_
  refine Ez_gf (M := zM140) (ci := 1) (f := 1) rfl rfl (zty (ci := 10) (f := 3) (t := 1) h0 rfl) rfl hF (fun v8 hF => ?_)
  refine Ev_p 5 (c' := (87, [some (.ref a0), some (.int x1), some (.ref a2), some (.int x3), none, none], [.int (48 + ((v8 / 10) - (v8 / 10) / 10 * 10)), .ref (zrf a0 0)])) rfl ?_
  refine Ez_cv (M := zM140) (As := [.ref (zrf a0 0), .int (48 + ((v8 / 10) - (v8 / 10) / 10 * 10))]) (st' := []) (am_site_v (y := 13) (k := 2) (ci := 1) rfl rfl (zrcv rfl (zty (ci := 10) (f := 0) (t := 1) h0 rfl) rfl)) (Nat.le_of_ble_eq_true rfl) (Nat.le_of_ble_eq_true rfl) rfl rfl (fun _ hF => zf13_ok hK (zty (ci := 10) (f := 0) (t := 1) h0 rfl) hF) hF (fun s10 hF => ?_)
  refine Ev_p 1 (c' := (91, [some (.ref a0), some (.int x1), some (.ref a2), some (.int x3), none, none], [.ref a0])) rfl ?_
  refine Ez_gr (M := zM140) (ci := 10) (f := 0) (t := 1) rfl rfl h0 rfl ?_
  refine Ev_p 2 (c' := (97, [some (.ref a0), some (.int x1), some (.ref a2), some (.int x3), none, none], [.ref a0, .int 48, .ref (zrf a0 0)])) rfl ?_
  refine Ez_gr (M := zM140) (ci := 10) (f := 3) (t := 1) rfl rfl h0 rfl ?_
  refine Ev_p 0 (c' := (100, [some (.ref a0), some (.int x1), some (.ref a2), some (.int x3), none, none], [.ref (zrf a0 3), .int 48, .ref (zrf a0 0)])) rfl ?_
  refine Ez_gf (M := zM140) (ci := 1) (f := 1) rfl rfl (zty (ci := 10) (f := 3) (t := 1) h0 rfl) rfl hF (fun v11 hF => ?_)
  refine Ev_p 3 (c' := (107, [some (.ref a0), some (.int x1), some (.ref a2), some (.int x3), none, none], [.int (48 + (v11 - v11 / 10 * 10)), .ref (zrf a0 0)])) rfl ?_
  refine Ez_cv (M := zM140) (As := [.ref (zrf a0 0), .int (48 + (v11 - v11 / 10 * 10))]) (st' := []) (am_site_v (y := 13) (k := 2) (ci := 1) rfl rfl (zrcv rfl (zty (ci := 10) (f := 0) (t := 1) h0 rfl) rfl)) (Nat.le_of_ble_eq_true rfl) (Nat.le_of_ble_eq_true rfl) rfl rfl (fun _ hF => zf13_ok hK (zty (ci := 10) (f := 0) (t := 1) h0 rfl) hF) hF (fun s13 hF => ?_)
  refine Ev_p 1 (c' := (111, [some (.ref a0), some (.int x1), some (.ref a2), some (.int x3), none, none], [.ref a0])) rfl ?_
  refine Ez_gr (M := zM140) (ci := 10) (f := 0) (t := 1) rfl rfl h0 rfl ?_
  refine Ev_p 1 (c' := (115, [some (.ref a0), some (.int x1), some (.ref a2), some (.int x3), none, none], [.ref a0, .ref (zrf a0 0)])) rfl ?_
  refine Ez_gr (M := zM140) (ci := 10) (f := 3) (t := 1) rfl rfl h0 rfl ?_
  refine Ev_p 0 (c' := (118, [some (.ref a0), some (.int x1), some (.ref a2), some (.int x3), none, none], [.ref (zrf a0 3), .ref (zrf a0 0)])) rfl ?_
  refine Ez_cv (M := zM140) (As := [.ref (zrf a0 0), .ref (zrf a0 3)]) (st' := []) (am_site_v (y := 144) (k := 2) (ci := 1) rfl rfl (zrcv rfl (zty (ci := 10) (f := 0) (t := 1) h0 rfl) rfl)) (Nat.le_of_ble_eq_true rfl) (Nat.le_of_ble_eq_true rfl) rfl rfl (fun _ hF => zf144_ok hK (zty (ci := 10) (f := 0) (t := 1) h0 rfl) (zty (ci := 10) (f := 3) (t := 1) h0 rfl) hF) hF (fun s15 hF => ?_)
  refine Ev_p 1 (c' := (122, [some (.ref a0), some (.int x1), some (.ref a2), some (.int x3), none, none], [.ref a2])) rfl ?_
  refine Ez_ci (M := zM140) (As := [.ref a2]) (st' := []) (am_site_v (y := 38) (k := 1) (ci := 1) rfl rfl (zrcv rfl h2 rfl)) (Nat.le_of_ble_eq_true rfl) (Nat.le_of_ble_eq_true rfl) rfl rfl (fun _ _ hF => zf38_ok hK h2 hF) hF (fun v16 s17 hF => ?_)
  refine Ev_p 3 (c' := (131, [some (.ref a0), some (.int x1), some (.ref a2), some (.int x3), some (.int v16), some (.int 12)], [])) rfl ?_
  refine Ev_w (L' := [some (.ref a0), none, some (.ref a2), none, some (.int v16), some (.int 12)]) (zle_c (zle_n (zle_c (zle_n (zle_c (zle_c zle_0)))))) ?_
  exact zf140_131_ok hK h0 h2 hF
noncomputable def zf140 (a0 : Nat) (x1 : Int32) (a2 : Nat) (x3 : Int32) (s : zS) : Option (zS) :=
  zbv (zf15 (zrf a0 3) s) fun s2 =>
  if ¬ x3 = 1 then
    zbv (zf144 (zrf a0 3) a2 s2) fun s4 =>
    zf140_28 a0 a2 x1 x3 s4
  else
    zbv (zf141 a0 a2 s2) fun s6 =>
    zf140_28 a0 a2 x1 x3 s6
theorem zf140_ok {K : cx_K} (hK : Kok K) {lg : Nat → Int64} {s' : zS} {a0 : Nat} {a2 : Nat} (h0 : zsh a0 = 10) (h2 : zsh a2 = 1) {x1 : Int32} {x3 : Int32} {s : zS} (hF : zf140 a0 x1 a2 x3 s = some s') : Ct K 140 [.ref a0, .int x1, .ref a2, .int x3] (zmk lg s) (.inl none) (zmk lg s') 0 := by
  unfold zf140 at hF
  refine Ct_of hK nd_ok140 (mL := 6) (rt := none) rfl rfl (Nat.le_of_ble_eq_true rfl) zlen_le ?_
  refine Ev_p 1 (c' := (1, [some (.ref a0), some (.int x1), some (.ref a2), some (.int x3), none, none], [.ref a0])) rfl ?_
  refine Ez_gr (M := zM140) (ci := 10) (f := 3) (t := 1) rfl rfl h0 rfl ?_
  refine Ev_p 0 (c' := (4, [some (.ref a0), some (.int x1), some (.ref a2), some (.int x3), none, none], [.ref (zrf a0 3)])) rfl ?_
  refine Ez_cv (M := zM140) (As := [.ref (zrf a0 3)]) (st' := []) (am_site_v (y := 15) (k := 1) (ci := 1) rfl rfl (zrcv rfl (zty (ci := 10) (f := 3) (t := 1) h0 rfl) rfl)) (Nat.le_of_ble_eq_true rfl) (Nat.le_of_ble_eq_true rfl) rfl rfl (fun _ hF => zf15_ok hK (zty (ci := 10) (f := 3) (t := 1) h0 rfl) hF) hF (fun s2 hF => ?_)
  refine Ev_p 2 (c' := (9, [some (.ref a0), some (.int x1), some (.ref a2), some (.int x3), none, none], [.int 1, .int x3])) rfl ?_
  refine Ez_if (M := zM140) (b := ¬ x3 = 1) rfl rfl hF (fun _ hF => ?_) (fun _ hF => ?_)
  · refine Ev_p 1 (c' := (21, [some (.ref a0), some (.int x1), some (.ref a2), some (.int x3), none, none], [.ref a0])) rfl ?_
    refine Ez_gr (M := zM140) (ci := 10) (f := 3) (t := 1) rfl rfl h0 rfl ?_
    refine Ev_p 1 (c' := (25, [some (.ref a0), some (.int x1), some (.ref a2), some (.int x3), none, none], [.ref a2, .ref (zrf a0 3)])) rfl ?_
    refine Ez_cv (M := zM140) (As := [.ref (zrf a0 3), .ref a2]) (st' := []) (am_site_v (y := 144) (k := 2) (ci := 1) rfl rfl (zrcv rfl (zty (ci := 10) (f := 3) (t := 1) h0 rfl) rfl)) (Nat.le_of_ble_eq_true rfl) (Nat.le_of_ble_eq_true rfl) rfl rfl (fun _ hF => zf144_ok hK (zty (ci := 10) (f := 3) (t := 1) h0 rfl) h2 hF) hF (fun s4 hF => ?_)
    refine Ev_p 0 (c' := (28, [some (.ref a0), some (.int x1), some (.ref a2), some (.int x3), none, none], [])) rfl ?_
    exact zf140_28_ok hK h0 h2 hF
  · refine Ev_p 2 (c' := (14, [some (.ref a0), some (.int x1), some (.ref a2), some (.int x3), none, none], [.ref a2, .ref a0])) rfl ?_
    refine Ez_cv (M := zM140) (As := [.ref a0, .ref a2]) (st' := []) (am_site_v (y := 141) (k := 2) (ci := 10) rfl rfl (zrcv rfl h0 rfl)) (Nat.le_of_ble_eq_true rfl) (Nat.le_of_ble_eq_true rfl) rfl rfl (fun _ hF => zf141_ok hK h0 h2 hF) hF (fun s6 hF => ?_)
    refine Ev_p 1 (c' := (28, [some (.ref a0), some (.int x1), some (.ref a2), some (.int x3), none, none], [])) rfl ?_
    exact zf140_28_ok hK h0 h2 hF
-- PaperParcelsModel.thrown()I
abbrev zM147 : ev_M := (am_in nd_i147, am_fl nd_f11, am_ct nd_k11, am_sl nd_ml nd_s147, fun _ => none, some .int)
noncomputable def zf147 (a0 : Nat) (s : zS) : Option (Int32 × zS) :=
  zgf s a0 0 fun v1 =>
  some (v1, s)
theorem zf147_ok {K : cx_K} (hK : Kok K) {lg : Nat → Int64} {v : Int32} {s' : zS} {a0 : Nat} (h0 : zsh a0 = 11)  {s : zS} (hF : zf147 a0 s = some (v, s')) : Ct K 147 [.ref a0] (zmk lg s) (.inl (some (.int v))) (zmk lg s') 0 := by
  unfold zf147 at hF
  refine Ct_of hK nd_ok147 (mL := 1) (rt := some .int) rfl rfl (Nat.le_of_ble_eq_true rfl) zlen_le ?_
  refine Ev_p 1 (c' := (1, [some (.ref a0)], [.ref a0])) rfl ?_
  refine Ez_gf (M := zM147) (ci := 11) (f := 0) rfl rfl h0 rfl hF (fun v1 hF => ?_)
  refine Ev_p 0 (c' := (4, [some (.ref a0)], [.int v1])) rfl ?_
  exact Ez_ri (M := zM147) rfl rfl hF
-- PaperParcelsModel.write(J)Z
abbrev zM148 : ev_M := (am_in nd_i148, am_fl nd_f11, am_ct nd_k11, am_sl nd_ml nd_s148, fun _ => none, some .boolean)
noncomputable def zf148_63 (a0 : Nat) (k13 : Int64 → Int32 → Int32 → Int32 → zS → Option (Int32 × zS)) (x1 : Int64) (x3 : Int32) (x5 : Int32) (x6 : Int32) (t0 : Int32) (s : zS) : Option (Int32 × zS) :=
  if ¬ x6 = 0 then
    k13 x1 (x3 + 1) t0 (x5 + 1) s
  else
    k13 x1 (x3 + 0) t0 (x5 + 1) s
theorem zf148_63_ok {K : cx_K} (hK : Kok K) {lg : Nat → Int64} {v : Int32} {s' : zS} {a0 : Nat} (h0 : zsh a0 = 11) {k13 : Int64 → Int32 → Int32 → Int32 → zS → Option (Int32 × zS)} (hk13 : ∀ x1 x3 x4 x5 s, k13 x1 x3 x4 x5 s = some (v, s') → Ev K zM148 (13, [some (.ref a0), some (.long x1), none, some (.int x3), some (.int x4), some (.int x5), none], [], zmk lg s) 0 (.inl (some (.int v))) (zmk lg s') 0) {x1 : Int64} {x3 : Int32} {x5 : Int32} {x6 : Int32} {t0 : Int32}  {s : zS} (hF : zf148_63 a0 k13 x1 x3 x5 x6 t0 s = some (v, s')) : Ev K zM148 (63, [some (.ref a0), some (.long x1), none, some (.int x3), none, some (.int x5), some (.int x6)], [.int t0], zmk lg s) 0 (.inl (some (.int v))) (zmk lg s') 0 := by
  unfold zf148_63 at hF
  refine Ev_p 3 (c' := (68, [some (.ref a0), some (.long x1), none, some (.int x3), some (.int t0), some (.int x5), some (.int x6)], [.int x6, .int x3])) rfl ?_
  refine Ez_if (M := zM148) (b := ¬ x6 = 0) rfl rfl hF (fun _ hF => ?_) (fun _ hF => ?_)
  · refine Ev_p 5 (c' := (13, [some (.ref a0), some (.long x1), none, some (.int (x3 + 1)), some (.int t0), some (.int (x5 + 1)), some (.int x6)], [])) rfl ?_
    refine Ev_w (L' := [some (.ref a0), some (.long x1), none, some (.int (x3 + 1)), some (.int t0), some (.int (x5 + 1)), none]) (zle_c (zle_c (zle_c (zle_c (zle_c (zle_c (zle_n zle_0))))))) ?_
    exact hk13 _ _ _ _ _ hF
  · refine Ev_p 6 (c' := (13, [some (.ref a0), some (.long x1), none, some (.int (x3 + 0)), some (.int t0), some (.int (x5 + 1)), some (.int x6)], [])) rfl ?_
    refine Ev_w (L' := [some (.ref a0), some (.long x1), none, some (.int (x3 + 0)), some (.int t0), some (.int (x5 + 1)), none]) (zle_c (zle_c (zle_c (zle_c (zle_c (zle_c (zle_n zle_0))))))) ?_
    exact hk13 _ _ _ _ _ hF
noncomputable def zf148_106 (a0 : Nat)  : Nat → Int64 → Int32 → zS → Option (Int32 × zS)
  | 0, _, _, _ => none
  | n + 1, x1, x5, s =>
    if 8 ≤ x5 then
      zrb 1 s
    else
      if (Int64.toInt32 ((x1 >>> (Int32.toInt64 (8 * x5) &&& 63)) &&& 255)) = 0 then
        zf148_106 a0 n x1 (x5 + 1) s
      else
        zgf s a0 2 fun v1 =>
        zas s (zrf a0 1) v1 (Int64.toInt32 ((x1 >>> (Int32.toInt64 (8 * x5) &&& 63)) &&& 255)) fun s2 =>
        zgf s2 a0 2 fun v3 =>
        zpf s2 a0 2 (v3 + 1) fun s4 =>
        zf148_106 a0 n x1 (x5 + 1) s4
theorem zf148_106_ok {K : cx_K} (hK : Kok K) {lg : Nat → Int64} {v : Int32} {s' : zS} {a0 : Nat} (h0 : zsh a0 = 11)   {n : Nat} : ∀ {x1 : Int64} {x5 : Int32} {s : zS}, zf148_106 a0 n x1 x5 s = some (v, s') → Ev K zM148 (106, [some (.ref a0), some (.long x1), none, none, none, some (.int x5), none], [], zmk lg s) 0 (.inl (some (.int v))) (zmk lg s') 0 := by
  induction n with
  | zero => intro x1 x5 s hF; rw [zf148_106] at hF; cases hF
  | succ n ih =>
    intro x1 x5 s hF
    rw [zf148_106] at hF
    refine Ev_p 2 (c' := (110, [some (.ref a0), some (.long x1), none, none, none, some (.int x5), none], [.int 8, .int x5])) rfl ?_
    refine Ez_if (M := zM148) (b := 8 ≤ x5) rfl rfl hF (fun _ hF => ?_) (fun _ hF => ?_)
    · refine Ev_p 1 (c' := (160, [some (.ref a0), some (.long x1), none, none, none, some (.int x5), none], [.int 1])) rfl ?_
      exact Ez_rb (M := zM148) rfl rfl hF
    · refine Ev_p 5 (c' := (120, [some (.ref a0), some (.long x1), none, none, none, some (.int x5), none], [.long (x1 >>> (Int32.toInt64 (8 * x5) &&& 63))])) rfl ?_
      refine Ez_ldc2_w (M := zM148) (x := 255) rfl rfl ?_
      refine Ev_p 4 (c' := (129, [some (.ref a0), some (.long x1), none, none, none, some (.int x5), some (.int (Int64.toInt32 ((x1 >>> (Int32.toInt64 (8 * x5) &&& 63)) &&& 255)))], [.int (Int64.toInt32 ((x1 >>> (Int32.toInt64 (8 * x5) &&& 63)) &&& 255))])) rfl ?_
      refine Ez_if (M := zM148) (b := (Int64.toInt32 ((x1 >>> (Int32.toInt64 (8 * x5) &&& 63)) &&& 255)) = 0) rfl rfl hF (fun _ hF => ?_) (fun _ hF => ?_)
      · refine Ev_p 2 (c' := (106, [some (.ref a0), some (.long x1), none, none, none, some (.int (x5 + 1)), some (.int (Int64.toInt32 ((x1 >>> (Int32.toInt64 (8 * x5) &&& 63)) &&& 255)))], [])) rfl ?_
        refine Ev_w (L' := [some (.ref a0), some (.long x1), none, none, none, some (.int (x5 + 1)), none]) (zle_c (zle_c (zle_c (zle_c (zle_c (zle_c (zle_n zle_0))))))) ?_
        exact ih hF
      · refine Ev_p 1 (c' := (133, [some (.ref a0), some (.long x1), none, none, none, some (.int x5), some (.int (Int64.toInt32 ((x1 >>> (Int32.toInt64 (8 * x5) &&& 63)) &&& 255)))], [.ref a0])) rfl ?_
        refine Ez_gr (M := zM148) (ci := 11) (f := 1) (t := 100) rfl rfl h0 rfl ?_
        refine Ev_p 1 (c' := (137, [some (.ref a0), some (.long x1), none, none, none, some (.int x5), some (.int (Int64.toInt32 ((x1 >>> (Int32.toInt64 (8 * x5) &&& 63)) &&& 255)))], [.ref a0, .ref (zrf a0 1)])) rfl ?_
        refine Ez_gf (M := zM148) (ci := 11) (f := 2) rfl rfl h0 rfl hF (fun v1 hF => ?_)
        refine Ev_p 1 (c' := (142, [some (.ref a0), some (.long x1), none, none, none, some (.int x5), some (.int (Int64.toInt32 ((x1 >>> (Int32.toInt64 (8 * x5) &&& 63)) &&& 255)))], [.int (Int64.toInt32 ((x1 >>> (Int32.toInt64 (8 * x5) &&& 63)) &&& 255)), .int v1, .ref (zrf a0 1)])) rfl ?_
        refine Ez_as (M := zM148) rfl (zty (ci := 11) (f := 1) (t := 100) h0 rfl) hF (fun s2 hF => ?_)
        refine Ev_p 2 (c' := (145, [some (.ref a0), some (.long x1), none, none, none, some (.int x5), some (.int (Int64.toInt32 ((x1 >>> (Int32.toInt64 (8 * x5) &&& 63)) &&& 255)))], [.ref a0, .ref a0])) rfl ?_
        refine Ez_gf (M := zM148) (ci := 11) (f := 2) rfl rfl h0 rfl hF (fun v3 hF => ?_)
        refine Ev_p 2 (c' := (150, [some (.ref a0), some (.long x1), none, none, none, some (.int x5), some (.int (Int64.toInt32 ((x1 >>> (Int32.toInt64 (8 * x5) &&& 63)) &&& 255)))], [.int (v3 + 1), .ref a0])) rfl ?_
        refine Ez_pf (M := zM148) (ci := 11) (f := 2) rfl rfl h0 rfl hF (fun s4 hF => ?_)
        refine Ev_p 2 (c' := (106, [some (.ref a0), some (.long x1), none, none, none, some (.int (x5 + 1)), some (.int (Int64.toInt32 ((x1 >>> (Int32.toInt64 (8 * x5) &&& 63)) &&& 255)))], [])) rfl ?_
        refine Ev_w (L' := [some (.ref a0), some (.long x1), none, none, none, some (.int (x5 + 1)), none]) (zle_c (zle_c (zle_c (zle_c (zle_c (zle_c (zle_n zle_0))))))) ?_
        exact ih hF
noncomputable def zf148_13 (a0 : Nat)  : Nat → Int64 → Int32 → Int32 → Int32 → zS → Option (Int32 × zS)
  | 0, _, _, _, _, _ => none
  | n + 1, x1, x3, x4, x5, s =>
    if 8 ≤ x5 then
      if x4 = 0 then
        zrb 0 s
      else
        zgf s a0 2 fun v1 =>
        if (v1 + x3) ≤ 480 then
          zf148_106 a0 zfz x1 0 s
        else
          zrb 0 s
    else
      if x4 = 0 then
        zf148_63 a0 (zf148_13 a0 n) x1 x3 x5 (Int64.toInt32 ((x1 >>> (Int32.toInt64 (8 * x5) &&& 63)) &&& 255)) 0 s
      else
        if (Int64.toInt32 ((x1 >>> (Int32.toInt64 (8 * x5) &&& 63)) &&& 255)) = 0 then
          zf148_63 a0 (zf148_13 a0 n) x1 x3 x5 (Int64.toInt32 ((x1 >>> (Int32.toInt64 (8 * x5) &&& 63)) &&& 255)) 1 s
        else
          if (Int64.toInt32 ((x1 >>> (Int32.toInt64 (8 * x5) &&& 63)) &&& 255)) < 32 then
            zf148_63 a0 (zf148_13 a0 n) x1 x3 x5 (Int64.toInt32 ((x1 >>> (Int32.toInt64 (8 * x5) &&& 63)) &&& 255)) 0 s
          else
            if 126 < (Int64.toInt32 ((x1 >>> (Int32.toInt64 (8 * x5) &&& 63)) &&& 255)) then
              zf148_63 a0 (zf148_13 a0 n) x1 x3 x5 (Int64.toInt32 ((x1 >>> (Int32.toInt64 (8 * x5) &&& 63)) &&& 255)) 0 s
            else
              zf148_63 a0 (zf148_13 a0 n) x1 x3 x5 (Int64.toInt32 ((x1 >>> (Int32.toInt64 (8 * x5) &&& 63)) &&& 255)) 1 s
theorem zf148_13_ok {K : cx_K} (hK : Kok K) {lg : Nat → Int64} {v : Int32} {s' : zS} {a0 : Nat} (h0 : zsh a0 = 11)   {n : Nat} : ∀ {x1 : Int64} {x3 : Int32} {x4 : Int32} {x5 : Int32} {s : zS}, zf148_13 a0 n x1 x3 x4 x5 s = some (v, s') → Ev K zM148 (13, [some (.ref a0), some (.long x1), none, some (.int x3), some (.int x4), some (.int x5), none], [], zmk lg s) 0 (.inl (some (.int v))) (zmk lg s') 0 := by
  induction n with
  | zero => intro x1 x3 x4 x5 s hF; rw [zf148_13] at hF; cases hF
  | succ n ih =>
    intro x1 x3 x4 x5 s hF
    rw [zf148_13] at hF
    refine Ev_p 2 (c' := (17, [some (.ref a0), some (.long x1), none, some (.int x3), some (.int x4), some (.int x5), none], [.int 8, .int x5])) rfl ?_
    refine Ez_if (M := zM148) (b := 8 ≤ x5) rfl rfl hF (fun _ hF => ?_) (fun _ hF => ?_)
    · refine Ev_p 1 (c' := (86, [some (.ref a0), some (.long x1), none, some (.int x3), some (.int x4), some (.int x5), none], [.int x4])) rfl ?_
      refine Ez_if (M := zM148) (b := x4 = 0) rfl rfl hF (fun _ hF => ?_) (fun _ hF => ?_)
      · refine Ev_p 1 (c' := (102, [some (.ref a0), some (.long x1), none, some (.int x3), some (.int x4), some (.int x5), none], [.int 0])) rfl ?_
        exact Ez_rb (M := zM148) rfl rfl hF
      · refine Ev_p 1 (c' := (90, [some (.ref a0), some (.long x1), none, some (.int x3), some (.int x4), some (.int x5), none], [.ref a0])) rfl ?_
        refine Ez_gf (M := zM148) (ci := 11) (f := 2) rfl rfl h0 rfl hF (fun v1 hF => ?_)
        refine Ev_p 3 (c' := (98, [some (.ref a0), some (.long x1), none, some (.int x3), some (.int x4), some (.int x5), none], [.int 480, .int (v1 + x3)])) rfl ?_
        refine Ez_if (M := zM148) (b := (v1 + x3) ≤ 480) rfl rfl hF (fun _ hF => ?_) (fun _ hF => ?_)
        · refine Ev_p 2 (c' := (106, [some (.ref a0), some (.long x1), none, some (.int x3), some (.int x4), some (.int 0), none], [])) rfl ?_
          refine Ev_w (L' := [some (.ref a0), some (.long x1), none, none, none, some (.int 0), none]) (zle_c (zle_c (zle_c (zle_n (zle_n (zle_c (zle_c zle_0))))))) ?_
          exact zf148_106_ok hK h0 hF
        · refine Ev_p 1 (c' := (102, [some (.ref a0), some (.long x1), none, some (.int x3), some (.int x4), some (.int x5), none], [.int 0])) rfl ?_
          exact Ez_rb (M := zM148) rfl rfl hF
    · refine Ev_p 5 (c' := (27, [some (.ref a0), some (.long x1), none, some (.int x3), some (.int x4), some (.int x5), none], [.long (x1 >>> (Int32.toInt64 (8 * x5) &&& 63))])) rfl ?_
      refine Ez_ldc2_w (M := zM148) (x := 255) rfl rfl ?_
      refine Ev_p 4 (c' := (36, [some (.ref a0), some (.long x1), none, some (.int x3), some (.int x4), some (.int x5), some (.int (Int64.toInt32 ((x1 >>> (Int32.toInt64 (8 * x5) &&& 63)) &&& 255)))], [.int x4])) rfl ?_
      refine Ez_if (M := zM148) (b := x4 = 0) rfl rfl hF (fun _ hF => ?_) (fun _ hF => ?_)
      · refine Ev_p 1 (c' := (63, [some (.ref a0), some (.long x1), none, some (.int x3), some (.int x4), some (.int x5), some (.int (Int64.toInt32 ((x1 >>> (Int32.toInt64 (8 * x5) &&& 63)) &&& 255)))], [.int 0])) rfl ?_
        refine Ev_w (L' := [some (.ref a0), some (.long x1), none, some (.int x3), none, some (.int x5), some (.int (Int64.toInt32 ((x1 >>> (Int32.toInt64 (8 * x5) &&& 63)) &&& 255)))]) (zle_c (zle_c (zle_c (zle_c (zle_n (zle_c (zle_c zle_0))))))) ?_
        exact zf148_63_ok hK h0 (fun _ _ _ _ _ hF => ih hF) hF
      · refine Ev_p 1 (c' := (41, [some (.ref a0), some (.long x1), none, some (.int x3), some (.int x4), some (.int x5), some (.int (Int64.toInt32 ((x1 >>> (Int32.toInt64 (8 * x5) &&& 63)) &&& 255)))], [.int (Int64.toInt32 ((x1 >>> (Int32.toInt64 (8 * x5) &&& 63)) &&& 255))])) rfl ?_
        refine Ez_if (M := zM148) (b := (Int64.toInt32 ((x1 >>> (Int32.toInt64 (8 * x5) &&& 63)) &&& 255)) = 0) rfl rfl hF (fun _ hF => ?_) (fun _ hF => ?_)
        · refine Ev_p 2 (c' := (63, [some (.ref a0), some (.long x1), none, some (.int x3), some (.int x4), some (.int x5), some (.int (Int64.toInt32 ((x1 >>> (Int32.toInt64 (8 * x5) &&& 63)) &&& 255)))], [.int 1])) rfl ?_
          refine Ev_w (L' := [some (.ref a0), some (.long x1), none, some (.int x3), none, some (.int x5), some (.int (Int64.toInt32 ((x1 >>> (Int32.toInt64 (8 * x5) &&& 63)) &&& 255)))]) (zle_c (zle_c (zle_c (zle_c (zle_n (zle_c (zle_c zle_0))))))) ?_
          exact zf148_63_ok hK h0 (fun _ _ _ _ _ hF => ih hF) hF
        · refine Ev_p 2 (c' := (48, [some (.ref a0), some (.long x1), none, some (.int x3), some (.int x4), some (.int x5), some (.int (Int64.toInt32 ((x1 >>> (Int32.toInt64 (8 * x5) &&& 63)) &&& 255)))], [.int 32, .int (Int64.toInt32 ((x1 >>> (Int32.toInt64 (8 * x5) &&& 63)) &&& 255))])) rfl ?_
          refine Ez_if (M := zM148) (b := (Int64.toInt32 ((x1 >>> (Int32.toInt64 (8 * x5) &&& 63)) &&& 255)) < 32) rfl rfl hF (fun _ hF => ?_) (fun _ hF => ?_)
          · refine Ev_p 1 (c' := (63, [some (.ref a0), some (.long x1), none, some (.int x3), some (.int x4), some (.int x5), some (.int (Int64.toInt32 ((x1 >>> (Int32.toInt64 (8 * x5) &&& 63)) &&& 255)))], [.int 0])) rfl ?_
            refine Ev_w (L' := [some (.ref a0), some (.long x1), none, some (.int x3), none, some (.int x5), some (.int (Int64.toInt32 ((x1 >>> (Int32.toInt64 (8 * x5) &&& 63)) &&& 255)))]) (zle_c (zle_c (zle_c (zle_c (zle_n (zle_c (zle_c zle_0))))))) ?_
            exact zf148_63_ok hK h0 (fun _ _ _ _ _ hF => ih hF) hF
          · refine Ev_p 2 (c' := (55, [some (.ref a0), some (.long x1), none, some (.int x3), some (.int x4), some (.int x5), some (.int (Int64.toInt32 ((x1 >>> (Int32.toInt64 (8 * x5) &&& 63)) &&& 255)))], [.int 126, .int (Int64.toInt32 ((x1 >>> (Int32.toInt64 (8 * x5) &&& 63)) &&& 255))])) rfl ?_
            refine Ez_if (M := zM148) (b := 126 < (Int64.toInt32 ((x1 >>> (Int32.toInt64 (8 * x5) &&& 63)) &&& 255))) rfl rfl hF (fun _ hF => ?_) (fun _ hF => ?_)
            · refine Ev_p 1 (c' := (63, [some (.ref a0), some (.long x1), none, some (.int x3), some (.int x4), some (.int x5), some (.int (Int64.toInt32 ((x1 >>> (Int32.toInt64 (8 * x5) &&& 63)) &&& 255)))], [.int 0])) rfl ?_
              refine Ev_w (L' := [some (.ref a0), some (.long x1), none, some (.int x3), none, some (.int x5), some (.int (Int64.toInt32 ((x1 >>> (Int32.toInt64 (8 * x5) &&& 63)) &&& 255)))]) (zle_c (zle_c (zle_c (zle_c (zle_n (zle_c (zle_c zle_0))))))) ?_
              exact zf148_63_ok hK h0 (fun _ _ _ _ _ hF => ih hF) hF
            · refine Ev_p 2 (c' := (63, [some (.ref a0), some (.long x1), none, some (.int x3), some (.int x4), some (.int x5), some (.int (Int64.toInt32 ((x1 >>> (Int32.toInt64 (8 * x5) &&& 63)) &&& 255)))], [.int 1])) rfl ?_
              refine Ev_w (L' := [some (.ref a0), some (.long x1), none, some (.int x3), none, some (.int x5), some (.int (Int64.toInt32 ((x1 >>> (Int32.toInt64 (8 * x5) &&& 63)) &&& 255)))]) (zle_c (zle_c (zle_c (zle_c (zle_n (zle_c (zle_c zle_0))))))) ?_
              exact zf148_63_ok hK h0 (fun _ _ _ _ _ hF => ih hF) hF
noncomputable def zf148 (a0 : Nat) (x1 : Int64) (s : zS) : Option (Int32 × zS) :=
  zpf s a0 0 0 fun s1 =>
  zf148_13 a0 zfz x1 0 1 0 s1
theorem zf148_ok {K : cx_K} (hK : Kok K) {lg : Nat → Int64} {v : Int32} {s' : zS} {a0 : Nat} (h0 : zsh a0 = 11) {x1 : Int64} {s : zS} (hF : zf148 a0 x1 s = some (v, s')) : Ct K 148 [.ref a0, .long x1] (zmk lg s) (.inl (some (.int v))) (zmk lg s') 0 := by
  unfold zf148 at hF
  refine Ct_of hK nd_ok148 (mL := 7) (rt := some .boolean) rfl rfl (Nat.le_of_ble_eq_true rfl) zlen_le ?_
  refine Ev_p 2 (c' := (2, [some (.ref a0), some (.long x1), none, none, none, none, none], [.int 0, .ref a0])) rfl ?_
  refine Ez_pf (M := zM148) (ci := 11) (f := 0) rfl rfl h0 rfl hF (fun s1 hF => ?_)
  refine Ev_p 6 (c' := (13, [some (.ref a0), some (.long x1), none, some (.int 0), some (.int 1), some (.int 0), none], [])) rfl ?_
  exact zf148_13_ok hK h0 hF

/-! The methods as functions, and that the machine goes so (printed by wip/gen/fgen.py). -/
set_option maxRecDepth 100000
set_option linter.unusedVariables false
-- PaperParcels$Elements.parse()I
abbrev zM40 : ev_M := (am_in nd_i40, am_fl nd_f5, am_ct nd_k5, am_sl nd_ml nd_s40, fun _ => none, some .int)
noncomputable def zf40_162 (a0 : Nat)  (x1 : Int32) (s : zS) : Option (Int32 × zS) :=
  if x1 = 0 then
    zgf s a0 11 fun v1 =>
    some (v1, s)
  else
    zgf s a0 6 fun v2 =>
    if v2 ≤ 0 then
      zgf s a0 11 fun v3 =>
      some (v3, s)
    else
      zgf s a0 12 fun v4 =>
      if ¬ v4 = (-1) then
        zgf s a0 11 fun v5 =>
        some (v5, s)
      else
        some ((-1), s)
theorem zf40_162_ok {K : cx_K} (hK : Kok K) {lg : Nat → Int64} {v : Int32} {s' : zS} {a0 : Nat} (h0 : zsh a0 = 5)   {x1 : Int32}  {s : zS} (hF : zf40_162 a0 x1 s = some (v, s')) : Ev K zM40 (162, [some (.ref a0), some (.int x1), none, none], [], zmk lg s) 0 (.inl (some (.int v))) (zmk lg s') 0 := by
  unfold zf40_162 at hF
  refine Ev_p 1 (c' := (163, [some (.ref a0), some (.int x1), none, none], [.int x1])) rfl ?_
  refine Ez_if (M := zM40) (b := x1 = 0) rfl rfl hF (fun _ hF => ?_) (fun _ hF => ?_)
  · refine Ev_p 1 (c' := (186, [some (.ref a0), some (.int x1), none, none], [.ref a0])) rfl ?_
    refine Ez_gf (M := zM40) (ci := 5) (f := 11) rfl rfl h0 rfl hF (fun v1 hF => ?_)
    refine Ev_p 0 (c' := (189, [some (.ref a0), some (.int x1), none, none], [.int v1])) rfl ?_
    exact Ez_ri (M := zM40) rfl rfl hF
  · refine Ev_p 1 (c' := (167, [some (.ref a0), some (.int x1), none, none], [.ref a0])) rfl ?_
    refine Ez_gf (M := zM40) (ci := 5) (f := 6) rfl rfl h0 rfl hF (fun v2 hF => ?_)
    refine Ev_p 0 (c' := (170, [some (.ref a0), some (.int x1), none, none], [.int v2])) rfl ?_
    refine Ez_if (M := zM40) (b := v2 ≤ 0) rfl rfl hF (fun _ hF => ?_) (fun _ hF => ?_)
    · refine Ev_p 1 (c' := (186, [some (.ref a0), some (.int x1), none, none], [.ref a0])) rfl ?_
      refine Ez_gf (M := zM40) (ci := 5) (f := 11) rfl rfl h0 rfl hF (fun v3 hF => ?_)
      refine Ev_p 0 (c' := (189, [some (.ref a0), some (.int x1), none, none], [.int v3])) rfl ?_
      exact Ez_ri (M := zM40) rfl rfl hF
    · refine Ev_p 1 (c' := (174, [some (.ref a0), some (.int x1), none, none], [.ref a0])) rfl ?_
      refine Ez_gf (M := zM40) (ci := 5) (f := 12) rfl rfl h0 rfl hF (fun v4 hF => ?_)
      refine Ev_p 1 (c' := (178, [some (.ref a0), some (.int x1), none, none], [.int (-1), .int v4])) rfl ?_
      refine Ez_if (M := zM40) (b := ¬ v4 = (-1)) rfl rfl hF (fun _ hF => ?_) (fun _ hF => ?_)
      · refine Ev_p 1 (c' := (186, [some (.ref a0), some (.int x1), none, none], [.ref a0])) rfl ?_
        refine Ez_gf (M := zM40) (ci := 5) (f := 11) rfl rfl h0 rfl hF (fun v5 hF => ?_)
        refine Ev_p 0 (c' := (189, [some (.ref a0), some (.int x1), none, none], [.int v5])) rfl ?_
        exact Ez_ri (M := zM40) rfl rfl hF
      · refine Ev_p 2 (c' := (189, [some (.ref a0), some (.int x1), none, none], [.int (-1)])) rfl ?_
        exact Ez_ri (M := zM40) rfl rfl hF
noncomputable def zf40_37 (a0 : Nat)  : Nat → Int32 → Int32 → zS → Option (Int32 × zS)
  | 0, _, _, _ => none
  | n + 1, x1, x2, s =>
    if 300 ≤ x2 then
      zf40_162 a0 x1 s
    else
      if x1 = 0 then
        zf40_162 a0 x1 s
      else
        zgf s a0 11 fun v1 =>
        zgf s (zrf a0 0) 1 fun v2 =>
        if v2 ≤ v1 then
          zf40_162 a0 x1 s
        else
          zgf s a0 11 fun v3 =>
          zbi (zf18 (zrf a0 0) v3 s) fun v4 s5 =>
          zgf s5 a0 12 fun v6 =>
          if ¬ v6 = (-1) then
            if ¬ v4 = 60 then
              zbi (zf51 a0 v4 s5) fun v7 s8 =>
              zf40_37 a0 n v7 (x2 + 1) s8
            else
              zgf s5 a0 11 fun v9 =>
              zbi (zf18 (zrf a0 0) (v9 + 1) s5) fun v10 s11 =>
              if ¬ v10 = 47 then
                zbi (zf42 a0 s11) fun v12 s13 =>
                zf40_37 a0 n v12 (x2 + 1) s13
              else
                zbi (zf50 a0 s11) fun v14 s15 =>
                zf40_37 a0 n v14 (x2 + 1) s15
          else
            zgf s5 a0 6 fun v16 =>
            if ¬ v16 = 0 then
              zf40_37 a0 n 0 (x2 + 1) s5
            else
              if ¬ v4 = 60 then
                zf40_37 a0 n 0 (x2 + 1) s5
              else
                zbi (zf42 a0 s5) fun v17 s18 =>
                if v17 = 0 then
                  zf40_37 a0 n 0 (x2 + 1) s18
                else
                  zf40_37 a0 n 1 (x2 + 1) s18
theorem zf40_37_ok {K : cx_K} (hK : Kok K) {lg : Nat → Int64} {v : Int32} {s' : zS} {a0 : Nat} (h0 : zsh a0 = 5)   {n : Nat} : ∀ {x1 : Int32} {x2 : Int32} {s : zS}, zf40_37 a0 n x1 x2 s = some (v, s') → Ev K zM40 (37, [some (.ref a0), some (.int x1), some (.int x2), none], [], zmk lg s) 0 (.inl (some (.int v))) (zmk lg s') 0 := by
  induction n with
  | zero => intro x1 x2 s hF; rw [zf40_37] at hF; cases hF
  | succ n ih =>
    intro x1 x2 s hF
    rw [zf40_37] at hF
    refine Ev_p 2 (c' := (41, [some (.ref a0), some (.int x1), some (.int x2), none], [.int 300, .int x2])) rfl ?_
    refine Ez_if (M := zM40) (b := 300 ≤ x2) rfl rfl hF (fun _ hF => ?_) (fun _ hF => ?_)
    · refine Ev_p 0 (c' := (162, [some (.ref a0), some (.int x1), some (.int x2), none], [])) rfl ?_
      refine Ev_w (L' := [some (.ref a0), some (.int x1), none, none]) (zle_c (zle_c (zle_n (zle_c zle_0)))) ?_
      exact zf40_162_ok hK h0 hF
    · refine Ev_p 1 (c' := (45, [some (.ref a0), some (.int x1), some (.int x2), none], [.int x1])) rfl ?_
      refine Ez_if (M := zM40) (b := x1 = 0) rfl rfl hF (fun _ hF => ?_) (fun _ hF => ?_)
      · refine Ev_p 0 (c' := (162, [some (.ref a0), some (.int x1), some (.int x2), none], [])) rfl ?_
        refine Ev_w (L' := [some (.ref a0), some (.int x1), none, none]) (zle_c (zle_c (zle_n (zle_c zle_0)))) ?_
        exact zf40_162_ok hK h0 hF
      · refine Ev_p 1 (c' := (49, [some (.ref a0), some (.int x1), some (.int x2), none], [.ref a0])) rfl ?_
        refine Ez_gf (M := zM40) (ci := 5) (f := 11) rfl rfl h0 rfl hF (fun v1 hF => ?_)
        refine Ev_p 1 (c' := (53, [some (.ref a0), some (.int x1), some (.int x2), none], [.ref a0, .int v1])) rfl ?_
        refine Ez_gr (M := zM40) (ci := 5) (f := 0) (t := 1) rfl rfl h0 rfl ?_
        refine Ev_p 0 (c' := (56, [some (.ref a0), some (.int x1), some (.int x2), none], [.ref (zrf a0 0), .int v1])) rfl ?_
        refine Ez_gf (M := zM40) (ci := 1) (f := 1) rfl rfl (zty (ci := 5) (f := 0) (t := 1) h0 rfl) rfl hF (fun v2 hF => ?_)
        refine Ev_p 0 (c' := (59, [some (.ref a0), some (.int x1), some (.int x2), none], [.int v2, .int v1])) rfl ?_
        refine Ez_if (M := zM40) (b := v2 ≤ v1) rfl rfl hF (fun _ hF => ?_) (fun _ hF => ?_)
        · refine Ev_p 0 (c' := (162, [some (.ref a0), some (.int x1), some (.int x2), none], [])) rfl ?_
          refine Ev_w (L' := [some (.ref a0), some (.int x1), none, none]) (zle_c (zle_c (zle_n (zle_c zle_0)))) ?_
          exact zf40_162_ok hK h0 hF
        · refine Ev_p 1 (c' := (63, [some (.ref a0), some (.int x1), some (.int x2), none], [.ref a0])) rfl ?_
          refine Ez_gr (M := zM40) (ci := 5) (f := 0) (t := 1) rfl rfl h0 rfl ?_
          refine Ev_p 1 (c' := (67, [some (.ref a0), some (.int x1), some (.int x2), none], [.ref a0, .ref (zrf a0 0)])) rfl ?_
          refine Ez_gf (M := zM40) (ci := 5) (f := 11) rfl rfl h0 rfl hF (fun v3 hF => ?_)
          refine Ev_p 0 (c' := (70, [some (.ref a0), some (.int x1), some (.int x2), none], [.int v3, .ref (zrf a0 0)])) rfl ?_
          refine Ez_ci (M := zM40) (As := [.ref (zrf a0 0), .int v3]) (st' := []) (am_site_v (y := 18) (k := 2) (ci := 1) rfl rfl (zrcv rfl (zty (ci := 5) (f := 0) (t := 1) h0 rfl) rfl)) (Nat.le_of_ble_eq_true rfl) (Nat.le_of_ble_eq_true rfl) rfl rfl (fun _ _ hF => zf18_ok hK (zty (ci := 5) (f := 0) (t := 1) h0 rfl) hF) hF (fun v4 s5 hF => ?_)
          refine Ev_p 2 (c' := (75, [some (.ref a0), some (.int x1), some (.int x2), some (.int v4)], [.ref a0])) rfl ?_
          refine Ez_gf (M := zM40) (ci := 5) (f := 12) rfl rfl h0 rfl hF (fun v6 hF => ?_)
          refine Ev_p 1 (c' := (79, [some (.ref a0), some (.int x1), some (.int x2), some (.int v4)], [.int (-1), .int v6])) rfl ?_
          refine Ez_if (M := zM40) (b := ¬ v6 = (-1)) rfl rfl hF (fun _ hF => ?_) (fun _ hF => ?_)
          · refine Ev_p 2 (c' := (114, [some (.ref a0), some (.int x1), some (.int x2), some (.int v4)], [.int 60, .int v4])) rfl ?_
            refine Ez_if (M := zM40) (b := ¬ v4 = 60) rfl rfl hF (fun _ hF => ?_) (fun _ hF => ?_)
            · refine Ev_p 2 (c' := (152, [some (.ref a0), some (.int x1), some (.int x2), some (.int v4)], [.int v4, .ref a0])) rfl ?_
              refine Ez_ci (M := zM40) (As := [.ref a0, .int v4]) (st' := []) (am_site_v (y := 51) (k := 2) (ci := 5) rfl rfl (zrcv rfl h0 rfl)) (Nat.le_of_ble_eq_true rfl) (Nat.le_of_ble_eq_true rfl) rfl rfl (fun _ _ hF => zf51_ok hK h0 hF) hF (fun v7 s8 hF => ?_)
              refine Ev_p 3 (c' := (37, [some (.ref a0), some (.int v7), some (.int (x2 + 1)), some (.int v4)], [])) rfl ?_
              refine Ev_w (L' := [some (.ref a0), some (.int v7), some (.int (x2 + 1)), none]) (zle_c (zle_c (zle_c (zle_n zle_0)))) ?_
              exact ih hF
            · refine Ev_p 1 (c' := (118, [some (.ref a0), some (.int x1), some (.int x2), some (.int v4)], [.ref a0])) rfl ?_
              refine Ez_gr (M := zM40) (ci := 5) (f := 0) (t := 1) rfl rfl h0 rfl ?_
              refine Ev_p 1 (c' := (122, [some (.ref a0), some (.int x1), some (.int x2), some (.int v4)], [.ref a0, .ref (zrf a0 0)])) rfl ?_
              refine Ez_gf (M := zM40) (ci := 5) (f := 11) rfl rfl h0 rfl hF (fun v9 hF => ?_)
              refine Ev_p 2 (c' := (127, [some (.ref a0), some (.int x1), some (.int x2), some (.int v4)], [.int (v9 + 1), .ref (zrf a0 0)])) rfl ?_
              refine Ez_ci (M := zM40) (As := [.ref (zrf a0 0), .int (v9 + 1)]) (st' := []) (am_site_v (y := 18) (k := 2) (ci := 1) rfl rfl (zrcv rfl (zty (ci := 5) (f := 0) (t := 1) h0 rfl) rfl)) (Nat.le_of_ble_eq_true rfl) (Nat.le_of_ble_eq_true rfl) rfl rfl (fun _ _ hF => zf18_ok hK (zty (ci := 5) (f := 0) (t := 1) h0 rfl) hF) hF (fun v10 s11 hF => ?_)
              refine Ev_p 1 (c' := (132, [some (.ref a0), some (.int x1), some (.int x2), some (.int v4)], [.int 47, .int v10])) rfl ?_
              refine Ez_if (M := zM40) (b := ¬ v10 = 47) rfl rfl hF (fun _ hF => ?_) (fun _ hF => ?_)
              · refine Ev_p 1 (c' := (143, [some (.ref a0), some (.int x1), some (.int x2), some (.int v4)], [.ref a0])) rfl ?_
                refine Ez_ci (M := zM40) (As := [.ref a0]) (st' := []) (am_site_v (y := 42) (k := 1) (ci := 5) rfl rfl (zrcv rfl h0 rfl)) (Nat.le_of_ble_eq_true rfl) (Nat.le_of_ble_eq_true rfl) rfl rfl (fun _ _ hF => zf42_ok hK h0 hF) hF (fun v12 s13 hF => ?_)
                refine Ev_p 4 (c' := (37, [some (.ref a0), some (.int v12), some (.int (x2 + 1)), some (.int v4)], [])) rfl ?_
                refine Ev_w (L' := [some (.ref a0), some (.int v12), some (.int (x2 + 1)), none]) (zle_c (zle_c (zle_c (zle_n zle_0)))) ?_
                exact ih hF
              · refine Ev_p 1 (c' := (136, [some (.ref a0), some (.int x1), some (.int x2), some (.int v4)], [.ref a0])) rfl ?_
                refine Ez_ci (M := zM40) (As := [.ref a0]) (st' := []) (am_site_v (y := 50) (k := 1) (ci := 5) rfl rfl (zrcv rfl h0 rfl)) (Nat.le_of_ble_eq_true rfl) (Nat.le_of_ble_eq_true rfl) rfl rfl (fun _ _ hF => zf50_ok hK h0 hF) hF (fun v14 s15 hF => ?_)
                refine Ev_p 5 (c' := (37, [some (.ref a0), some (.int v14), some (.int (x2 + 1)), some (.int v4)], [])) rfl ?_
                refine Ev_w (L' := [some (.ref a0), some (.int v14), some (.int (x2 + 1)), none]) (zle_c (zle_c (zle_c (zle_n zle_0)))) ?_
                exact ih hF
          · refine Ev_p 1 (c' := (83, [some (.ref a0), some (.int x1), some (.int x2), some (.int v4)], [.ref a0])) rfl ?_
            refine Ez_gf (M := zM40) (ci := 5) (f := 6) rfl rfl h0 rfl hF (fun v16 hF => ?_)
            refine Ev_p 0 (c' := (86, [some (.ref a0), some (.int x1), some (.int x2), some (.int v4)], [.int v16])) rfl ?_
            refine Ez_if (M := zM40) (b := ¬ v16 = 0) rfl rfl hF (fun _ hF => ?_) (fun _ hF => ?_)
            · refine Ev_p 5 (c' := (37, [some (.ref a0), some (.int 0), some (.int (x2 + 1)), some (.int v4)], [])) rfl ?_
              refine Ev_w (L' := [some (.ref a0), some (.int 0), some (.int (x2 + 1)), none]) (zle_c (zle_c (zle_c (zle_n zle_0)))) ?_
              exact ih hF
            · refine Ev_p 2 (c' := (92, [some (.ref a0), some (.int x1), some (.int x2), some (.int v4)], [.int 60, .int v4])) rfl ?_
              refine Ez_if (M := zM40) (b := ¬ v4 = 60) rfl rfl hF (fun _ hF => ?_) (fun _ hF => ?_)
              · refine Ev_p 5 (c' := (37, [some (.ref a0), some (.int 0), some (.int (x2 + 1)), some (.int v4)], [])) rfl ?_
                refine Ev_w (L' := [some (.ref a0), some (.int 0), some (.int (x2 + 1)), none]) (zle_c (zle_c (zle_c (zle_n zle_0)))) ?_
                exact ih hF
              · refine Ev_p 1 (c' := (96, [some (.ref a0), some (.int x1), some (.int x2), some (.int v4)], [.ref a0])) rfl ?_
                refine Ez_ci (M := zM40) (As := [.ref a0]) (st' := []) (am_site_v (y := 42) (k := 1) (ci := 5) rfl rfl (zrcv rfl h0 rfl)) (Nat.le_of_ble_eq_true rfl) (Nat.le_of_ble_eq_true rfl) rfl rfl (fun _ _ hF => zf42_ok hK h0 hF) hF (fun v17 s18 hF => ?_)
                refine Ev_p 0 (c' := (99, [some (.ref a0), some (.int x1), some (.int x2), some (.int v4)], [.int v17])) rfl ?_
                refine Ez_if (M := zM40) (b := v17 = 0) rfl rfl hF (fun _ hF => ?_) (fun _ hF => ?_)
                · refine Ev_p 5 (c' := (37, [some (.ref a0), some (.int 0), some (.int (x2 + 1)), some (.int v4)], [])) rfl ?_
                  refine Ev_w (L' := [some (.ref a0), some (.int 0), some (.int (x2 + 1)), none]) (zle_c (zle_c (zle_c (zle_n zle_0)))) ?_
                  exact ih hF
                · refine Ev_p 6 (c' := (37, [some (.ref a0), some (.int 1), some (.int (x2 + 1)), some (.int v4)], [])) rfl ?_
                  refine Ev_w (L' := [some (.ref a0), some (.int 1), some (.int (x2 + 1)), none]) (zle_c (zle_c (zle_c (zle_n zle_0)))) ?_
                  exact ih hF
noncomputable def zf40 (a0 : Nat) (s : zS) : Option (Int32 × zS) :=
  zpf s a0 6 0 fun s1 =>
  zpf s1 a0 9 0 fun s2 =>
  zpf s2 a0 11 0 fun s3 =>
  zpf s3 a0 12 (-1) fun s4 =>
  zpf s4 a0 13 0 fun s5 =>
  zbv (zf41 (zrf a0 10) (-1) s5) fun s7 =>
  zf40_37 a0 zfz 1 0 s7
theorem zf40_ok {K : cx_K} (hK : Kok K) {lg : Nat → Int64} {v : Int32} {s' : zS} {a0 : Nat} (h0 : zsh a0 = 5)  {s : zS} (hF : zf40 a0 s = some (v, s')) : Ct K 40 [.ref a0] (zmk lg s) (.inl (some (.int v))) (zmk lg s') 0 := by
  unfold zf40 at hF
  refine Ct_of hK nd_ok40 (mL := 4) (rt := some .int) rfl rfl (Nat.le_of_ble_eq_true rfl) zlen_le ?_
  refine Ev_p 2 (c' := (2, [some (.ref a0), none, none, none], [.int 0, .ref a0])) rfl ?_
  refine Ez_pf (M := zM40) (ci := 5) (f := 6) rfl rfl h0 rfl hF (fun s1 hF => ?_)
  refine Ev_p 2 (c' := (7, [some (.ref a0), none, none, none], [.int 0, .ref a0])) rfl ?_
  refine Ez_pf (M := zM40) (ci := 5) (f := 9) rfl rfl h0 rfl hF (fun s2 hF => ?_)
  refine Ev_p 2 (c' := (12, [some (.ref a0), none, none, none], [.int 0, .ref a0])) rfl ?_
  refine Ez_pf (M := zM40) (ci := 5) (f := 11) rfl rfl h0 rfl hF (fun s3 hF => ?_)
  refine Ev_p 2 (c' := (17, [some (.ref a0), none, none, none], [.int (-1), .ref a0])) rfl ?_
  refine Ez_pf (M := zM40) (ci := 5) (f := 12) rfl rfl h0 rfl hF (fun s4 hF => ?_)
  refine Ev_p 2 (c' := (22, [some (.ref a0), none, none, none], [.int 0, .ref a0])) rfl ?_
  refine Ez_pf (M := zM40) (ci := 5) (f := 13) rfl rfl h0 rfl hF (fun s5 hF => ?_)
  refine Ev_p 1 (c' := (26, [some (.ref a0), none, none, none], [.ref a0])) rfl ?_
  refine Ez_gr (M := zM40) (ci := 5) (f := 10) (t := 100) rfl rfl h0 rfl ?_
  refine Ev_p 1 (c' := (30, [some (.ref a0), none, none, none], [.int (-1), .ref (zrf a0 10)])) rfl ?_
  refine Ez_cv (M := zM40) (As := [.ref (zrf a0 10), .int (-1)]) (st' := []) (zsite_0 (y := 41) (k := 2) (ci := 99) rfl rfl) (Nat.le_of_ble_eq_true rfl) (Nat.le_of_ble_eq_true rfl) rfl rfl (fun _ hF => zf41_ok hK (zty (ci := 5) (f := 10) (t := 100) h0 rfl) hF) hF (fun s7 hF => ?_)
  refine Ev_p 4 (c' := (37, [some (.ref a0), some (.int 1), some (.int 0), none], [])) rfl ?_
  exact zf40_37_ok hK h0 hF
-- PaperParcels$Reader.inBody(I)I
abbrev zM52 : ev_M := (am_in nd_i52, am_fl nd_f3, am_ct nd_k3, am_sl nd_ml nd_s52, fun _ => none, some .int)
noncomputable def zf52 (x0 : Int32) (s : zS) : Option (Int32 × zS) :=
  if ¬ x0 = (-1) then
    some ((1000 + x0), s)
  else
    some ((-1), s)
theorem zf52_ok {K : cx_K} (hK : Kok K) {lg : Nat → Int64} {v : Int32} {s' : zS}   {x0 : Int32} {s : zS} (hF : zf52 x0 s = some (v, s')) : Ct K 52 [.int x0] (zmk lg s) (.inl (some (.int v))) (zmk lg s') 0 := by
  unfold zf52 at hF
  refine Ct_of hK nd_ok52 (mL := 1) (rt := some .int) rfl rfl (Nat.le_of_ble_eq_true rfl) zlen_le ?_
  refine Ev_p 2 (c' := (2, [some (.int x0)], [.int (-1), .int x0])) rfl ?_
  refine Ez_if (M := zM52) (b := ¬ x0 = (-1)) rfl rfl hF (fun _ hF => ?_) (fun _ hF => ?_)
  · refine Ev_p 3 (c' := (14, [some (.int x0)], [.int (1000 + x0)])) rfl ?_
    exact Ez_ri (M := zM52) rfl rfl hF
  · refine Ev_p 2 (c' := (14, [some (.int x0)], [.int (-1)])) rfl ?_
    exact Ez_ri (M := zM52) rfl rfl hF
-- PaperParcels$Rules.mayStandIn(II)Z
abbrev zM55 : ev_M := (am_in nd_i55, am_fl nd_f12, am_ct nd_k12, am_sl nd_ml nd_s55, fun _ => none, some .boolean)
noncomputable def zf55_72   (x0 : Int32) (s : zS) : Option (Int32 × zS) :=
  if x0 = 112 then
    zrb 1 s
  else
    if ¬ x0 = 108 then
      zrb 0 s
    else
      zrb 1 s
theorem zf55_72_ok {K : cx_K} (hK : Kok K) {lg : Nat → Int64} {v : Int32} {s' : zS}     {x0 : Int32}  {s : zS} (hF : zf55_72 x0 s = some (v, s')) : Ev K zM55 (72, [some (.int x0), none], [], zmk lg s) 0 (.inl (some (.int v))) (zmk lg s') 0 := by
  unfold zf55_72 at hF
  refine Ev_p 2 (c' := (75, [some (.int x0), none], [.int 112, .int x0])) rfl ?_
  refine Ez_if (M := zM55) (b := x0 = 112) rfl rfl hF (fun _ hF => ?_) (fun _ hF => ?_)
  · refine Ev_p 2 (c' := (89, [some (.int x0), none], [.int 1])) rfl ?_
    exact Ez_rb (M := zM55) rfl rfl hF
  · refine Ev_p 2 (c' := (81, [some (.int x0), none], [.int 108, .int x0])) rfl ?_
    refine Ez_if (M := zM55) (b := ¬ x0 = 108) rfl rfl hF (fun _ hF => ?_) (fun _ hF => ?_)
    · refine Ev_p 1 (c' := (89, [some (.int x0), none], [.int 0])) rfl ?_
      exact Ez_rb (M := zM55) rfl rfl hF
    · refine Ev_p 2 (c' := (89, [some (.int x0), none], [.int 1])) rfl ?_
      exact Ez_rb (M := zM55) rfl rfl hF
noncomputable def zf55_102   (x0 : Int32) (s : zS) : Option (Int32 × zS) :=
  if ¬ x0 = 120 then
    zrb 0 s
  else
    zrb 1 s
theorem zf55_102_ok {K : cx_K} (hK : Kok K) {lg : Nat → Int64} {v : Int32} {s' : zS}     {x0 : Int32}  {s : zS} (hF : zf55_102 x0 s = some (v, s')) : Ev K zM55 (102, [some (.int x0), none], [], zmk lg s) 0 (.inl (some (.int v))) (zmk lg s') 0 := by
  unfold zf55_102 at hF
  refine Ev_p 2 (c' := (105, [some (.int x0), none], [.int 120, .int x0])) rfl ?_
  refine Ez_if (M := zM55) (b := ¬ x0 = 120) rfl rfl hF (fun _ hF => ?_) (fun _ hF => ?_)
  · refine Ev_p 1 (c' := (113, [some (.int x0), none], [.int 0])) rfl ?_
    exact Ez_rb (M := zM55) rfl rfl hF
  · refine Ev_p 2 (c' := (113, [some (.int x0), none], [.int 1])) rfl ?_
    exact Ez_rb (M := zM55) rfl rfl hF
noncomputable def zf55 (x0 : Int32) (x1 : Int32) (s : zS) : Option (Int32 × zS) :=
  if x1 = 100 then
    zf55_72 x0 s
  else
  if x1 = 105 then
    zf55_72 x0 s
  else
  if x1 = 108 then
    if ¬ x0 = 105 then
      zrb 0 s
    else
      zrb 1 s
  else
  if x1 = 112 then
    zf55_102 x0 s
  else
  if x1 = 116 then
    if ¬ x0 = 115 then
      zrb 0 s
    else
      zrb 1 s
  else
  if x1 = 120 then
    zf55_102 x0 s
  else
  zrb 0 s
theorem zf55_ok {K : cx_K} (hK : Kok K) {lg : Nat → Int64} {v : Int32} {s' : zS}   {x0 : Int32} {x1 : Int32} {s : zS} (hF : zf55 x0 x1 s = some (v, s')) : Ct K 55 [.int x0, .int x1] (zmk lg s) (.inl (some (.int v))) (zmk lg s') 0 := by
  unfold zf55 at hF
  refine Ct_of hK nd_ok55 (mL := 2) (rt := some .boolean) rfl rfl (Nat.le_of_ble_eq_true rfl) zlen_le ?_
  refine Ev_p 1 (c' := (1, [some (.int x0), some (.int x1)], [.int x1])) rfl ?_
  refine Ez_if0 (b := x1 = 100) hF (fun hb hF => ?_) (fun hb100 hF => ?_)
  · refine Ev_p 1 (c' := (72, [some (.int x0), some (.int x1)], [])) (by rw [hb]; rfl) ?_
    refine Ev_p 0 (c' := (72, [some (.int x0), some (.int x1)], [])) rfl ?_
    refine Ev_w (L' := [some (.int x0), none]) (zle_c (zle_n zle_0)) ?_
    exact zf55_72_ok hK hF
  refine Ez_if0 (b := x1 = 105) hF (fun hb hF => ?_) (fun hb105 hF => ?_)
  · refine Ev_p 1 (c' := (72, [some (.int x0), some (.int x1)], [])) (by rw [hb]; rfl) ?_
    refine Ev_p 0 (c' := (72, [some (.int x0), some (.int x1)], [])) rfl ?_
    refine Ev_w (L' := [some (.int x0), none]) (zle_c (zle_n zle_0)) ?_
    exact zf55_72_ok hK hF
  refine Ez_if0 (b := x1 = 108) hF (fun hb hF => ?_) (fun hb108 hF => ?_)
  · refine Ev_p 1 (c' := (90, [some (.int x0), some (.int x1)], [])) (by rw [hb]; rfl) ?_
    refine Ev_p 2 (c' := (93, [some (.int x0), some (.int x1)], [.int 105, .int x0])) rfl ?_
    refine Ez_if (M := zM55) (b := ¬ x0 = 105) rfl rfl hF (fun _ hF => ?_) (fun _ hF => ?_)
    · refine Ev_p 1 (c' := (101, [some (.int x0), some (.int x1)], [.int 0])) rfl ?_
      exact Ez_rb (M := zM55) rfl rfl hF
    · refine Ev_p 2 (c' := (101, [some (.int x0), some (.int x1)], [.int 1])) rfl ?_
      exact Ez_rb (M := zM55) rfl rfl hF
  refine Ez_if0 (b := x1 = 112) hF (fun hb hF => ?_) (fun hb112 hF => ?_)
  · refine Ev_p 1 (c' := (102, [some (.int x0), some (.int x1)], [])) (by rw [hb]; rfl) ?_
    refine Ev_p 0 (c' := (102, [some (.int x0), some (.int x1)], [])) rfl ?_
    refine Ev_w (L' := [some (.int x0), none]) (zle_c (zle_n zle_0)) ?_
    exact zf55_102_ok hK hF
  refine Ez_if0 (b := x1 = 116) hF (fun hb hF => ?_) (fun hb116 hF => ?_)
  · refine Ev_p 1 (c' := (60, [some (.int x0), some (.int x1)], [])) (by rw [hb]; rfl) ?_
    refine Ev_p 2 (c' := (63, [some (.int x0), some (.int x1)], [.int 115, .int x0])) rfl ?_
    refine Ez_if (M := zM55) (b := ¬ x0 = 115) rfl rfl hF (fun _ hF => ?_) (fun _ hF => ?_)
    · refine Ev_p 1 (c' := (71, [some (.int x0), some (.int x1)], [.int 0])) rfl ?_
      exact Ez_rb (M := zM55) rfl rfl hF
    · refine Ev_p 2 (c' := (71, [some (.int x0), some (.int x1)], [.int 1])) rfl ?_
      exact Ez_rb (M := zM55) rfl rfl hF
  refine Ez_if0 (b := x1 = 120) hF (fun hb hF => ?_) (fun hb120 hF => ?_)
  · refine Ev_p 1 (c' := (102, [some (.int x0), some (.int x1)], [])) (by rw [hb]; rfl) ?_
    refine Ev_p 0 (c' := (102, [some (.int x0), some (.int x1)], [])) rfl ?_
    refine Ev_w (L' := [some (.int x0), none]) (zle_c (zle_n zle_0)) ?_
    exact zf55_102_ok hK hF
  refine Ez_sw (M := zM55) (t := 114) rfl rfl rfl rfl (List.forall_mem_cons.mpr ⟨zne hb100 rfl, (List.forall_mem_cons.mpr ⟨zne hb105 rfl, (List.forall_mem_cons.mpr ⟨zne hb108 rfl, (List.forall_mem_cons.mpr ⟨zne hb112 rfl, (List.forall_mem_cons.mpr ⟨zne hb116 rfl, (List.forall_mem_cons.mpr ⟨zne hb120 rfl, (fun _ h => nomatch h)⟩)⟩)⟩)⟩)⟩)⟩) ?_
  refine Ev_p 1 (c' := (115, [some (.int x0), some (.int x1)], [.int 0])) rfl ?_
  exact Ez_rb (M := zM55) rfl rfl hF
-- PaperParcels$Elements.valueSign(II)I
abbrev zM57 : ev_M := (am_in nd_i57, am_fl nd_f5, am_ct nd_k5, am_sl nd_ml nd_s57, fun _ => none, some .int)
noncomputable def zf57 (a0 : Nat) (x1 : Int32) (x2 : Int32) (s : zS) : Option (Int32 × zS) :=
  zal s (zrf a0 7) x1 fun v1 =>
  zbi (zf18 (zrf a0 0) ((v1 + 3) + x2) s) fun v2 s3 =>
  some (v2, s3)
theorem zf57_ok {K : cx_K} (hK : Kok K) {lg : Nat → Int64} {v : Int32} {s' : zS} {a0 : Nat} (h0 : zsh a0 = 5) {x1 : Int32} {x2 : Int32} {s : zS} (hF : zf57 a0 x1 x2 s = some (v, s')) : Ct K 57 [.ref a0, .int x1, .int x2] (zmk lg s) (.inl (some (.int v))) (zmk lg s') 0 := by
  unfold zf57 at hF
  refine Ct_of hK nd_ok57 (mL := 3) (rt := some .int) rfl rfl (Nat.le_of_ble_eq_true rfl) zlen_le ?_
  refine Ev_p 1 (c' := (1, [some (.ref a0), some (.int x1), some (.int x2)], [.ref a0])) rfl ?_
  refine Ez_gr (M := zM57) (ci := 5) (f := 0) (t := 1) rfl rfl h0 rfl ?_
  refine Ev_p 1 (c' := (5, [some (.ref a0), some (.int x1), some (.int x2)], [.ref a0, .ref (zrf a0 0)])) rfl ?_
  refine Ez_gr (M := zM57) (ci := 5) (f := 7) (t := 100) rfl rfl h0 rfl ?_
  refine Ev_p 1 (c' := (9, [some (.ref a0), some (.int x1), some (.int x2)], [.int x1, .ref (zrf a0 7), .ref (zrf a0 0)])) rfl ?_
  refine Ez_al (M := zM57) rfl (zty (ci := 5) (f := 7) (t := 100) h0 rfl) hF (fun v1 hF => ?_)
  refine Ev_p 4 (c' := (14, [some (.ref a0), some (.int x1), some (.int x2)], [.int ((v1 + 3) + x2), .ref (zrf a0 0)])) rfl ?_
  refine Ez_ci (M := zM57) (As := [.ref (zrf a0 0), .int ((v1 + 3) + x2)]) (st' := []) (am_site_v (y := 18) (k := 2) (ci := 1) rfl rfl (zrcv rfl (zty (ci := 5) (f := 0) (t := 1) h0 rfl) rfl)) (Nat.le_of_ble_eq_true rfl) (Nat.le_of_ble_eq_true rfl) rfl rfl (fun _ _ hF => zf18_ok hK (zty (ci := 5) (f := 0) (t := 1) h0 rfl) hF) hF (fun v2 s3 hF => ?_)
  refine Ev_p 0 (c' := (17, [some (.ref a0), some (.int x1), some (.int x2)], [.int v2])) rfl ?_
  exact Ez_ri (M := zM57) rfl rfl hF
-- PaperParcels$Rules.mayHave(LPaperParcels$Elements;II)Z
abbrev zM56 : ev_M := (am_in nd_i56, am_fl nd_f12, am_ct nd_k12, am_sl nd_ml nd_s56, fun _ => none, some .boolean)
noncomputable def zf56_51 (a0 : Nat)  (x3 : Int32) (x4 : Int32) (x5 : Int32) (s : zS) : Option (Int32 × zS) :=
  if ¬ x3 = 121 then
    zrb 0 s
  else
    if ¬ x4 = 1 then
      zrb 0 s
    else
      zbi (zf49 x5 s) fun v1 s2 =>
      if v1 = 0 then
        zrb 0 s2
      else
        zrb 1 s2
theorem zf56_51_ok {K : cx_K} (hK : Kok K) {lg : Nat → Int64} {v : Int32} {s' : zS} {a0 : Nat} (h0 : zsh a0 = 5)   {x3 : Int32} {x4 : Int32} {x5 : Int32}  {s : zS} (hF : zf56_51 a0 x3 x4 x5 s = some (v, s')) : Ev K zM56 (51, [some (.ref a0), none, none, some (.int x3), some (.int x4), some (.int x5)], [], zmk lg s) 0 (.inl (some (.int v))) (zmk lg s') 0 := by
  unfold zf56_51 at hF
  refine Ev_p 2 (c' := (54, [some (.ref a0), none, none, some (.int x3), some (.int x4), some (.int x5)], [.int 121, .int x3])) rfl ?_
  refine Ez_if (M := zM56) (b := ¬ x3 = 121) rfl rfl hF (fun _ hF => ?_) (fun _ hF => ?_)
  · refine Ev_p 1 (c' := (76, [some (.ref a0), none, none, some (.int x3), some (.int x4), some (.int x5)], [.int 0])) rfl ?_
    exact Ez_rb (M := zM56) rfl rfl hF
  · refine Ev_p 2 (c' := (60, [some (.ref a0), none, none, some (.int x3), some (.int x4), some (.int x5)], [.int 1, .int x4])) rfl ?_
    refine Ez_if (M := zM56) (b := ¬ x4 = 1) rfl rfl hF (fun _ hF => ?_) (fun _ hF => ?_)
    · refine Ev_p 1 (c' := (76, [some (.ref a0), none, none, some (.int x3), some (.int x4), some (.int x5)], [.int 0])) rfl ?_
      exact Ez_rb (M := zM56) rfl rfl hF
    · refine Ev_p 1 (c' := (65, [some (.ref a0), none, none, some (.int x3), some (.int x4), some (.int x5)], [.int x5])) rfl ?_
      refine Ez_ci (M := zM56) (As := [.int x5]) (st' := []) (zsite_3 (y := 49) (k := 1) (ci := 0) rfl rfl) (Nat.le_of_ble_eq_true rfl) (Nat.le_of_ble_eq_true rfl) rfl rfl (fun _ _ hF => zf49_ok hK  hF) hF (fun v1 s2 hF => ?_)
      refine Ev_p 0 (c' := (68, [some (.ref a0), none, none, some (.int x3), some (.int x4), some (.int x5)], [.int v1])) rfl ?_
      refine Ez_if (M := zM56) (b := v1 = 0) rfl rfl hF (fun _ hF => ?_) (fun _ hF => ?_)
      · refine Ev_p 1 (c' := (76, [some (.ref a0), none, none, some (.int x3), some (.int x4), some (.int x5)], [.int 0])) rfl ?_
        exact Ez_rb (M := zM56) rfl rfl hF
      · refine Ev_p 2 (c' := (76, [some (.ref a0), none, none, some (.int x3), some (.int x4), some (.int x5)], [.int 1])) rfl ?_
        exact Ez_rb (M := zM56) rfl rfl hF
noncomputable def zf56_136 (a0 : Nat)  (x4 : Int32) (x5 : Int32) (s : zS) : Option (Int32 × zS) :=
  if ¬ x4 = 1 then
    zrb 0 s
  else
    zbi (zf49 x5 s) fun v1 s2 =>
    if v1 = 0 then
      zrb 0 s2
    else
      zrb 1 s2
theorem zf56_136_ok {K : cx_K} (hK : Kok K) {lg : Nat → Int64} {v : Int32} {s' : zS} {a0 : Nat} (h0 : zsh a0 = 5)   {x4 : Int32} {x5 : Int32}  {s : zS} (hF : zf56_136 a0 x4 x5 s = some (v, s')) : Ev K zM56 (136, [some (.ref a0), none, none, none, some (.int x4), some (.int x5)], [], zmk lg s) 0 (.inl (some (.int v))) (zmk lg s') 0 := by
  unfold zf56_136 at hF
  refine Ev_p 2 (c' := (139, [some (.ref a0), none, none, none, some (.int x4), some (.int x5)], [.int 1, .int x4])) rfl ?_
  refine Ez_if (M := zM56) (b := ¬ x4 = 1) rfl rfl hF (fun _ hF => ?_) (fun _ hF => ?_)
  · refine Ev_p 1 (c' := (155, [some (.ref a0), none, none, none, some (.int x4), some (.int x5)], [.int 0])) rfl ?_
    exact Ez_rb (M := zM56) rfl rfl hF
  · refine Ev_p 1 (c' := (144, [some (.ref a0), none, none, none, some (.int x4), some (.int x5)], [.int x5])) rfl ?_
    refine Ez_ci (M := zM56) (As := [.int x5]) (st' := []) (zsite_3 (y := 49) (k := 1) (ci := 0) rfl rfl) (Nat.le_of_ble_eq_true rfl) (Nat.le_of_ble_eq_true rfl) rfl rfl (fun _ _ hF => zf49_ok hK  hF) hF (fun v1 s2 hF => ?_)
    refine Ev_p 0 (c' := (147, [some (.ref a0), none, none, none, some (.int x4), some (.int x5)], [.int v1])) rfl ?_
    refine Ez_if (M := zM56) (b := v1 = 0) rfl rfl hF (fun _ hF => ?_) (fun _ hF => ?_)
    · refine Ev_p 1 (c' := (155, [some (.ref a0), none, none, none, some (.int x4), some (.int x5)], [.int 0])) rfl ?_
      exact Ez_rb (M := zM56) rfl rfl hF
    · refine Ev_p 2 (c' := (155, [some (.ref a0), none, none, none, some (.int x4), some (.int x5)], [.int 1])) rfl ?_
      exact Ez_rb (M := zM56) rfl rfl hF
noncomputable def zf56_37 (a0 : Nat)  (x1 : Int32) (x2 : Int32) (x3 : Int32) (x4 : Int32) (t0 : Int32) (s : zS) : Option (Int32 × zS) :=
  if x1 = 112 then
    zf56_51 a0 x3 x4 t0 s
  else
    if ¬ x1 = 120 then
      if x1 = 115 then
        if x3 = 98 then
          if ¬ x4 = 1 then
            zrb 0 s
          else
            if t0 = 48 then
              zrb 1 s
            else
              if ¬ t0 = 49 then
                zrb 0 s
              else
                zrb 1 s
        else
        if x3 = 102 then
          zf56_136 a0 x4 t0 s
        else
        if x3 = 107 then
          if ¬ x4 = 1 then
            zrb 0 s
          else
            zbi (zf29 t0 s) fun v1 s2 =>
            if v1 = 0 then
              zrb 0 s2
            else
              zrb 1 s2
        else
        if x3 = 110 then
          zf56_136 a0 x4 t0 s
        else
        if x3 = 122 then
          zbi (zf29 t0 s) fun v3 s4 =>
          if v3 = 0 then
            zrb 0 s4
          else
            if t0 = 48 then
              zrb 0 s4
            else
              if x4 = 1 then
                zrb 1 s4
              else
                if ¬ x4 = 2 then
                  zrb 0 s4
                else
                  zbi (zf57 a0 x2 1 s4) fun v5 s6 =>
                  zbi (zf29 v5 s6) fun v7 s8 =>
                  if v7 = 0 then
                    zrb 0 s8
                  else
                    zrb 1 s8
        else
        zrb 0 s
      else
        zrb 0 s
    else
      zf56_51 a0 x3 x4 t0 s
theorem zf56_37_ok {K : cx_K} (hK : Kok K) {lg : Nat → Int64} {v : Int32} {s' : zS} {a0 : Nat} (h0 : zsh a0 = 5)   {x1 : Int32} {x2 : Int32} {x3 : Int32} {x4 : Int32} {t0 : Int32}  {s : zS} (hF : zf56_37 a0 x1 x2 x3 x4 t0 s = some (v, s')) : Ev K zM56 (37, [some (.ref a0), some (.int x1), some (.int x2), some (.int x3), some (.int x4), none], [.int t0], zmk lg s) 0 (.inl (some (.int v))) (zmk lg s') 0 := by
  unfold zf56_37 at hF
  refine Ev_p 3 (c' := (42, [some (.ref a0), some (.int x1), some (.int x2), some (.int x3), some (.int x4), some (.int t0)], [.int 112, .int x1])) rfl ?_
  refine Ez_if (M := zM56) (b := x1 = 112) rfl rfl hF (fun _ hF => ?_) (fun _ hF => ?_)
  · refine Ev_p 0 (c' := (51, [some (.ref a0), some (.int x1), some (.int x2), some (.int x3), some (.int x4), some (.int t0)], [])) rfl ?_
    refine Ev_w (L' := [some (.ref a0), none, none, some (.int x3), some (.int x4), some (.int t0)]) (zle_c (zle_n (zle_n (zle_c (zle_c (zle_c zle_0)))))) ?_
    exact zf56_51_ok hK h0 hF
  · refine Ev_p 2 (c' := (48, [some (.ref a0), some (.int x1), some (.int x2), some (.int x3), some (.int x4), some (.int t0)], [.int 120, .int x1])) rfl ?_
    refine Ez_if (M := zM56) (b := ¬ x1 = 120) rfl rfl hF (fun _ hF => ?_) (fun _ hF => ?_)
    · refine Ev_p 2 (c' := (80, [some (.ref a0), some (.int x1), some (.int x2), some (.int x3), some (.int x4), some (.int t0)], [.int 115, .int x1])) rfl ?_
      refine Ez_if (M := zM56) (b := x1 = 115) rfl rfl hF (fun _ hF => ?_) (fun _ hF => ?_)
      · refine Ev_p 1 (c' := (86, [some (.ref a0), some (.int x1), some (.int x2), some (.int x3), some (.int x4), some (.int t0)], [.int x3])) rfl ?_
        refine Ez_if0 (b := x3 = 98) hF (fun hb hF => ?_) (fun hb98 hF => ?_)
        · refine Ev_p 1 (c' := (156, [some (.ref a0), some (.int x1), some (.int x2), some (.int x3), some (.int x4), some (.int t0)], [])) (by rw [hb]; rfl) ?_
          refine Ev_p 2 (c' := (159, [some (.ref a0), some (.int x1), some (.int x2), some (.int x3), some (.int x4), some (.int t0)], [.int 1, .int x4])) rfl ?_
          refine Ez_if (M := zM56) (b := ¬ x4 = 1) rfl rfl hF (fun _ hF => ?_) (fun _ hF => ?_)
          · refine Ev_p 1 (c' := (181, [some (.ref a0), some (.int x1), some (.int x2), some (.int x3), some (.int x4), some (.int t0)], [.int 0])) rfl ?_
            exact Ez_rb (M := zM56) rfl rfl hF
          · refine Ev_p 2 (c' := (166, [some (.ref a0), some (.int x1), some (.int x2), some (.int x3), some (.int x4), some (.int t0)], [.int 48, .int t0])) rfl ?_
            refine Ez_if (M := zM56) (b := t0 = 48) rfl rfl hF (fun _ hF => ?_) (fun _ hF => ?_)
            · refine Ev_p 2 (c' := (181, [some (.ref a0), some (.int x1), some (.int x2), some (.int x3), some (.int x4), some (.int t0)], [.int 1])) rfl ?_
              exact Ez_rb (M := zM56) rfl rfl hF
            · refine Ev_p 2 (c' := (173, [some (.ref a0), some (.int x1), some (.int x2), some (.int x3), some (.int x4), some (.int t0)], [.int 49, .int t0])) rfl ?_
              refine Ez_if (M := zM56) (b := ¬ t0 = 49) rfl rfl hF (fun _ hF => ?_) (fun _ hF => ?_)
              · refine Ev_p 1 (c' := (181, [some (.ref a0), some (.int x1), some (.int x2), some (.int x3), some (.int x4), some (.int t0)], [.int 0])) rfl ?_
                exact Ez_rb (M := zM56) rfl rfl hF
              · refine Ev_p 2 (c' := (181, [some (.ref a0), some (.int x1), some (.int x2), some (.int x3), some (.int x4), some (.int t0)], [.int 1])) rfl ?_
                exact Ez_rb (M := zM56) rfl rfl hF
        refine Ez_if0 (b := x3 = 102) hF (fun hb hF => ?_) (fun hb102 hF => ?_)
        · refine Ev_p 1 (c' := (136, [some (.ref a0), some (.int x1), some (.int x2), some (.int x3), some (.int x4), some (.int t0)], [])) (by rw [hb]; rfl) ?_
          refine Ev_p 0 (c' := (136, [some (.ref a0), some (.int x1), some (.int x2), some (.int x3), some (.int x4), some (.int t0)], [])) rfl ?_
          refine Ev_w (L' := [some (.ref a0), none, none, none, some (.int x4), some (.int t0)]) (zle_c (zle_n (zle_n (zle_n (zle_c (zle_c zle_0)))))) ?_
          exact zf56_136_ok hK h0 hF
        refine Ez_if0 (b := x3 = 107) hF (fun hb hF => ?_) (fun hb107 hF => ?_)
        · refine Ev_p 1 (c' := (227, [some (.ref a0), some (.int x1), some (.int x2), some (.int x3), some (.int x4), some (.int t0)], [])) (by rw [hb]; rfl) ?_
          refine Ev_p 2 (c' := (230, [some (.ref a0), some (.int x1), some (.int x2), some (.int x3), some (.int x4), some (.int t0)], [.int 1, .int x4])) rfl ?_
          refine Ez_if (M := zM56) (b := ¬ x4 = 1) rfl rfl hF (fun _ hF => ?_) (fun _ hF => ?_)
          · refine Ev_p 1 (c' := (246, [some (.ref a0), some (.int x1), some (.int x2), some (.int x3), some (.int x4), some (.int t0)], [.int 0])) rfl ?_
            exact Ez_rb (M := zM56) rfl rfl hF
          · refine Ev_p 1 (c' := (235, [some (.ref a0), some (.int x1), some (.int x2), some (.int x3), some (.int x4), some (.int t0)], [.int t0])) rfl ?_
            refine Ez_ci (M := zM56) (As := [.int t0]) (st' := []) (zsite_3 (y := 29) (k := 1) (ci := 0) rfl rfl) (Nat.le_of_ble_eq_true rfl) (Nat.le_of_ble_eq_true rfl) rfl rfl (fun _ _ hF => zf29_ok hK  hF) hF (fun v1 s2 hF => ?_)
            refine Ev_p 0 (c' := (238, [some (.ref a0), some (.int x1), some (.int x2), some (.int x3), some (.int x4), some (.int t0)], [.int v1])) rfl ?_
            refine Ez_if (M := zM56) (b := v1 = 0) rfl rfl hF (fun _ hF => ?_) (fun _ hF => ?_)
            · refine Ev_p 1 (c' := (246, [some (.ref a0), some (.int x1), some (.int x2), some (.int x3), some (.int x4), some (.int t0)], [.int 0])) rfl ?_
              exact Ez_rb (M := zM56) rfl rfl hF
            · refine Ev_p 2 (c' := (246, [some (.ref a0), some (.int x1), some (.int x2), some (.int x3), some (.int x4), some (.int t0)], [.int 1])) rfl ?_
              exact Ez_rb (M := zM56) rfl rfl hF
        refine Ez_if0 (b := x3 = 110) hF (fun hb hF => ?_) (fun hb110 hF => ?_)
        · refine Ev_p 1 (c' := (136, [some (.ref a0), some (.int x1), some (.int x2), some (.int x3), some (.int x4), some (.int t0)], [])) (by rw [hb]; rfl) ?_
          refine Ev_p 0 (c' := (136, [some (.ref a0), some (.int x1), some (.int x2), some (.int x3), some (.int x4), some (.int t0)], [])) rfl ?_
          refine Ev_w (L' := [some (.ref a0), none, none, none, some (.int x4), some (.int t0)]) (zle_c (zle_n (zle_n (zle_n (zle_c (zle_c zle_0)))))) ?_
          exact zf56_136_ok hK h0 hF
        refine Ez_if0 (b := x3 = 122) hF (fun hb hF => ?_) (fun hb122 hF => ?_)
        · refine Ev_p 1 (c' := (182, [some (.ref a0), some (.int x1), some (.int x2), some (.int x3), some (.int x4), some (.int t0)], [])) (by rw [hb]; rfl) ?_
          refine Ev_p 1 (c' := (184, [some (.ref a0), some (.int x1), some (.int x2), some (.int x3), some (.int x4), some (.int t0)], [.int t0])) rfl ?_
          refine Ez_ci (M := zM56) (As := [.int t0]) (st' := []) (zsite_3 (y := 29) (k := 1) (ci := 0) rfl rfl) (Nat.le_of_ble_eq_true rfl) (Nat.le_of_ble_eq_true rfl) rfl rfl (fun _ _ hF => zf29_ok hK  hF) hF (fun v3 s4 hF => ?_)
          refine Ev_p 0 (c' := (187, [some (.ref a0), some (.int x1), some (.int x2), some (.int x3), some (.int x4), some (.int t0)], [.int v3])) rfl ?_
          refine Ez_if (M := zM56) (b := v3 = 0) rfl rfl hF (fun _ hF => ?_) (fun _ hF => ?_)
          · refine Ev_p 1 (c' := (226, [some (.ref a0), some (.int x1), some (.int x2), some (.int x3), some (.int x4), some (.int t0)], [.int 0])) rfl ?_
            exact Ez_rb (M := zM56) rfl rfl hF
          · refine Ev_p 2 (c' := (194, [some (.ref a0), some (.int x1), some (.int x2), some (.int x3), some (.int x4), some (.int t0)], [.int 48, .int t0])) rfl ?_
            refine Ez_if (M := zM56) (b := t0 = 48) rfl rfl hF (fun _ hF => ?_) (fun _ hF => ?_)
            · refine Ev_p 1 (c' := (226, [some (.ref a0), some (.int x1), some (.int x2), some (.int x3), some (.int x4), some (.int t0)], [.int 0])) rfl ?_
              exact Ez_rb (M := zM56) rfl rfl hF
            · refine Ev_p 2 (c' := (200, [some (.ref a0), some (.int x1), some (.int x2), some (.int x3), some (.int x4), some (.int t0)], [.int 1, .int x4])) rfl ?_
              refine Ez_if (M := zM56) (b := x4 = 1) rfl rfl hF (fun _ hF => ?_) (fun _ hF => ?_)
              · refine Ev_p 2 (c' := (226, [some (.ref a0), some (.int x1), some (.int x2), some (.int x3), some (.int x4), some (.int t0)], [.int 1])) rfl ?_
                exact Ez_rb (M := zM56) rfl rfl hF
              · refine Ev_p 2 (c' := (206, [some (.ref a0), some (.int x1), some (.int x2), some (.int x3), some (.int x4), some (.int t0)], [.int 2, .int x4])) rfl ?_
                refine Ez_if (M := zM56) (b := ¬ x4 = 2) rfl rfl hF (fun _ hF => ?_) (fun _ hF => ?_)
                · refine Ev_p 1 (c' := (226, [some (.ref a0), some (.int x1), some (.int x2), some (.int x3), some (.int x4), some (.int t0)], [.int 0])) rfl ?_
                  exact Ez_rb (M := zM56) rfl rfl hF
                · refine Ev_p 3 (c' := (212, [some (.ref a0), some (.int x1), some (.int x2), some (.int x3), some (.int x4), some (.int t0)], [.int 1, .int x2, .ref a0])) rfl ?_
                  refine Ez_ci (M := zM56) (As := [.ref a0, .int x2, .int 1]) (st' := []) (am_site_v (y := 57) (k := 3) (ci := 5) rfl rfl (zrcv rfl h0 rfl)) (Nat.le_of_ble_eq_true rfl) (Nat.le_of_ble_eq_true rfl) rfl rfl (fun _ _ hF => zf57_ok hK h0 hF) hF (fun v5 s6 hF => ?_)
                  refine Ev_p 0 (c' := (215, [some (.ref a0), some (.int x1), some (.int x2), some (.int x3), some (.int x4), some (.int t0)], [.int v5])) rfl ?_
                  refine Ez_ci (M := zM56) (As := [.int v5]) (st' := []) (zsite_3 (y := 29) (k := 1) (ci := 0) rfl rfl) (Nat.le_of_ble_eq_true rfl) (Nat.le_of_ble_eq_true rfl) rfl rfl (fun _ _ hF => zf29_ok hK  hF) hF (fun v7 s8 hF => ?_)
                  refine Ev_p 0 (c' := (218, [some (.ref a0), some (.int x1), some (.int x2), some (.int x3), some (.int x4), some (.int t0)], [.int v7])) rfl ?_
                  refine Ez_if (M := zM56) (b := v7 = 0) rfl rfl hF (fun _ hF => ?_) (fun _ hF => ?_)
                  · refine Ev_p 1 (c' := (226, [some (.ref a0), some (.int x1), some (.int x2), some (.int x3), some (.int x4), some (.int t0)], [.int 0])) rfl ?_
                    exact Ez_rb (M := zM56) rfl rfl hF
                  · refine Ev_p 2 (c' := (226, [some (.ref a0), some (.int x1), some (.int x2), some (.int x3), some (.int x4), some (.int t0)], [.int 1])) rfl ?_
                    exact Ez_rb (M := zM56) rfl rfl hF
        refine Ez_sw (M := zM56) (t := 247) rfl rfl rfl rfl (List.forall_mem_cons.mpr ⟨zne hb98 rfl, (List.forall_mem_cons.mpr ⟨zne hb102 rfl, (List.forall_mem_cons.mpr ⟨zne hb107 rfl, (List.forall_mem_cons.mpr ⟨zne hb110 rfl, (List.forall_mem_cons.mpr ⟨zne hb122 rfl, (fun _ h => nomatch h)⟩)⟩)⟩)⟩)⟩) ?_
        refine Ev_p 1 (c' := (248, [some (.ref a0), some (.int x1), some (.int x2), some (.int x3), some (.int x4), some (.int t0)], [.int 0])) rfl ?_
        exact Ez_rb (M := zM56) rfl rfl hF
      · refine Ev_p 1 (c' := (84, [some (.ref a0), some (.int x1), some (.int x2), some (.int x3), some (.int x4), some (.int t0)], [.int 0])) rfl ?_
        exact Ez_rb (M := zM56) rfl rfl hF
    · refine Ev_p 0 (c' := (51, [some (.ref a0), some (.int x1), some (.int x2), some (.int x3), some (.int x4), some (.int t0)], [])) rfl ?_
      refine Ev_w (L' := [some (.ref a0), none, none, some (.int x3), some (.int x4), some (.int t0)]) (zle_c (zle_n (zle_n (zle_c (zle_c (zle_c zle_0)))))) ?_
      exact zf56_51_ok hK h0 hF
noncomputable def zf56 (a0 : Nat) (x1 : Int32) (x2 : Int32) (s : zS) : Option (Int32 × zS) :=
  zal s (zrf a0 7) x2 fun v1 =>
  zbi (zf18 (zrf a0 0) v1 s) fun v2 s3 =>
  zal s3 (zrf a0 8) x2 fun v4 =>
  if ¬ v4 = 0 then
    zbi (zf57 a0 x2 0 s3) fun v5 s6 =>
    zf56_37 a0 x1 x2 v2 v4 v5 s6
  else
    zf56_37 a0 x1 x2 v2 v4 (-1) s3
theorem zf56_ok {K : cx_K} (hK : Kok K) {lg : Nat → Int64} {v : Int32} {s' : zS} {a0 : Nat} (h0 : zsh a0 = 5) {x1 : Int32} {x2 : Int32} {s : zS} (hF : zf56 a0 x1 x2 s = some (v, s')) : Ct K 56 [.ref a0, .int x1, .int x2] (zmk lg s) (.inl (some (.int v))) (zmk lg s') 0 := by
  unfold zf56 at hF
  refine Ct_of hK nd_ok56 (mL := 6) (rt := some .boolean) rfl rfl (Nat.le_of_ble_eq_true rfl) zlen_le ?_
  refine Ev_p 1 (c' := (1, [some (.ref a0), some (.int x1), some (.int x2), none, none, none], [.ref a0])) rfl ?_
  refine Ez_gr (M := zM56) (ci := 5) (f := 0) (t := 1) rfl rfl h0 rfl ?_
  refine Ev_p 1 (c' := (5, [some (.ref a0), some (.int x1), some (.int x2), none, none, none], [.ref a0, .ref (zrf a0 0)])) rfl ?_
  refine Ez_gr (M := zM56) (ci := 5) (f := 7) (t := 100) rfl rfl h0 rfl ?_
  refine Ev_p 1 (c' := (9, [some (.ref a0), some (.int x1), some (.int x2), none, none, none], [.int x2, .ref (zrf a0 7), .ref (zrf a0 0)])) rfl ?_
  refine Ez_al (M := zM56) rfl (zty (ci := 5) (f := 7) (t := 100) h0 rfl) hF (fun v1 hF => ?_)
  refine Ev_p 0 (c' := (10, [some (.ref a0), some (.int x1), some (.int x2), none, none, none], [.int v1, .ref (zrf a0 0)])) rfl ?_
  refine Ez_ci (M := zM56) (As := [.ref (zrf a0 0), .int v1]) (st' := []) (am_site_v (y := 18) (k := 2) (ci := 1) rfl rfl (zrcv rfl (zty (ci := 5) (f := 0) (t := 1) h0 rfl) rfl)) (Nat.le_of_ble_eq_true rfl) (Nat.le_of_ble_eq_true rfl) rfl rfl (fun _ _ hF => zf18_ok hK (zty (ci := 5) (f := 0) (t := 1) h0 rfl) hF) hF (fun v2 s3 hF => ?_)
  refine Ev_p 2 (c' := (15, [some (.ref a0), some (.int x1), some (.int x2), some (.int v2), none, none], [.ref a0])) rfl ?_
  refine Ez_gr (M := zM56) (ci := 5) (f := 8) (t := 100) rfl rfl h0 rfl ?_
  refine Ev_p 1 (c' := (19, [some (.ref a0), some (.int x1), some (.int x2), some (.int v2), none, none], [.int x2, .ref (zrf a0 8)])) rfl ?_
  refine Ez_al (M := zM56) rfl (zty (ci := 5) (f := 8) (t := 100) h0 rfl) hF (fun v4 hF => ?_)
  refine Ev_p 2 (c' := (24, [some (.ref a0), some (.int x1), some (.int x2), some (.int v2), some (.int v4), none], [.int v4])) rfl ?_
  refine Ez_if (M := zM56) (b := ¬ v4 = 0) rfl rfl hF (fun _ hF => ?_) (fun _ hF => ?_)
  · refine Ev_p 3 (c' := (34, [some (.ref a0), some (.int x1), some (.int x2), some (.int v2), some (.int v4), none], [.int 0, .int x2, .ref a0])) rfl ?_
    refine Ez_ci (M := zM56) (As := [.ref a0, .int x2, .int 0]) (st' := []) (am_site_v (y := 57) (k := 3) (ci := 5) rfl rfl (zrcv rfl h0 rfl)) (Nat.le_of_ble_eq_true rfl) (Nat.le_of_ble_eq_true rfl) rfl rfl (fun _ _ hF => zf57_ok hK h0 hF) hF (fun v5 s6 hF => ?_)
    refine Ev_p 0 (c' := (37, [some (.ref a0), some (.int x1), some (.int x2), some (.int v2), some (.int v4), none], [.int v5])) rfl ?_
    exact zf56_37_ok hK h0 hF
  · refine Ev_p 2 (c' := (37, [some (.ref a0), some (.int x1), some (.int x2), some (.int v2), some (.int v4), none], [.int (-1)])) rfl ?_
    exact zf56_37_ok hK h0 hF

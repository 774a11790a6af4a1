/-! The methods as functions, and that the machine goes so (printed by wip/gen/fgen.py). -/
set_option maxRecDepth 100000
set_option linter.unusedVariables false
-- PaperParcelsModel.scan(I)I
abbrev zM164 : ev_M := (am_in nd_i164, am_fl nd_f11, am_ct nd_k11, am_sl nd_ml nd_s164, fun _ => none, some .int)
noncomputable def zf164_202 (a0 : Nat)  (x1 : Int32) (s : zS) : Option (Int32 × zS) :=
  zgf s a0 17 fun v1 =>
  if v1 = 0 then
    zgf s a0 16 fun v2 =>
    some (v2, s)
  else
    zgf s a0 16 fun v3 =>
    zal s (zrf a0 8) x1 fun v4 =>
    if ¬ v3 = v4 then
      zgf s a0 16 fun v5 =>
      some (v5, s)
    else
      some ((-1), s)
theorem zf164_202_ok {K : cx_K} (hK : Kok K) {lg : Nat → Int64} {v : Int32} {s' : zS} {a0 : Nat} (h0 : zsh a0 = 11)   {x1 : Int32}  {s : zS} (hF : zf164_202 a0 x1 s = some (v, s')) : Ev K zM164 (202, [some (.ref a0), some (.int x1), none], [], zmk lg s) 0 (.inl (some (.int v))) (zmk lg s') 0 := by
  unfold zf164_202 at hF
  refine Ev_p 1 (c' := (203, [some (.ref a0), some (.int x1), none], [.ref a0])) rfl ?_
  refine Ez_gf (M := zM164) (ci := 11) (f := 17) rfl rfl h0 rfl hF (fun v1 hF => ?_)
  refine Ev_p 0 (c' := (206, [some (.ref a0), some (.int x1), none], [.int v1])) rfl ?_
  refine Ez_if (M := zM164) (b := v1 = 0) rfl rfl hF (fun _ hF => ?_) (fun _ hF => ?_)
  · refine Ev_p 1 (c' := (227, [some (.ref a0), some (.int x1), none], [.ref a0])) rfl ?_
    refine Ez_gf (M := zM164) (ci := 11) (f := 16) rfl rfl h0 rfl hF (fun v2 hF => ?_)
    refine Ev_p 0 (c' := (230, [some (.ref a0), some (.int x1), none], [.int v2])) rfl ?_
    exact Ez_ri (M := zM164) rfl rfl hF
  · refine Ev_p 1 (c' := (210, [some (.ref a0), some (.int x1), none], [.ref a0])) rfl ?_
    refine Ez_gf (M := zM164) (ci := 11) (f := 16) rfl rfl h0 rfl hF (fun v3 hF => ?_)
    refine Ev_p 1 (c' := (214, [some (.ref a0), some (.int x1), none], [.ref a0, .int v3])) rfl ?_
    refine Ez_gr (M := zM164) (ci := 11) (f := 8) (t := 100) rfl rfl h0 rfl ?_
    refine Ev_p 1 (c' := (218, [some (.ref a0), some (.int x1), none], [.int x1, .ref (zrf a0 8), .int v3])) rfl ?_
    refine Ez_al (M := zM164) rfl (zty (ci := 11) (f := 8) (t := 100) h0 rfl) hF (fun v4 hF => ?_)
    refine Ev_p 0 (c' := (219, [some (.ref a0), some (.int x1), none], [.int v4, .int v3])) rfl ?_
    refine Ez_if (M := zM164) (b := ¬ v3 = v4) rfl rfl hF (fun _ hF => ?_) (fun _ hF => ?_)
    · refine Ev_p 1 (c' := (227, [some (.ref a0), some (.int x1), none], [.ref a0])) rfl ?_
      refine Ez_gf (M := zM164) (ci := 11) (f := 16) rfl rfl h0 rfl hF (fun v5 hF => ?_)
      refine Ev_p 0 (c' := (230, [some (.ref a0), some (.int x1), none], [.int v5])) rfl ?_
      exact Ez_ri (M := zM164) rfl rfl hF
    · refine Ev_p 2 (c' := (230, [some (.ref a0), some (.int x1), none], [.int (-1)])) rfl ?_
      exact Ez_ri (M := zM164) rfl rfl hF
noncomputable def zf164_188 (a0 : Nat) (k50 : Int32 → zS → Option (Int32 × zS)) (x1 : Int32) (s : zS) : Option (Int32 × zS) :=
  zgf s a0 17 fun v1 =>
  if v1 = 0 then
    zf164_202 a0 x1 s
  else
    zgf s a0 15 fun v2 =>
    if 0 < v2 then
      k50 x1 s
    else
      zf164_202 a0 x1 s
theorem zf164_188_ok {K : cx_K} (hK : Kok K) {lg : Nat → Int64} {v : Int32} {s' : zS} {a0 : Nat} (h0 : zsh a0 = 11) {k50 : Int32 → zS → Option (Int32 × zS)} (hk50 : ∀ x1 s, k50 x1 s = some (v, s') → Ev K zM164 (50, [some (.ref a0), some (.int x1), none], [], zmk lg s) 0 (.inl (some (.int v))) (zmk lg s') 0) {x1 : Int32}  {s : zS} (hF : zf164_188 a0 k50 x1 s = some (v, s')) : Ev K zM164 (188, [some (.ref a0), some (.int x1), none], [], zmk lg s) 0 (.inl (some (.int v))) (zmk lg s') 0 := by
  unfold zf164_188 at hF
  refine Ev_p 1 (c' := (189, [some (.ref a0), some (.int x1), none], [.ref a0])) rfl ?_
  refine Ez_gf (M := zM164) (ci := 11) (f := 17) rfl rfl h0 rfl hF (fun v1 hF => ?_)
  refine Ev_p 0 (c' := (192, [some (.ref a0), some (.int x1), none], [.int v1])) rfl ?_
  refine Ez_if (M := zM164) (b := v1 = 0) rfl rfl hF (fun _ hF => ?_) (fun _ hF => ?_)
  · refine Ev_p 0 (c' := (202, [some (.ref a0), some (.int x1), none], [])) rfl ?_
    exact zf164_202_ok hK h0 hF
  · refine Ev_p 1 (c' := (196, [some (.ref a0), some (.int x1), none], [.ref a0])) rfl ?_
    refine Ez_gf (M := zM164) (ci := 11) (f := 15) rfl rfl h0 rfl hF (fun v2 hF => ?_)
    refine Ev_p 0 (c' := (199, [some (.ref a0), some (.int x1), none], [.int v2])) rfl ?_
    refine Ez_if (M := zM164) (b := 0 < v2) rfl rfl hF (fun _ hF => ?_) (fun _ hF => ?_)
    · refine Ev_p 0 (c' := (50, [some (.ref a0), some (.int x1), none], [])) rfl ?_
      exact hk50 _ _ hF
    · refine Ev_p 0 (c' := (202, [some (.ref a0), some (.int x1), none], [])) rfl ?_
      exact zf164_202_ok hK h0 hF
noncomputable def zf164_141 (a0 : Nat) (k50 : Int32 → zS → Option (Int32 × zS)) (x1 : Int32) (s : zS) : Option (Int32 × zS) :=
  zgf s a0 16 fun v1 =>
  zbv (zf167 a0 v1 s) fun s3 =>
  zf164_188 a0 k50 x1 s3
theorem zf164_141_ok {K : cx_K} (hK : Kok K) {lg : Nat → Int64} {v : Int32} {s' : zS} {a0 : Nat} (h0 : zsh a0 = 11) {k50 : Int32 → zS → Option (Int32 × zS)} (hk50 : ∀ x1 s, k50 x1 s = some (v, s') → Ev K zM164 (50, [some (.ref a0), some (.int x1), none], [], zmk lg s) 0 (.inl (some (.int v))) (zmk lg s') 0) {x1 : Int32}  {s : zS} (hF : zf164_141 a0 k50 x1 s = some (v, s')) : Ev K zM164 (141, [some (.ref a0), some (.int x1), none], [], zmk lg s) 0 (.inl (some (.int v))) (zmk lg s') 0 := by
  unfold zf164_141 at hF
  refine Ev_p 2 (c' := (143, [some (.ref a0), some (.int x1), none], [.ref a0, .ref a0])) rfl ?_
  refine Ez_gf (M := zM164) (ci := 11) (f := 16) rfl rfl h0 rfl hF (fun v1 hF => ?_)
  refine Ev_p 0 (c' := (146, [some (.ref a0), some (.int x1), none], [.int v1, .ref a0])) rfl ?_
  refine Ez_cv (M := zM164) (As := [.ref a0, .int v1]) (st' := []) (am_site_v (y := 167) (k := 2) (ci := 11) rfl rfl (zrcv rfl h0 rfl)) (Nat.le_of_ble_eq_true rfl) (Nat.le_of_ble_eq_true rfl) rfl rfl (fun _ hF => zf167_ok hK h0 hF) hF (fun s3 hF => ?_)
  refine Ev_p 1 (c' := (188, [some (.ref a0), some (.int x1), none], [])) rfl ?_
  exact zf164_188_ok hK h0 hk50 hF
noncomputable def zf164_97 (a0 : Nat) (k50 : Int32 → zS → Option (Int32 × zS)) (x1 : Int32) (x2 : Int32) (s : zS) : Option (Int32 × zS) :=
  if ¬ x2 = 60 then
    zgf s a0 15 fun v1 =>
    if v1 = 0 then
      zf164_141 a0 k50 x1 s
    else
      if x2 = (-1) then
        zf164_141 a0 k50 x1 s
      else
        if x2 = 62 then
          zf164_141 a0 k50 x1 s
        else
          if x2 = 38 then
            zf164_141 a0 k50 x1 s
          else
            if ¬ x2 = 126 then
              zgf s a0 16 fun v2 =>
              zgf s a0 15 fun v3 =>
              zal s (zrf a0 14) (v3 - 1) fun v4 =>
              zas s (zrf a0 13) ((300 * x1) + v2) v4 fun s5 =>
              zgf s5 a0 16 fun v6 =>
              zpf s5 a0 16 (v6 + 1) fun s7 =>
              zf164_188 a0 k50 x1 s7
            else
              zf164_141 a0 k50 x1 s
  else
    zbv (zf168 a0 x1 s) fun s9 =>
    zf164_188 a0 k50 x1 s9
theorem zf164_97_ok {K : cx_K} (hK : Kok K) {lg : Nat → Int64} {v : Int32} {s' : zS} {a0 : Nat} (h0 : zsh a0 = 11) {k50 : Int32 → zS → Option (Int32 × zS)} (hk50 : ∀ x1 s, k50 x1 s = some (v, s') → Ev K zM164 (50, [some (.ref a0), some (.int x1), none], [], zmk lg s) 0 (.inl (some (.int v))) (zmk lg s') 0) {x1 : Int32} {x2 : Int32}  {s : zS} (hF : zf164_97 a0 k50 x1 x2 s = some (v, s')) : Ev K zM164 (97, [some (.ref a0), some (.int x1), some (.int x2)], [], zmk lg s) 0 (.inl (some (.int v))) (zmk lg s') 0 := by
  unfold zf164_97 at hF
  refine Ev_p 2 (c' := (100, [some (.ref a0), some (.int x1), some (.int x2)], [.int 60, .int x2])) rfl ?_
  refine Ez_if (M := zM164) (b := ¬ x2 = 60) rfl rfl hF (fun _ hF => ?_) (fun _ hF => ?_)
  · refine Ev_p 1 (c' := (112, [some (.ref a0), some (.int x1), some (.int x2)], [.ref a0])) rfl ?_
    refine Ez_gf (M := zM164) (ci := 11) (f := 15) rfl rfl h0 rfl hF (fun v1 hF => ?_)
    refine Ev_p 0 (c' := (115, [some (.ref a0), some (.int x1), some (.int x2)], [.int v1])) rfl ?_
    refine Ez_if (M := zM164) (b := v1 = 0) rfl rfl hF (fun _ hF => ?_) (fun _ hF => ?_)
    · refine Ev_p 0 (c' := (141, [some (.ref a0), some (.int x1), some (.int x2)], [])) rfl ?_
      refine Ev_w (L' := [some (.ref a0), some (.int x1), none]) (zle_c (zle_c (zle_n zle_0))) ?_
      exact zf164_141_ok hK h0 hk50 hF
    · refine Ev_p 2 (c' := (120, [some (.ref a0), some (.int x1), some (.int x2)], [.int (-1), .int x2])) rfl ?_
      refine Ez_if (M := zM164) (b := x2 = (-1)) rfl rfl hF (fun _ hF => ?_) (fun _ hF => ?_)
      · refine Ev_p 0 (c' := (141, [some (.ref a0), some (.int x1), some (.int x2)], [])) rfl ?_
        refine Ev_w (L' := [some (.ref a0), some (.int x1), none]) (zle_c (zle_c (zle_n zle_0))) ?_
        exact zf164_141_ok hK h0 hk50 hF
      · refine Ev_p 2 (c' := (126, [some (.ref a0), some (.int x1), some (.int x2)], [.int 62, .int x2])) rfl ?_
        refine Ez_if (M := zM164) (b := x2 = 62) rfl rfl hF (fun _ hF => ?_) (fun _ hF => ?_)
        · refine Ev_p 0 (c' := (141, [some (.ref a0), some (.int x1), some (.int x2)], [])) rfl ?_
          refine Ev_w (L' := [some (.ref a0), some (.int x1), none]) (zle_c (zle_c (zle_n zle_0))) ?_
          exact zf164_141_ok hK h0 hk50 hF
        · refine Ev_p 2 (c' := (132, [some (.ref a0), some (.int x1), some (.int x2)], [.int 38, .int x2])) rfl ?_
          refine Ez_if (M := zM164) (b := x2 = 38) rfl rfl hF (fun _ hF => ?_) (fun _ hF => ?_)
          · refine Ev_p 0 (c' := (141, [some (.ref a0), some (.int x1), some (.int x2)], [])) rfl ?_
            refine Ev_w (L' := [some (.ref a0), some (.int x1), none]) (zle_c (zle_c (zle_n zle_0))) ?_
            exact zf164_141_ok hK h0 hk50 hF
          · refine Ev_p 2 (c' := (138, [some (.ref a0), some (.int x1), some (.int x2)], [.int 126, .int x2])) rfl ?_
            refine Ez_if (M := zM164) (b := ¬ x2 = 126) rfl rfl hF (fun _ hF => ?_) (fun _ hF => ?_)
            · refine Ev_p 1 (c' := (153, [some (.ref a0), some (.int x1), some (.int x2)], [.ref a0])) rfl ?_
              refine Ez_gr (M := zM164) (ci := 11) (f := 13) (t := 100) rfl rfl h0 rfl ?_
              refine Ev_p 4 (c' := (162, [some (.ref a0), some (.int x1), some (.int x2)], [.ref a0, .int (300 * x1), .ref (zrf a0 13)])) rfl ?_
              refine Ez_gf (M := zM164) (ci := 11) (f := 16) rfl rfl h0 rfl hF (fun v2 hF => ?_)
              refine Ev_p 2 (c' := (167, [some (.ref a0), some (.int x1), some (.int x2)], [.ref a0, .int ((300 * x1) + v2), .ref (zrf a0 13)])) rfl ?_
              refine Ez_gr (M := zM164) (ci := 11) (f := 14) (t := 100) rfl rfl h0 rfl ?_
              refine Ev_p 1 (c' := (171, [some (.ref a0), some (.int x1), some (.int x2)], [.ref a0, .ref (zrf a0 14), .int ((300 * x1) + v2), .ref (zrf a0 13)])) rfl ?_
              refine Ez_gf (M := zM164) (ci := 11) (f := 15) rfl rfl h0 rfl hF (fun v3 hF => ?_)
              refine Ev_p 2 (c' := (176, [some (.ref a0), some (.int x1), some (.int x2)], [.int (v3 - 1), .ref (zrf a0 14), .int ((300 * x1) + v2), .ref (zrf a0 13)])) rfl ?_
              refine Ez_al (M := zM164) rfl (zty (ci := 11) (f := 14) (t := 100) h0 rfl) hF (fun v4 hF => ?_)
              refine Ev_p 0 (c' := (177, [some (.ref a0), some (.int x1), some (.int x2)], [.int v4, .int ((300 * x1) + v2), .ref (zrf a0 13)])) rfl ?_
              refine Ez_as (M := zM164) rfl (zty (ci := 11) (f := 13) (t := 100) h0 rfl) hF (fun s5 hF => ?_)
              refine Ev_p 2 (c' := (180, [some (.ref a0), some (.int x1), some (.int x2)], [.ref a0, .ref a0])) rfl ?_
              refine Ez_gf (M := zM164) (ci := 11) (f := 16) rfl rfl h0 rfl hF (fun v6 hF => ?_)
              refine Ev_p 2 (c' := (185, [some (.ref a0), some (.int x1), some (.int x2)], [.int (v6 + 1), .ref a0])) rfl ?_
              refine Ez_pf (M := zM164) (ci := 11) (f := 16) rfl rfl h0 rfl hF (fun s7 hF => ?_)
              refine Ev_p 0 (c' := (188, [some (.ref a0), some (.int x1), some (.int x2)], [])) rfl ?_
              refine Ev_w (L' := [some (.ref a0), some (.int x1), none]) (zle_c (zle_c (zle_n zle_0))) ?_
              exact zf164_188_ok hK h0 hk50 hF
            · refine Ev_p 0 (c' := (141, [some (.ref a0), some (.int x1), some (.int x2)], [])) rfl ?_
              refine Ev_w (L' := [some (.ref a0), some (.int x1), none]) (zle_c (zle_c (zle_n zle_0))) ?_
              exact zf164_141_ok hK h0 hk50 hF
  · refine Ev_p 2 (c' := (105, [some (.ref a0), some (.int x1), some (.int x2)], [.int x1, .ref a0])) rfl ?_
    refine Ez_cv (M := zM164) (As := [.ref a0, .int x1]) (st' := []) (am_site_v (y := 168) (k := 2) (ci := 11) rfl rfl (zrcv rfl h0 rfl)) (Nat.le_of_ble_eq_true rfl) (Nat.le_of_ble_eq_true rfl) rfl rfl (fun _ hF => zf168_ok hK h0 hF) hF (fun s9 hF => ?_)
    refine Ev_p 1 (c' := (188, [some (.ref a0), some (.int x1), some (.int x2)], [])) rfl ?_
    refine Ev_w (L' := [some (.ref a0), some (.int x1), none]) (zle_c (zle_c (zle_n zle_0))) ?_
    exact zf164_188_ok hK h0 hk50 hF
noncomputable def zf164_50 (a0 : Nat)  : Nat → Int32 → zS → Option (Int32 × zS)
  | 0, _, _ => none
  | n + 1, x1, s =>
    zgf s a0 16 fun v1 =>
    zbi (zf165 a0 x1 v1 s) fun v2 s3 =>
    if ¬ v2 = 60 then
      zf164_97 a0 (zf164_50 a0 n) x1 v2 s3
    else
      zgf s3 a0 15 fun v4 =>
      if v4 ≤ 0 then
        zf164_97 a0 (zf164_50 a0 n) x1 v2 s3
      else
        zgf s3 a0 16 fun v5 =>
        zbi (zf165 a0 x1 (v5 + 1) s3) fun v6 s7 =>
        if ¬ v6 = 47 then
          zf164_97 a0 (zf164_50 a0 n) x1 v2 s7
        else
          zbv (zf166 a0 x1 s7) fun s9 =>
          zf164_188 a0 (zf164_50 a0 n) x1 s9
theorem zf164_50_ok {K : cx_K} (hK : Kok K) {lg : Nat → Int64} {v : Int32} {s' : zS} {a0 : Nat} (h0 : zsh a0 = 11)   {n : Nat} : ∀ {x1 : Int32} {s : zS}, zf164_50 a0 n x1 s = some (v, s') → Ev K zM164 (50, [some (.ref a0), some (.int x1), none], [], zmk lg s) 0 (.inl (some (.int v))) (zmk lg s') 0 := by
  induction n with
  | zero => intro x1 s hF; rw [zf164_50] at hF; cases hF
  | succ n ih =>
    intro x1 s hF
    rw [zf164_50] at hF
    refine Ev_p 3 (c' := (53, [some (.ref a0), some (.int x1), none], [.ref a0, .int x1, .ref a0])) rfl ?_
    refine Ez_gf (M := zM164) (ci := 11) (f := 16) rfl rfl h0 rfl hF (fun v1 hF => ?_)
    refine Ev_p 0 (c' := (56, [some (.ref a0), some (.int x1), none], [.int v1, .int x1, .ref a0])) rfl ?_
    refine Ez_ci (M := zM164) (As := [.ref a0, .int x1, .int v1]) (st' := []) (am_site_v (y := 165) (k := 3) (ci := 11) rfl rfl (zrcv rfl h0 rfl)) (Nat.le_of_ble_eq_true rfl) (Nat.le_of_ble_eq_true rfl) rfl rfl (fun _ _ hF => zf165_ok hK h0 hF) hF (fun v2 s3 hF => ?_)
    refine Ev_p 3 (c' := (63, [some (.ref a0), some (.int x1), some (.int v2)], [.int 60, .int v2])) rfl ?_
    refine Ez_if (M := zM164) (b := ¬ v2 = 60) rfl rfl hF (fun _ hF => ?_) (fun _ hF => ?_)
    · refine Ev_p 0 (c' := (97, [some (.ref a0), some (.int x1), some (.int v2)], [])) rfl ?_
      exact zf164_97_ok hK h0 (fun _ _ hF => ih hF) hF
    · refine Ev_p 1 (c' := (67, [some (.ref a0), some (.int x1), some (.int v2)], [.ref a0])) rfl ?_
      refine Ez_gf (M := zM164) (ci := 11) (f := 15) rfl rfl h0 rfl hF (fun v4 hF => ?_)
      refine Ev_p 0 (c' := (70, [some (.ref a0), some (.int x1), some (.int v2)], [.int v4])) rfl ?_
      refine Ez_if (M := zM164) (b := v4 ≤ 0) rfl rfl hF (fun _ hF => ?_) (fun _ hF => ?_)
      · refine Ev_p 0 (c' := (97, [some (.ref a0), some (.int x1), some (.int v2)], [])) rfl ?_
        exact zf164_97_ok hK h0 (fun _ _ hF => ih hF) hF
      · refine Ev_p 3 (c' := (76, [some (.ref a0), some (.int x1), some (.int v2)], [.ref a0, .int x1, .ref a0])) rfl ?_
        refine Ez_gf (M := zM164) (ci := 11) (f := 16) rfl rfl h0 rfl hF (fun v5 hF => ?_)
        refine Ev_p 2 (c' := (81, [some (.ref a0), some (.int x1), some (.int v2)], [.int (v5 + 1), .int x1, .ref a0])) rfl ?_
        refine Ez_ci (M := zM164) (As := [.ref a0, .int x1, .int (v5 + 1)]) (st' := []) (am_site_v (y := 165) (k := 3) (ci := 11) rfl rfl (zrcv rfl h0 rfl)) (Nat.le_of_ble_eq_true rfl) (Nat.le_of_ble_eq_true rfl) rfl rfl (fun _ _ hF => zf165_ok hK h0 hF) hF (fun v6 s7 hF => ?_)
        refine Ev_p 1 (c' := (86, [some (.ref a0), some (.int x1), some (.int v2)], [.int 47, .int v6])) rfl ?_
        refine Ez_if (M := zM164) (b := ¬ v6 = 47) rfl rfl hF (fun _ hF => ?_) (fun _ hF => ?_)
        · refine Ev_p 0 (c' := (97, [some (.ref a0), some (.int x1), some (.int v2)], [])) rfl ?_
          exact zf164_97_ok hK h0 (fun _ _ hF => ih hF) hF
        · refine Ev_p 2 (c' := (91, [some (.ref a0), some (.int x1), some (.int v2)], [.int x1, .ref a0])) rfl ?_
          refine Ez_cv (M := zM164) (As := [.ref a0, .int x1]) (st' := []) (am_site_v (y := 166) (k := 2) (ci := 11) rfl rfl (zrcv rfl h0 rfl)) (Nat.le_of_ble_eq_true rfl) (Nat.le_of_ble_eq_true rfl) rfl rfl (fun _ hF => zf166_ok hK h0 hF) hF (fun s9 hF => ?_)
          refine Ev_p 1 (c' := (188, [some (.ref a0), some (.int x1), some (.int v2)], [])) rfl ?_
          refine Ev_w (L' := [some (.ref a0), some (.int x1), none]) (zle_c (zle_c (zle_n zle_0))) ?_
          exact zf164_188_ok hK h0 (fun _ _ hF => ih hF) hF
noncomputable def zf164_24 (a0 : Nat)  : Nat → Int32 → Int32 → zS → Option (Int32 × zS)
  | 0, _, _, _ => none
  | n + 1, x1, x2, s =>
    if 300 ≤ x2 then
      zf164_50 a0 zfz x1 s
    else
      zas s (zrf a0 13) ((300 * x1) + x2) (-1) fun s1 =>
      zf164_24 a0 n x1 (x2 + 1) s1
theorem zf164_24_ok {K : cx_K} (hK : Kok K) {lg : Nat → Int64} {v : Int32} {s' : zS} {a0 : Nat} (h0 : zsh a0 = 11)   {n : Nat} : ∀ {x1 : Int32} {x2 : Int32} {s : zS}, zf164_24 a0 n x1 x2 s = some (v, s') → Ev K zM164 (24, [some (.ref a0), some (.int x1), some (.int x2)], [], zmk lg s) 0 (.inl (some (.int v))) (zmk lg s') 0 := by
  induction n with
  | zero => intro x1 x2 s hF; rw [zf164_24] at hF; cases hF
  | succ n ih =>
    intro x1 x2 s hF
    rw [zf164_24] at hF
    refine Ev_p 2 (c' := (28, [some (.ref a0), some (.int x1), some (.int x2)], [.int 300, .int x2])) rfl ?_
    refine Ez_if (M := zM164) (b := 300 ≤ x2) rfl rfl hF (fun _ hF => ?_) (fun _ hF => ?_)
    · refine Ev_p 0 (c' := (50, [some (.ref a0), some (.int x1), some (.int x2)], [])) rfl ?_
      refine Ev_w (L' := [some (.ref a0), some (.int x1), none]) (zle_c (zle_c (zle_n zle_0))) ?_
      exact zf164_50_ok hK h0 hF
    · refine Ev_p 1 (c' := (32, [some (.ref a0), some (.int x1), some (.int x2)], [.ref a0])) rfl ?_
      refine Ez_gr (M := zM164) (ci := 11) (f := 13) (t := 100) rfl rfl h0 rfl ?_
      refine Ev_p 6 (c' := (43, [some (.ref a0), some (.int x1), some (.int x2)], [.int (-1), .int ((300 * x1) + x2), .ref (zrf a0 13)])) rfl ?_
      refine Ez_as (M := zM164) rfl (zty (ci := 11) (f := 13) (t := 100) h0 rfl) hF (fun s1 hF => ?_)
      refine Ev_p 2 (c' := (24, [some (.ref a0), some (.int x1), some (.int (x2 + 1))], [])) rfl ?_
      exact ih hF
noncomputable def zf164 (a0 : Nat) (x1 : Int32) (s : zS) : Option (Int32 × zS) :=
  zas s (zrf a0 9) x1 0 fun s1 =>
  zpf s1 a0 15 0 fun s2 =>
  zpf s2 a0 16 0 fun s3 =>
  zpb s3 a0 17 1 fun s4 =>
  zf164_24 a0 zfz x1 0 s4
theorem zf164_ok {K : cx_K} (hK : Kok K) {lg : Nat → Int64} {v : Int32} {s' : zS} {a0 : Nat} (h0 : zsh a0 = 11) {x1 : Int32} {s : zS} (hF : zf164 a0 x1 s = some (v, s')) : Ct K 164 [.ref a0, .int x1] (zmk lg s) (.inl (some (.int v))) (zmk lg s') 0 := by
  unfold zf164 at hF
  refine Ct_of hK nd_ok164 (mL := 3) (rt := some .int) rfl rfl (Nat.le_of_ble_eq_true rfl) zlen_le ?_
  refine Ev_p 1 (c' := (1, [some (.ref a0), some (.int x1), none], [.ref a0])) rfl ?_
  refine Ez_gr (M := zM164) (ci := 11) (f := 9) (t := 100) rfl rfl h0 rfl ?_
  refine Ev_p 2 (c' := (6, [some (.ref a0), some (.int x1), none], [.int 0, .int x1, .ref (zrf a0 9)])) rfl ?_
  refine Ez_as (M := zM164) rfl (zty (ci := 11) (f := 9) (t := 100) h0 rfl) hF (fun s1 hF => ?_)
  refine Ev_p 2 (c' := (9, [some (.ref a0), some (.int x1), none], [.int 0, .ref a0])) rfl ?_
  refine Ez_pf (M := zM164) (ci := 11) (f := 15) rfl rfl h0 rfl hF (fun s2 hF => ?_)
  refine Ev_p 2 (c' := (14, [some (.ref a0), some (.int x1), none], [.int 0, .ref a0])) rfl ?_
  refine Ez_pf (M := zM164) (ci := 11) (f := 16) rfl rfl h0 rfl hF (fun s3 hF => ?_)
  refine Ev_p 2 (c' := (19, [some (.ref a0), some (.int x1), none], [.int 1, .ref a0])) rfl ?_
  refine Ez_pb (M := zM164) (ci := 11) (f := 17) rfl rfl h0 rfl hF (fun s4 hF => ?_)
  refine Ev_p 2 (c' := (24, [some (.ref a0), some (.int x1), some (.int 0)], [])) rfl ?_
  exact zf164_24_ok hK h0 hF
-- PaperParcelsModel.textFault()I
abbrev zM153 : ev_M := (am_in nd_i153, am_fl nd_f11, am_ct nd_k11, am_sl nd_ml nd_s153, fun _ => none, some .int)
noncomputable def zf153_38 (a0 : Nat)  : Nat → Int32 → Int32 → zS → Option (Int32 × zS)
  | 0, _, _, _ => none
  | n + 1, x2, x3, s =>
    if 2 ≤ x3 then
      some (x2, s)
    else
      if ¬ x2 = 0 then
        some (x2, s)
      else
        zbi (zf164 a0 x3 s) fun v1 s2 =>
        if v1 < 0 then
          zf153_38 a0 n 0 (x3 + 1) s2
        else
          zbi (zf158 a0 4 ((1000 * x3) + v1) s2) fun v3 s4 =>
          zf153_38 a0 n v3 (x3 + 1) s4
theorem zf153_38_ok {K : cx_K} (hK : Kok K) {lg : Nat → Int64} {v : Int32} {s' : zS} {a0 : Nat} (h0 : zsh a0 = 11)   {n : Nat} : ∀ {x2 : Int32} {x3 : Int32} {s : zS}, zf153_38 a0 n x2 x3 s = some (v, s') → Ev K zM153 (38, [some (.ref a0), none, some (.int x2), some (.int x3)], [], zmk lg s) 0 (.inl (some (.int v))) (zmk lg s') 0 := by
  induction n with
  | zero => intro x2 x3 s hF; rw [zf153_38] at hF; cases hF
  | succ n ih =>
    intro x2 x3 s hF
    rw [zf153_38] at hF
    refine Ev_p 2 (c' := (40, [some (.ref a0), none, some (.int x2), some (.int x3)], [.int 2, .int x3])) rfl ?_
    refine Ez_if (M := zM153) (b := 2 ≤ x3) rfl rfl hF (fun _ hF => ?_) (fun _ hF => ?_)
    · refine Ev_p 1 (c' := (81, [some (.ref a0), none, some (.int x2), some (.int x3)], [.int x2])) rfl ?_
      exact Ez_ri (M := zM153) rfl rfl hF
    · refine Ev_p 1 (c' := (44, [some (.ref a0), none, some (.int x2), some (.int x3)], [.int x2])) rfl ?_
      refine Ez_if (M := zM153) (b := ¬ x2 = 0) rfl rfl hF (fun _ hF => ?_) (fun _ hF => ?_)
      · refine Ev_p 1 (c' := (81, [some (.ref a0), none, some (.int x2), some (.int x3)], [.int x2])) rfl ?_
        exact Ez_ri (M := zM153) rfl rfl hF
      · refine Ev_p 2 (c' := (49, [some (.ref a0), none, some (.int x2), some (.int x3)], [.int x3, .ref a0])) rfl ?_
        refine Ez_ci (M := zM153) (As := [.ref a0, .int x3]) (st' := []) (am_site_v (y := 164) (k := 2) (ci := 11) rfl rfl (zrcv rfl h0 rfl)) (Nat.le_of_ble_eq_true rfl) (Nat.le_of_ble_eq_true rfl) rfl rfl (fun _ _ hF => zf164_ok hK h0 hF) hF (fun v1 s2 hF => ?_)
        refine Ev_p 2 (c' := (54, [some (.ref a0), some (.int v1), some (.int x2), some (.int x3)], [.int v1])) rfl ?_
        refine Ez_if (M := zM153) (b := v1 < 0) rfl rfl hF (fun _ hF => ?_) (fun _ hF => ?_)
        · refine Ev_p 4 (c' := (38, [some (.ref a0), some (.int v1), some (.int 0), some (.int (x3 + 1))], [])) rfl ?_
          refine Ev_w (L' := [some (.ref a0), none, some (.int 0), some (.int (x3 + 1))]) (zle_c (zle_n (zle_c (zle_c zle_0)))) ?_
          exact ih hF
        · refine Ev_p 7 (c' := (66, [some (.ref a0), some (.int v1), some (.int x2), some (.int x3)], [.int ((1000 * x3) + v1), .int 4, .ref a0])) rfl ?_
          refine Ez_ci (M := zM153) (As := [.ref a0, .int 4, .int ((1000 * x3) + v1)]) (st' := []) (am_site_v (y := 158) (k := 3) (ci := 11) rfl rfl (zrcv rfl h0 rfl)) (Nat.le_of_ble_eq_true rfl) (Nat.le_of_ble_eq_true rfl) rfl rfl (fun _ _ hF => zf158_ok hK h0 hF) hF (fun v3 s4 hF => ?_)
          refine Ev_p 4 (c' := (38, [some (.ref a0), some (.int v1), some (.int v3), some (.int (x3 + 1))], [])) rfl ?_
          refine Ev_w (L' := [some (.ref a0), none, some (.int v3), some (.int (x3 + 1))]) (zle_c (zle_n (zle_c (zle_c zle_0)))) ?_
          exact ih hF
noncomputable def zf153 (a0 : Nat) (s : zS) : Option (Int32 × zS) :=
  zbi (zf154 a0 s) fun v1 s2 =>
  if v1 < 0 then
    zbi (zf159 a0 0 s2) fun v3 s4 =>
    if ¬ v3 = 0 then
      zf153_38 a0 zfz v3 0 s4
    else
      zbi (zf159 a0 1 s4) fun v5 s6 =>
      zf153_38 a0 zfz v5 0 s6
  else
    zbi (zf158 a0 1 v1 s2) fun v7 s8 =>
    some (v7, s8)
theorem zf153_ok {K : cx_K} (hK : Kok K) {lg : Nat → Int64} {v : Int32} {s' : zS} {a0 : Nat} (h0 : zsh a0 = 11)  {s : zS} (hF : zf153 a0 s = some (v, s')) : Ct K 153 [.ref a0] (zmk lg s) (.inl (some (.int v))) (zmk lg s') 0 := by
  unfold zf153 at hF
  refine Ct_of hK nd_ok153 (mL := 4) (rt := some .int) rfl rfl (Nat.le_of_ble_eq_true rfl) zlen_le ?_
  refine Ev_p 1 (c' := (1, [some (.ref a0), none, none, none], [.ref a0])) rfl ?_
  refine Ez_ci (M := zM153) (As := [.ref a0]) (st' := []) (am_site_v (y := 154) (k := 1) (ci := 11) rfl rfl (zrcv rfl h0 rfl)) (Nat.le_of_ble_eq_true rfl) (Nat.le_of_ble_eq_true rfl) rfl rfl (fun _ _ hF => zf154_ok hK h0 hF) hF (fun v1 s2 hF => ?_)
  refine Ev_p 2 (c' := (6, [some (.ref a0), some (.int v1), none, none], [.int v1])) rfl ?_
  refine Ez_if (M := zM153) (b := v1 < 0) rfl rfl hF (fun _ hF => ?_) (fun _ hF => ?_)
  · refine Ev_p 2 (c' := (18, [some (.ref a0), some (.int v1), none, none], [.int 0, .ref a0])) rfl ?_
    refine Ez_ci (M := zM153) (As := [.ref a0, .int 0]) (st' := []) (am_site_v (y := 159) (k := 2) (ci := 11) rfl rfl (zrcv rfl h0 rfl)) (Nat.le_of_ble_eq_true rfl) (Nat.le_of_ble_eq_true rfl) rfl rfl (fun _ _ hF => zf159_ok hK h0 hF) hF (fun v3 s4 hF => ?_)
    refine Ev_p 2 (c' := (23, [some (.ref a0), some (.int v1), some (.int v3), none], [.int v3])) rfl ?_
    refine Ez_if (M := zM153) (b := ¬ v3 = 0) rfl rfl hF (fun _ hF => ?_) (fun _ hF => ?_)
    · refine Ev_p 4 (c' := (38, [some (.ref a0), some (.int v1), some (.int v3), some (.int 0)], [])) rfl ?_
      refine Ev_w (L' := [some (.ref a0), none, some (.int v3), some (.int 0)]) (zle_c (zle_n (zle_c (zle_c zle_0)))) ?_
      exact zf153_38_ok hK h0 hF
    · refine Ev_p 2 (c' := (28, [some (.ref a0), some (.int v1), some (.int v3), none], [.int 1, .ref a0])) rfl ?_
      refine Ez_ci (M := zM153) (As := [.ref a0, .int 1]) (st' := []) (am_site_v (y := 159) (k := 2) (ci := 11) rfl rfl (zrcv rfl h0 rfl)) (Nat.le_of_ble_eq_true rfl) (Nat.le_of_ble_eq_true rfl) rfl rfl (fun _ _ hF => zf159_ok hK h0 hF) hF (fun v5 s6 hF => ?_)
      refine Ev_p 4 (c' := (38, [some (.ref a0), some (.int v1), some (.int v5), some (.int 0)], [])) rfl ?_
      refine Ev_w (L' := [some (.ref a0), none, some (.int v5), some (.int 0)]) (zle_c (zle_n (zle_c (zle_c zle_0)))) ?_
      exact zf153_38_ok hK h0 hF
  · refine Ev_p 3 (c' := (12, [some (.ref a0), some (.int v1), none, none], [.int v1, .int 1, .ref a0])) rfl ?_
    refine Ez_ci (M := zM153) (As := [.ref a0, .int 1, .int v1]) (st' := []) (am_site_v (y := 158) (k := 3) (ci := 11) rfl rfl (zrcv rfl h0 rfl)) (Nat.le_of_ble_eq_true rfl) (Nat.le_of_ble_eq_true rfl) rfl rfl (fun _ _ hF => zf158_ok hK h0 hF) hF (fun v7 s8 hF => ?_)
    refine Ev_p 0 (c' := (15, [some (.ref a0), some (.int v1), none, none], [.int v7])) rfl ?_
    exact Ez_ri (M := zM153) rfl rfl hF
-- PaperParcelsModel.kindOver(II)I
abbrev zM177 : ev_M := (am_in nd_i177, am_fl nd_f11, am_ct nd_k11, am_sl nd_ml nd_s177, fun _ => none, some .int)
noncomputable def zf177 (a0 : Nat) (x1 : Int32) (x2 : Int32) (s : zS) : Option (Int32 × zS) :=
  zal s (zrf a0 12) ((30 * x1) + x2) fun v1 =>
  if 0 ≤ v1 then
    zal s (zrf a0 10) ((30 * x1) + v1) fun v2 =>
    some (v2, s)
  else
    some (0, s)
theorem zf177_ok {K : cx_K} (hK : Kok K) {lg : Nat → Int64} {v : Int32} {s' : zS} {a0 : Nat} (h0 : zsh a0 = 11) {x1 : Int32} {x2 : Int32} {s : zS} (hF : zf177 a0 x1 x2 s = some (v, s')) : Ct K 177 [.ref a0, .int x1, .int x2] (zmk lg s) (.inl (some (.int v))) (zmk lg s') 0 := by
  unfold zf177 at hF
  refine Ct_of hK nd_ok177 (mL := 4) (rt := some .int) rfl rfl (Nat.le_of_ble_eq_true rfl) zlen_le ?_
  refine Ev_p 1 (c' := (1, [some (.ref a0), some (.int x1), some (.int x2), none], [.ref a0])) rfl ?_
  refine Ez_gr (M := zM177) (ci := 11) (f := 12) (t := 100) rfl rfl h0 rfl ?_
  refine Ev_p 5 (c' := (10, [some (.ref a0), some (.int x1), some (.int x2), none], [.int ((30 * x1) + x2), .ref (zrf a0 12)])) rfl ?_
  refine Ez_al (M := zM177) rfl (zty (ci := 11) (f := 12) (t := 100) h0 rfl) hF (fun v1 hF => ?_)
  refine Ev_p 2 (c' := (13, [some (.ref a0), some (.int x1), some (.int x2), some (.int v1)], [.int v1])) rfl ?_
  refine Ez_if (M := zM177) (b := 0 ≤ v1) rfl rfl hF (fun _ hF => ?_) (fun _ hF => ?_)
  · refine Ev_p 1 (c' := (21, [some (.ref a0), some (.int x1), some (.int x2), some (.int v1)], [.ref a0])) rfl ?_
    refine Ez_gr (M := zM177) (ci := 11) (f := 10) (t := 100) rfl rfl h0 rfl ?_
    refine Ev_p 5 (c' := (30, [some (.ref a0), some (.int x1), some (.int x2), some (.int v1)], [.int ((30 * x1) + v1), .ref (zrf a0 10)])) rfl ?_
    refine Ez_al (M := zM177) rfl (zty (ci := 11) (f := 10) (t := 100) h0 rfl) hF (fun v2 hF => ?_)
    refine Ev_p 0 (c' := (31, [some (.ref a0), some (.int x1), some (.int x2), some (.int v1)], [.int v2])) rfl ?_
    exact Ez_ri (M := zM177) rfl rfl hF
  · refine Ev_p 2 (c' := (31, [some (.ref a0), some (.int x1), some (.int x2), some (.int v1)], [.int 0])) rfl ?_
    exact Ez_ri (M := zM177) rfl rfl hF
-- PaperParcelsModel.stands(II)Z
abbrev zM176 : ev_M := (am_in nd_i176, am_fl nd_f11, am_ct nd_k11, am_sl nd_ml nd_s176, fun _ => none, some .boolean)
noncomputable def zf176_91 (a0 : Nat)  (x4 : Int32) (s : zS) : Option (Int32 × zS) :=
  if x4 = 100 then
    zrb 1 s
  else
    if ¬ x4 = 105 then
      zrb 0 s
    else
      zrb 1 s
theorem zf176_91_ok {K : cx_K} (hK : Kok K) {lg : Nat → Int64} {v : Int32} {s' : zS} {a0 : Nat} (h0 : zsh a0 = 11)   {x4 : Int32}  {s : zS} (hF : zf176_91 a0 x4 s = some (v, s')) : Ev K zM176 (91, [some (.ref a0), none, none, none, some (.int x4)], [], zmk lg s) 0 (.inl (some (.int v))) (zmk lg s') 0 := by
  unfold zf176_91 at hF
  refine Ev_p 2 (c' := (95, [some (.ref a0), none, none, none, some (.int x4)], [.int 100, .int x4])) rfl ?_
  refine Ez_if (M := zM176) (b := x4 = 100) rfl rfl hF (fun _ hF => ?_) (fun _ hF => ?_)
  · refine Ev_p 2 (c' := (110, [some (.ref a0), none, none, none, some (.int x4)], [.int 1])) rfl ?_
    exact Ez_rb (M := zM176) rfl rfl hF
  · refine Ev_p 2 (c' := (102, [some (.ref a0), none, none, none, some (.int x4)], [.int 105, .int x4])) rfl ?_
    refine Ez_if (M := zM176) (b := ¬ x4 = 105) rfl rfl hF (fun _ hF => ?_) (fun _ hF => ?_)
    · refine Ev_p 1 (c' := (110, [some (.ref a0), none, none, none, some (.int x4)], [.int 0])) rfl ?_
      exact Ez_rb (M := zM176) rfl rfl hF
    · refine Ev_p 2 (c' := (110, [some (.ref a0), none, none, none, some (.int x4)], [.int 1])) rfl ?_
      exact Ez_rb (M := zM176) rfl rfl hF
noncomputable def zf176 (a0 : Nat) (x1 : Int32) (x2 : Int32) (s : zS) : Option (Int32 × zS) :=
  zal s (zrf a0 10) ((30 * x1) + x2) fun v1 =>
  zbi (zf177 a0 x1 x2 s) fun v2 s3 =>
  if ¬ x1 = 0 then
    if ¬ v2 = 0 then
      if v1 = 112 then
        zf176_91 a0 v2 s3
      else
        if ¬ v1 = 108 then
          if ¬ v1 = 105 then
            if ¬ v1 = 120 then
              zrb 0 s3
            else
              if v2 = 112 then
                zrb 1 s3
              else
                if ¬ v2 = 120 then
                  zrb 0 s3
                else
                  zrb 1 s3
          else
            if ¬ v2 = 108 then
              zrb 0 s3
            else
              zrb 1 s3
        else
          zf176_91 a0 v2 s3
    else
      if ¬ v1 = 100 then
        zrb 0 s3
      else
        zrb 1 s3
  else
    if ¬ v2 = 0 then
      if ¬ v2 = 116 then
        zrb 0 s3
      else
        if ¬ v1 = 115 then
          zrb 0 s3
        else
          zrb 1 s3
    else
      if ¬ v1 = 116 then
        zrb 0 s3
      else
        zrb 1 s3
theorem zf176_ok {K : cx_K} (hK : Kok K) {lg : Nat → Int64} {v : Int32} {s' : zS} {a0 : Nat} (h0 : zsh a0 = 11) {x1 : Int32} {x2 : Int32} {s : zS} (hF : zf176 a0 x1 x2 s = some (v, s')) : Ct K 176 [.ref a0, .int x1, .int x2] (zmk lg s) (.inl (some (.int v))) (zmk lg s') 0 := by
  unfold zf176 at hF
  refine Ct_of hK nd_ok176 (mL := 5) (rt := some .boolean) rfl rfl (Nat.le_of_ble_eq_true rfl) zlen_le ?_
  refine Ev_p 1 (c' := (1, [some (.ref a0), some (.int x1), some (.int x2), none, none], [.ref a0])) rfl ?_
  refine Ez_gr (M := zM176) (ci := 11) (f := 10) (t := 100) rfl rfl h0 rfl ?_
  refine Ev_p 5 (c' := (10, [some (.ref a0), some (.int x1), some (.int x2), none, none], [.int ((30 * x1) + x2), .ref (zrf a0 10)])) rfl ?_
  refine Ez_al (M := zM176) rfl (zty (ci := 11) (f := 10) (t := 100) h0 rfl) hF (fun v1 hF => ?_)
  refine Ev_p 4 (c' := (15, [some (.ref a0), some (.int x1), some (.int x2), some (.int v1), none], [.int x2, .int x1, .ref a0])) rfl ?_
  refine Ez_ci (M := zM176) (As := [.ref a0, .int x1, .int x2]) (st' := []) (am_site_v (y := 177) (k := 3) (ci := 11) rfl rfl (zrcv rfl h0 rfl)) (Nat.le_of_ble_eq_true rfl) (Nat.le_of_ble_eq_true rfl) rfl rfl (fun _ _ hF => zf177_ok hK h0 hF) hF (fun v2 s3 hF => ?_)
  refine Ev_p 2 (c' := (21, [some (.ref a0), some (.int x1), some (.int x2), some (.int v1), some (.int v2)], [.int x1])) rfl ?_
  refine Ez_if (M := zM176) (b := ¬ x1 = 0) rfl rfl hF (fun _ hF => ?_) (fun _ hF => ?_)
  · refine Ev_p 1 (c' := (64, [some (.ref a0), some (.int x1), some (.int x2), some (.int v1), some (.int v2)], [.int v2])) rfl ?_
    refine Ez_if (M := zM176) (b := ¬ v2 = 0) rfl rfl hF (fun _ hF => ?_) (fun _ hF => ?_)
    · refine Ev_p 2 (c' := (82, [some (.ref a0), some (.int x1), some (.int x2), some (.int v1), some (.int v2)], [.int 112, .int v1])) rfl ?_
      refine Ez_if (M := zM176) (b := v1 = 112) rfl rfl hF (fun _ hF => ?_) (fun _ hF => ?_)
      · refine Ev_p 0 (c' := (91, [some (.ref a0), some (.int x1), some (.int x2), some (.int v1), some (.int v2)], [])) rfl ?_
        refine Ev_w (L' := [some (.ref a0), none, none, none, some (.int v2)]) (zle_c (zle_n (zle_n (zle_n (zle_c zle_0))))) ?_
        exact zf176_91_ok hK h0 hF
      · refine Ev_p 2 (c' := (88, [some (.ref a0), some (.int x1), some (.int x2), some (.int v1), some (.int v2)], [.int 108, .int v1])) rfl ?_
        refine Ez_if (M := zM176) (b := ¬ v1 = 108) rfl rfl hF (fun _ hF => ?_) (fun _ hF => ?_)
        · refine Ev_p 2 (c' := (114, [some (.ref a0), some (.int x1), some (.int x2), some (.int v1), some (.int v2)], [.int 105, .int v1])) rfl ?_
          refine Ez_if (M := zM176) (b := ¬ v1 = 105) rfl rfl hF (fun _ hF => ?_) (fun _ hF => ?_)
          · refine Ev_p 2 (c' := (135, [some (.ref a0), some (.int x1), some (.int x2), some (.int v1), some (.int v2)], [.int 120, .int v1])) rfl ?_
            refine Ez_if (M := zM176) (b := ¬ v1 = 120) rfl rfl hF (fun _ hF => ?_) (fun _ hF => ?_)
            · refine Ev_p 1 (c' := (157, [some (.ref a0), some (.int x1), some (.int x2), some (.int v1), some (.int v2)], [.int 0])) rfl ?_
              exact Ez_rb (M := zM176) rfl rfl hF
            · refine Ev_p 2 (c' := (142, [some (.ref a0), some (.int x1), some (.int x2), some (.int v1), some (.int v2)], [.int 112, .int v2])) rfl ?_
              refine Ez_if (M := zM176) (b := v2 = 112) rfl rfl hF (fun _ hF => ?_) (fun _ hF => ?_)
              · refine Ev_p 2 (c' := (157, [some (.ref a0), some (.int x1), some (.int x2), some (.int v1), some (.int v2)], [.int 1])) rfl ?_
                exact Ez_rb (M := zM176) rfl rfl hF
              · refine Ev_p 2 (c' := (149, [some (.ref a0), some (.int x1), some (.int x2), some (.int v1), some (.int v2)], [.int 120, .int v2])) rfl ?_
                refine Ez_if (M := zM176) (b := ¬ v2 = 120) rfl rfl hF (fun _ hF => ?_) (fun _ hF => ?_)
                · refine Ev_p 1 (c' := (157, [some (.ref a0), some (.int x1), some (.int x2), some (.int v1), some (.int v2)], [.int 0])) rfl ?_
                  exact Ez_rb (M := zM176) rfl rfl hF
                · refine Ev_p 2 (c' := (157, [some (.ref a0), some (.int x1), some (.int x2), some (.int v1), some (.int v2)], [.int 1])) rfl ?_
                  exact Ez_rb (M := zM176) rfl rfl hF
          · refine Ev_p 2 (c' := (121, [some (.ref a0), some (.int x1), some (.int x2), some (.int v1), some (.int v2)], [.int 108, .int v2])) rfl ?_
            refine Ez_if (M := zM176) (b := ¬ v2 = 108) rfl rfl hF (fun _ hF => ?_) (fun _ hF => ?_)
            · refine Ev_p 2 (c' := (157, [some (.ref a0), some (.int x1), some (.int x2), some (.int v1), some (.int v2)], [.int 0])) rfl ?_
              exact Ez_rb (M := zM176) rfl rfl hF
            · refine Ev_p 2 (c' := (157, [some (.ref a0), some (.int x1), some (.int x2), some (.int v1), some (.int v2)], [.int 1])) rfl ?_
              exact Ez_rb (M := zM176) rfl rfl hF
        · refine Ev_p 0 (c' := (91, [some (.ref a0), some (.int x1), some (.int x2), some (.int v1), some (.int v2)], [])) rfl ?_
          refine Ev_w (L' := [some (.ref a0), none, none, none, some (.int v2)]) (zle_c (zle_n (zle_n (zle_n (zle_c zle_0))))) ?_
          exact zf176_91_ok hK h0 hF
    · refine Ev_p 2 (c' := (70, [some (.ref a0), some (.int x1), some (.int x2), some (.int v1), some (.int v2)], [.int 100, .int v1])) rfl ?_
      refine Ez_if (M := zM176) (b := ¬ v1 = 100) rfl rfl hF (fun _ hF => ?_) (fun _ hF => ?_)
      · refine Ev_p 1 (c' := (78, [some (.ref a0), some (.int x1), some (.int x2), some (.int v1), some (.int v2)], [.int 0])) rfl ?_
        exact Ez_rb (M := zM176) rfl rfl hF
      · refine Ev_p 2 (c' := (78, [some (.ref a0), some (.int x1), some (.int x2), some (.int v1), some (.int v2)], [.int 1])) rfl ?_
        exact Ez_rb (M := zM176) rfl rfl hF
  · refine Ev_p 1 (c' := (26, [some (.ref a0), some (.int x1), some (.int x2), some (.int v1), some (.int v2)], [.int v2])) rfl ?_
    refine Ez_if (M := zM176) (b := ¬ v2 = 0) rfl rfl hF (fun _ hF => ?_) (fun _ hF => ?_)
    · refine Ev_p 2 (c' := (47, [some (.ref a0), some (.int x1), some (.int x2), some (.int v1), some (.int v2)], [.int 116, .int v2])) rfl ?_
      refine Ez_if (M := zM176) (b := ¬ v2 = 116) rfl rfl hF (fun _ hF => ?_) (fun _ hF => ?_)
      · refine Ev_p 1 (c' := (61, [some (.ref a0), some (.int x1), some (.int x2), some (.int v1), some (.int v2)], [.int 0])) rfl ?_
        exact Ez_rb (M := zM176) rfl rfl hF
      · refine Ev_p 2 (c' := (53, [some (.ref a0), some (.int x1), some (.int x2), some (.int v1), some (.int v2)], [.int 115, .int v1])) rfl ?_
        refine Ez_if (M := zM176) (b := ¬ v1 = 115) rfl rfl hF (fun _ hF => ?_) (fun _ hF => ?_)
        · refine Ev_p 1 (c' := (61, [some (.ref a0), some (.int x1), some (.int x2), some (.int v1), some (.int v2)], [.int 0])) rfl ?_
          exact Ez_rb (M := zM176) rfl rfl hF
        · refine Ev_p 2 (c' := (61, [some (.ref a0), some (.int x1), some (.int x2), some (.int v1), some (.int v2)], [.int 1])) rfl ?_
          exact Ez_rb (M := zM176) rfl rfl hF
    · refine Ev_p 2 (c' := (32, [some (.ref a0), some (.int x1), some (.int x2), some (.int v1), some (.int v2)], [.int 116, .int v1])) rfl ?_
      refine Ez_if (M := zM176) (b := ¬ v1 = 116) rfl rfl hF (fun _ hF => ?_) (fun _ hF => ?_)
      · refine Ev_p 2 (c' := (61, [some (.ref a0), some (.int x1), some (.int x2), some (.int v1), some (.int v2)], [.int 0])) rfl ?_
        exact Ez_rb (M := zM176) rfl rfl hF
      · refine Ev_p 2 (c' := (61, [some (.ref a0), some (.int x1), some (.int x2), some (.int v1), some (.int v2)], [.int 1])) rfl ?_
        exact Ez_rb (M := zM176) rfl rfl hF
-- PaperParcelsModel.pastValue(II)I
abbrev zM179 : ev_M := (am_in nd_i179, am_fl nd_f11, am_ct nd_k11, am_sl nd_ml nd_s179, fun _ => none, some .int)
noncomputable def zf179_2 (a0 : Nat)  : Nat → Int32 → Int32 → zS → Option (Int32 × zS)
  | 0, _, _, _ => none
  | n + 1, x1, x3, s =>
    zbi (zf165 a0 x1 x3 s) fun v1 s2 =>
    if v1 = 34 then
      some (x3, s2)
    else
      zf179_2 a0 n x1 (x3 + 1) s2
theorem zf179_2_ok {K : cx_K} (hK : Kok K) {lg : Nat → Int64} {v : Int32} {s' : zS} {a0 : Nat} (h0 : zsh a0 = 11)   {n : Nat} : ∀ {x1 : Int32} {x3 : Int32} {s : zS}, zf179_2 a0 n x1 x3 s = some (v, s') → Ev K zM179 (2, [some (.ref a0), some (.int x1), none, some (.int x3)], [], zmk lg s) 0 (.inl (some (.int v))) (zmk lg s') 0 := by
  induction n with
  | zero => intro x1 x3 s hF; rw [zf179_2] at hF; cases hF
  | succ n ih =>
    intro x1 x3 s hF
    rw [zf179_2] at hF
    refine Ev_p 3 (c' := (5, [some (.ref a0), some (.int x1), none, some (.int x3)], [.int x3, .int x1, .ref a0])) rfl ?_
    refine Ez_ci (M := zM179) (As := [.ref a0, .int x1, .int x3]) (st' := []) (am_site_v (y := 165) (k := 3) (ci := 11) rfl rfl (zrcv rfl h0 rfl)) (Nat.le_of_ble_eq_true rfl) (Nat.le_of_ble_eq_true rfl) rfl rfl (fun _ _ hF => zf165_ok hK h0 hF) hF (fun v1 s2 hF => ?_)
    refine Ev_p 1 (c' := (10, [some (.ref a0), some (.int x1), none, some (.int x3)], [.int 34, .int v1])) rfl ?_
    refine Ez_if (M := zM179) (b := v1 = 34) rfl rfl hF (fun _ hF => ?_) (fun _ hF => ?_)
    · refine Ev_p 1 (c' := (20, [some (.ref a0), some (.int x1), none, some (.int x3)], [.int x3])) rfl ?_
      exact Ez_ri (M := zM179) rfl rfl hF
    · refine Ev_p 2 (c' := (2, [some (.ref a0), some (.int x1), none, some (.int (x3 + 1))], [])) rfl ?_
      exact ih hF
noncomputable def zf179 (a0 : Nat) (x1 : Int32) (x2 : Int32) (s : zS) : Option (Int32 × zS) :=
  zf179_2 a0 zfz x1 x2 s
theorem zf179_ok {K : cx_K} (hK : Kok K) {lg : Nat → Int64} {v : Int32} {s' : zS} {a0 : Nat} (h0 : zsh a0 = 11) {x1 : Int32} {x2 : Int32} {s : zS} (hF : zf179 a0 x1 x2 s = some (v, s')) : Ct K 179 [.ref a0, .int x1, .int x2] (zmk lg s) (.inl (some (.int v))) (zmk lg s') 0 := by
  unfold zf179 at hF
  refine Ct_of hK nd_ok179 (mL := 4) (rt := some .int) rfl rfl (Nat.le_of_ble_eq_true rfl) zlen_le ?_
  refine Ev_p 2 (c' := (2, [some (.ref a0), some (.int x1), some (.int x2), some (.int x2)], [])) rfl ?_
  refine Ev_w (L' := [some (.ref a0), some (.int x1), none, some (.int x2)]) (zle_c (zle_c (zle_n (zle_c zle_0)))) ?_
  exact zf179_2_ok hK h0 hF
-- PaperParcelsModel.may(IIIII)Z
abbrev zM180 : ev_M := (am_in nd_i180, am_fl nd_f11, am_ct nd_k11, am_sl nd_ml nd_s180, fun _ => none, some .boolean)
noncomputable def zf180_57 (a0 : Nat)  (x3 : Int32) (x7 : Int32) (x8 : Int32) (s : zS) : Option (Int32 × zS) :=
  if ¬ x3 = 121 then
    zrb 0 s
  else
    if x8 = 0 then
      zrb 0 s
    else
      zbi (zf172 x7 s) fun v1 s2 =>
      if v1 = 0 then
        zrb 0 s2
      else
        zrb 1 s2
theorem zf180_57_ok {K : cx_K} (hK : Kok K) {lg : Nat → Int64} {v : Int32} {s' : zS} {a0 : Nat} (h0 : zsh a0 = 11)   {x3 : Int32} {x7 : Int32} {x8 : Int32}  {s : zS} (hF : zf180_57 a0 x3 x7 x8 s = some (v, s')) : Ev K zM180 (57, [some (.ref a0), none, none, some (.int x3), none, none, none, some (.int x7), some (.int x8)], [], zmk lg s) 0 (.inl (some (.int v))) (zmk lg s') 0 := by
  unfold zf180_57 at hF
  refine Ev_p 2 (c' := (60, [some (.ref a0), none, none, some (.int x3), none, none, none, some (.int x7), some (.int x8)], [.int 121, .int x3])) rfl ?_
  refine Ez_if (M := zM180) (b := ¬ x3 = 121) rfl rfl hF (fun _ hF => ?_) (fun _ hF => ?_)
  · refine Ev_p 1 (c' := (81, [some (.ref a0), none, none, some (.int x3), none, none, none, some (.int x7), some (.int x8)], [.int 0])) rfl ?_
    exact Ez_rb (M := zM180) rfl rfl hF
  · refine Ev_p 1 (c' := (65, [some (.ref a0), none, none, some (.int x3), none, none, none, some (.int x7), some (.int x8)], [.int x8])) rfl ?_
    refine Ez_if (M := zM180) (b := x8 = 0) rfl rfl hF (fun _ hF => ?_) (fun _ hF => ?_)
    · refine Ev_p 1 (c' := (81, [some (.ref a0), none, none, some (.int x3), none, none, none, some (.int x7), some (.int x8)], [.int 0])) rfl ?_
      exact Ez_rb (M := zM180) rfl rfl hF
    · refine Ev_p 1 (c' := (70, [some (.ref a0), none, none, some (.int x3), none, none, none, some (.int x7), some (.int x8)], [.int x7])) rfl ?_
      refine Ez_ci (M := zM180) (As := [.int x7]) (st' := []) (zsite_0 (y := 172) (k := 1) (ci := 11) rfl rfl) (Nat.le_of_ble_eq_true rfl) (Nat.le_of_ble_eq_true rfl) rfl rfl (fun _ _ hF => zf172_ok hK  hF) hF (fun v1 s2 hF => ?_)
      refine Ev_p 0 (c' := (73, [some (.ref a0), none, none, some (.int x3), none, none, none, some (.int x7), some (.int x8)], [.int v1])) rfl ?_
      refine Ez_if (M := zM180) (b := v1 = 0) rfl rfl hF (fun _ hF => ?_) (fun _ hF => ?_)
      · refine Ev_p 1 (c' := (81, [some (.ref a0), none, none, some (.int x3), none, none, none, some (.int x7), some (.int x8)], [.int 0])) rfl ?_
        exact Ez_rb (M := zM180) rfl rfl hF
      · refine Ev_p 2 (c' := (81, [some (.ref a0), none, none, some (.int x3), none, none, none, some (.int x7), some (.int x8)], [.int 1])) rfl ?_
        exact Ez_rb (M := zM180) rfl rfl hF
noncomputable def zf180_103 (a0 : Nat)  (x7 : Int32) (x8 : Int32) (s : zS) : Option (Int32 × zS) :=
  if x8 = 0 then
    zrb 0 s
  else
    zbi (zf172 x7 s) fun v1 s2 =>
    if v1 = 0 then
      zrb 0 s2
    else
      zrb 1 s2
theorem zf180_103_ok {K : cx_K} (hK : Kok K) {lg : Nat → Int64} {v : Int32} {s' : zS} {a0 : Nat} (h0 : zsh a0 = 11)   {x7 : Int32} {x8 : Int32}  {s : zS} (hF : zf180_103 a0 x7 x8 s = some (v, s')) : Ev K zM180 (103, [some (.ref a0), none, none, none, none, none, none, some (.int x7), some (.int x8)], [], zmk lg s) 0 (.inl (some (.int v))) (zmk lg s') 0 := by
  unfold zf180_103 at hF
  refine Ev_p 1 (c' := (105, [some (.ref a0), none, none, none, none, none, none, some (.int x7), some (.int x8)], [.int x8])) rfl ?_
  refine Ez_if (M := zM180) (b := x8 = 0) rfl rfl hF (fun _ hF => ?_) (fun _ hF => ?_)
  · refine Ev_p 1 (c' := (121, [some (.ref a0), none, none, none, none, none, none, some (.int x7), some (.int x8)], [.int 0])) rfl ?_
    exact Ez_rb (M := zM180) rfl rfl hF
  · refine Ev_p 1 (c' := (110, [some (.ref a0), none, none, none, none, none, none, some (.int x7), some (.int x8)], [.int x7])) rfl ?_
    refine Ez_ci (M := zM180) (As := [.int x7]) (st' := []) (zsite_0 (y := 172) (k := 1) (ci := 11) rfl rfl) (Nat.le_of_ble_eq_true rfl) (Nat.le_of_ble_eq_true rfl) rfl rfl (fun _ _ hF => zf172_ok hK  hF) hF (fun v1 s2 hF => ?_)
    refine Ev_p 0 (c' := (113, [some (.ref a0), none, none, none, none, none, none, some (.int x7), some (.int x8)], [.int v1])) rfl ?_
    refine Ez_if (M := zM180) (b := v1 = 0) rfl rfl hF (fun _ hF => ?_) (fun _ hF => ?_)
    · refine Ev_p 1 (c' := (121, [some (.ref a0), none, none, none, none, none, none, some (.int x7), some (.int x8)], [.int 0])) rfl ?_
      exact Ez_rb (M := zM180) rfl rfl hF
    · refine Ev_p 2 (c' := (121, [some (.ref a0), none, none, none, none, none, none, some (.int x7), some (.int x8)], [.int 1])) rfl ?_
      exact Ez_rb (M := zM180) rfl rfl hF
noncomputable def zf180_36 (a0 : Nat)  (x1 : Int32) (x3 : Int32) (x4 : Int32) (x5 : Int32) (x6 : Int32) (x7 : Int32) (t0 : Int32) (s : zS) : Option (Int32 × zS) :=
  if ¬ x1 = 1 then
    if x6 = 115 then
      if x3 = 110 then
        zf180_103 a0 x7 t0 s
      else
        if ¬ x3 = 102 then
          if ¬ x3 = 98 then
            if ¬ x3 = 122 then
              if ¬ x3 = 107 then
                zrb 0 s
              else
                if t0 = 0 then
                  zrb 0 s
                else
                  zbi (zf156 x7 s) fun v1 s2 =>
                  if v1 = 0 then
                    zrb 0 s2
                  else
                    zrb 1 s2
            else
              zbi (zf156 x7 s) fun v3 s4 =>
              if v3 = 0 then
                zrb 0 s4
              else
                if x7 = 48 then
                  zrb 0 s4
                else
                  if ¬ t0 = 0 then
                    zrb 1 s4
                  else
                    if ¬ (x5 - x4) = 2 then
                      zrb 0 s4
                    else
                      zbi (zf165 a0 x1 (x4 + 1) s4) fun v5 s6 =>
                      zbi (zf156 v5 s6) fun v7 s8 =>
                      if v7 = 0 then
                        zrb 0 s8
                      else
                        zrb 1 s8
          else
            if t0 = 0 then
              zrb 0 s
            else
              if x7 = 48 then
                zrb 1 s
              else
                if ¬ x7 = 49 then
                  zrb 0 s
                else
                  zrb 1 s
        else
          zf180_103 a0 x7 t0 s
    else
      zrb 0 s
  else
    if x6 = 112 then
      zf180_57 a0 x3 x7 t0 s
    else
      if ¬ x6 = 120 then
        zrb 0 s
      else
        zf180_57 a0 x3 x7 t0 s
theorem zf180_36_ok {K : cx_K} (hK : Kok K) {lg : Nat → Int64} {v : Int32} {s' : zS} {a0 : Nat} (h0 : zsh a0 = 11)   {x1 : Int32} {x3 : Int32} {x4 : Int32} {x5 : Int32} {x6 : Int32} {x7 : Int32} {t0 : Int32}  {s : zS} (hF : zf180_36 a0 x1 x3 x4 x5 x6 x7 t0 s = some (v, s')) : Ev K zM180 (36, [some (.ref a0), some (.int x1), none, some (.int x3), some (.int x4), some (.int x5), some (.int x6), some (.int x7), none], [.int t0], zmk lg s) 0 (.inl (some (.int v))) (zmk lg s') 0 := by
  unfold zf180_36 at hF
  refine Ev_p 3 (c' := (40, [some (.ref a0), some (.int x1), none, some (.int x3), some (.int x4), some (.int x5), some (.int x6), some (.int x7), some (.int t0)], [.int 1, .int x1])) rfl ?_
  refine Ez_if (M := zM180) (b := ¬ x1 = 1) rfl rfl hF (fun _ hF => ?_) (fun _ hF => ?_)
  · refine Ev_p 2 (c' := (86, [some (.ref a0), some (.int x1), none, some (.int x3), some (.int x4), some (.int x5), some (.int x6), some (.int x7), some (.int t0)], [.int 115, .int x6])) rfl ?_
    refine Ez_if (M := zM180) (b := x6 = 115) rfl rfl hF (fun _ hF => ?_) (fun _ hF => ?_)
    · refine Ev_p 2 (c' := (94, [some (.ref a0), some (.int x1), none, some (.int x3), some (.int x4), some (.int x5), some (.int x6), some (.int x7), some (.int t0)], [.int 110, .int x3])) rfl ?_
      refine Ez_if (M := zM180) (b := x3 = 110) rfl rfl hF (fun _ hF => ?_) (fun _ hF => ?_)
      · refine Ev_p 0 (c' := (103, [some (.ref a0), some (.int x1), none, some (.int x3), some (.int x4), some (.int x5), some (.int x6), some (.int x7), some (.int t0)], [])) rfl ?_
        refine Ev_w (L' := [some (.ref a0), none, none, none, none, none, none, some (.int x7), some (.int t0)]) (zle_c (zle_n (zle_c (zle_n (zle_n (zle_n (zle_n (zle_c (zle_c zle_0))))))))) ?_
        exact zf180_103_ok hK h0 hF
      · refine Ev_p 2 (c' := (100, [some (.ref a0), some (.int x1), none, some (.int x3), some (.int x4), some (.int x5), some (.int x6), some (.int x7), some (.int t0)], [.int 102, .int x3])) rfl ?_
        refine Ez_if (M := zM180) (b := ¬ x3 = 102) rfl rfl hF (fun _ hF => ?_) (fun _ hF => ?_)
        · refine Ev_p 2 (c' := (125, [some (.ref a0), some (.int x1), none, some (.int x3), some (.int x4), some (.int x5), some (.int x6), some (.int x7), some (.int t0)], [.int 98, .int x3])) rfl ?_
          refine Ez_if (M := zM180) (b := ¬ x3 = 98) rfl rfl hF (fun _ hF => ?_) (fun _ hF => ?_)
          · refine Ev_p 2 (c' := (156, [some (.ref a0), some (.int x1), none, some (.int x3), some (.int x4), some (.int x5), some (.int x6), some (.int x7), some (.int t0)], [.int 122, .int x3])) rfl ?_
            refine Ez_if (M := zM180) (b := ¬ x3 = 122) rfl rfl hF (fun _ hF => ?_) (fun _ hF => ?_)
            · refine Ev_p 2 (c' := (212, [some (.ref a0), some (.int x1), none, some (.int x3), some (.int x4), some (.int x5), some (.int x6), some (.int x7), some (.int t0)], [.int 107, .int x3])) rfl ?_
              refine Ez_if (M := zM180) (b := ¬ x3 = 107) rfl rfl hF (fun _ hF => ?_) (fun _ hF => ?_)
              · refine Ev_p 1 (c' := (233, [some (.ref a0), some (.int x1), none, some (.int x3), some (.int x4), some (.int x5), some (.int x6), some (.int x7), some (.int t0)], [.int 0])) rfl ?_
                exact Ez_rb (M := zM180) rfl rfl hF
              · refine Ev_p 1 (c' := (217, [some (.ref a0), some (.int x1), none, some (.int x3), some (.int x4), some (.int x5), some (.int x6), some (.int x7), some (.int t0)], [.int t0])) rfl ?_
                refine Ez_if (M := zM180) (b := t0 = 0) rfl rfl hF (fun _ hF => ?_) (fun _ hF => ?_)
                · refine Ev_p 1 (c' := (233, [some (.ref a0), some (.int x1), none, some (.int x3), some (.int x4), some (.int x5), some (.int x6), some (.int x7), some (.int t0)], [.int 0])) rfl ?_
                  exact Ez_rb (M := zM180) rfl rfl hF
                · refine Ev_p 1 (c' := (222, [some (.ref a0), some (.int x1), none, some (.int x3), some (.int x4), some (.int x5), some (.int x6), some (.int x7), some (.int t0)], [.int x7])) rfl ?_
                  refine Ez_ci (M := zM180) (As := [.int x7]) (st' := []) (zsite_0 (y := 156) (k := 1) (ci := 11) rfl rfl) (Nat.le_of_ble_eq_true rfl) (Nat.le_of_ble_eq_true rfl) rfl rfl (fun _ _ hF => zf156_ok hK  hF) hF (fun v1 s2 hF => ?_)
                  refine Ev_p 0 (c' := (225, [some (.ref a0), some (.int x1), none, some (.int x3), some (.int x4), some (.int x5), some (.int x6), some (.int x7), some (.int t0)], [.int v1])) rfl ?_
                  refine Ez_if (M := zM180) (b := v1 = 0) rfl rfl hF (fun _ hF => ?_) (fun _ hF => ?_)
                  · refine Ev_p 1 (c' := (233, [some (.ref a0), some (.int x1), none, some (.int x3), some (.int x4), some (.int x5), some (.int x6), some (.int x7), some (.int t0)], [.int 0])) rfl ?_
                    exact Ez_rb (M := zM180) rfl rfl hF
                  · refine Ev_p 2 (c' := (233, [some (.ref a0), some (.int x1), none, some (.int x3), some (.int x4), some (.int x5), some (.int x6), some (.int x7), some (.int t0)], [.int 1])) rfl ?_
                    exact Ez_rb (M := zM180) rfl rfl hF
            · refine Ev_p 1 (c' := (161, [some (.ref a0), some (.int x1), none, some (.int x3), some (.int x4), some (.int x5), some (.int x6), some (.int x7), some (.int t0)], [.int x7])) rfl ?_
              refine Ez_ci (M := zM180) (As := [.int x7]) (st' := []) (zsite_0 (y := 156) (k := 1) (ci := 11) rfl rfl) (Nat.le_of_ble_eq_true rfl) (Nat.le_of_ble_eq_true rfl) rfl rfl (fun _ _ hF => zf156_ok hK  hF) hF (fun v3 s4 hF => ?_)
              refine Ev_p 0 (c' := (164, [some (.ref a0), some (.int x1), none, some (.int x3), some (.int x4), some (.int x5), some (.int x6), some (.int x7), some (.int t0)], [.int v3])) rfl ?_
              refine Ez_if (M := zM180) (b := v3 = 0) rfl rfl hF (fun _ hF => ?_) (fun _ hF => ?_)
              · refine Ev_p 1 (c' := (208, [some (.ref a0), some (.int x1), none, some (.int x3), some (.int x4), some (.int x5), some (.int x6), some (.int x7), some (.int t0)], [.int 0])) rfl ?_
                exact Ez_rb (M := zM180) rfl rfl hF
              · refine Ev_p 2 (c' := (171, [some (.ref a0), some (.int x1), none, some (.int x3), some (.int x4), some (.int x5), some (.int x6), some (.int x7), some (.int t0)], [.int 48, .int x7])) rfl ?_
                refine Ez_if (M := zM180) (b := x7 = 48) rfl rfl hF (fun _ hF => ?_) (fun _ hF => ?_)
                · refine Ev_p 1 (c' := (208, [some (.ref a0), some (.int x1), none, some (.int x3), some (.int x4), some (.int x5), some (.int x6), some (.int x7), some (.int t0)], [.int 0])) rfl ?_
                  exact Ez_rb (M := zM180) rfl rfl hF
                · refine Ev_p 1 (c' := (176, [some (.ref a0), some (.int x1), none, some (.int x3), some (.int x4), some (.int x5), some (.int x6), some (.int x7), some (.int t0)], [.int t0])) rfl ?_
                  refine Ez_if (M := zM180) (b := ¬ t0 = 0) rfl rfl hF (fun _ hF => ?_) (fun _ hF => ?_)
                  · refine Ev_p 2 (c' := (208, [some (.ref a0), some (.int x1), none, some (.int x3), some (.int x4), some (.int x5), some (.int x6), some (.int x7), some (.int t0)], [.int 1])) rfl ?_
                    exact Ez_rb (M := zM180) rfl rfl hF
                  · refine Ev_p 4 (c' := (185, [some (.ref a0), some (.int x1), none, some (.int x3), some (.int x4), some (.int x5), some (.int x6), some (.int x7), some (.int t0)], [.int 2, .int (x5 - x4)])) rfl ?_
                    refine Ez_if (M := zM180) (b := ¬ (x5 - x4) = 2) rfl rfl hF (fun _ hF => ?_) (fun _ hF => ?_)
                    · refine Ev_p 1 (c' := (208, [some (.ref a0), some (.int x1), none, some (.int x3), some (.int x4), some (.int x5), some (.int x6), some (.int x7), some (.int t0)], [.int 0])) rfl ?_
                      exact Ez_rb (M := zM180) rfl rfl hF
                    · refine Ev_p 5 (c' := (194, [some (.ref a0), some (.int x1), none, some (.int x3), some (.int x4), some (.int x5), some (.int x6), some (.int x7), some (.int t0)], [.int (x4 + 1), .int x1, .ref a0])) rfl ?_
                      refine Ez_ci (M := zM180) (As := [.ref a0, .int x1, .int (x4 + 1)]) (st' := []) (am_site_v (y := 165) (k := 3) (ci := 11) rfl rfl (zrcv rfl h0 rfl)) (Nat.le_of_ble_eq_true rfl) (Nat.le_of_ble_eq_true rfl) rfl rfl (fun _ _ hF => zf165_ok hK h0 hF) hF (fun v5 s6 hF => ?_)
                      refine Ev_p 0 (c' := (197, [some (.ref a0), some (.int x1), none, some (.int x3), some (.int x4), some (.int x5), some (.int x6), some (.int x7), some (.int t0)], [.int v5])) rfl ?_
                      refine Ez_ci (M := zM180) (As := [.int v5]) (st' := []) (zsite_0 (y := 156) (k := 1) (ci := 11) rfl rfl) (Nat.le_of_ble_eq_true rfl) (Nat.le_of_ble_eq_true rfl) rfl rfl (fun _ _ hF => zf156_ok hK  hF) hF (fun v7 s8 hF => ?_)
                      refine Ev_p 0 (c' := (200, [some (.ref a0), some (.int x1), none, some (.int x3), some (.int x4), some (.int x5), some (.int x6), some (.int x7), some (.int t0)], [.int v7])) rfl ?_
                      refine Ez_if (M := zM180) (b := v7 = 0) rfl rfl hF (fun _ hF => ?_) (fun _ hF => ?_)
                      · refine Ev_p 1 (c' := (208, [some (.ref a0), some (.int x1), none, some (.int x3), some (.int x4), some (.int x5), some (.int x6), some (.int x7), some (.int t0)], [.int 0])) rfl ?_
                        exact Ez_rb (M := zM180) rfl rfl hF
                      · refine Ev_p 2 (c' := (208, [some (.ref a0), some (.int x1), none, some (.int x3), some (.int x4), some (.int x5), some (.int x6), some (.int x7), some (.int t0)], [.int 1])) rfl ?_
                        exact Ez_rb (M := zM180) rfl rfl hF
          · refine Ev_p 1 (c' := (130, [some (.ref a0), some (.int x1), none, some (.int x3), some (.int x4), some (.int x5), some (.int x6), some (.int x7), some (.int t0)], [.int t0])) rfl ?_
            refine Ez_if (M := zM180) (b := t0 = 0) rfl rfl hF (fun _ hF => ?_) (fun _ hF => ?_)
            · refine Ev_p 1 (c' := (152, [some (.ref a0), some (.int x1), none, some (.int x3), some (.int x4), some (.int x5), some (.int x6), some (.int x7), some (.int t0)], [.int 0])) rfl ?_
              exact Ez_rb (M := zM180) rfl rfl hF
            · refine Ev_p 2 (c' := (137, [some (.ref a0), some (.int x1), none, some (.int x3), some (.int x4), some (.int x5), some (.int x6), some (.int x7), some (.int t0)], [.int 48, .int x7])) rfl ?_
              refine Ez_if (M := zM180) (b := x7 = 48) rfl rfl hF (fun _ hF => ?_) (fun _ hF => ?_)
              · refine Ev_p 2 (c' := (152, [some (.ref a0), some (.int x1), none, some (.int x3), some (.int x4), some (.int x5), some (.int x6), some (.int x7), some (.int t0)], [.int 1])) rfl ?_
                exact Ez_rb (M := zM180) rfl rfl hF
              · refine Ev_p 2 (c' := (144, [some (.ref a0), some (.int x1), none, some (.int x3), some (.int x4), some (.int x5), some (.int x6), some (.int x7), some (.int t0)], [.int 49, .int x7])) rfl ?_
                refine Ez_if (M := zM180) (b := ¬ x7 = 49) rfl rfl hF (fun _ hF => ?_) (fun _ hF => ?_)
                · refine Ev_p 1 (c' := (152, [some (.ref a0), some (.int x1), none, some (.int x3), some (.int x4), some (.int x5), some (.int x6), some (.int x7), some (.int t0)], [.int 0])) rfl ?_
                  exact Ez_rb (M := zM180) rfl rfl hF
                · refine Ev_p 2 (c' := (152, [some (.ref a0), some (.int x1), none, some (.int x3), some (.int x4), some (.int x5), some (.int x6), some (.int x7), some (.int t0)], [.int 1])) rfl ?_
                  exact Ez_rb (M := zM180) rfl rfl hF
        · refine Ev_p 0 (c' := (103, [some (.ref a0), some (.int x1), none, some (.int x3), some (.int x4), some (.int x5), some (.int x6), some (.int x7), some (.int t0)], [])) rfl ?_
          refine Ev_w (L' := [some (.ref a0), none, none, none, none, none, none, some (.int x7), some (.int t0)]) (zle_c (zle_n (zle_c (zle_n (zle_n (zle_n (zle_n (zle_c (zle_c zle_0))))))))) ?_
          exact zf180_103_ok hK h0 hF
    · refine Ev_p 1 (c' := (90, [some (.ref a0), some (.int x1), none, some (.int x3), some (.int x4), some (.int x5), some (.int x6), some (.int x7), some (.int t0)], [.int 0])) rfl ?_
      exact Ez_rb (M := zM180) rfl rfl hF
  · refine Ev_p 2 (c' := (47, [some (.ref a0), some (.int x1), none, some (.int x3), some (.int x4), some (.int x5), some (.int x6), some (.int x7), some (.int t0)], [.int 112, .int x6])) rfl ?_
    refine Ez_if (M := zM180) (b := x6 = 112) rfl rfl hF (fun _ hF => ?_) (fun _ hF => ?_)
    · refine Ev_p 0 (c' := (57, [some (.ref a0), some (.int x1), none, some (.int x3), some (.int x4), some (.int x5), some (.int x6), some (.int x7), some (.int t0)], [])) rfl ?_
      refine Ev_w (L' := [some (.ref a0), none, none, some (.int x3), none, none, none, some (.int x7), some (.int t0)]) (zle_c (zle_n (zle_c (zle_c (zle_n (zle_n (zle_n (zle_c (zle_c zle_0))))))))) ?_
      exact zf180_57_ok hK h0 hF
    · refine Ev_p 2 (c' := (54, [some (.ref a0), some (.int x1), none, some (.int x3), some (.int x4), some (.int x5), some (.int x6), some (.int x7), some (.int t0)], [.int 120, .int x6])) rfl ?_
      refine Ez_if (M := zM180) (b := ¬ x6 = 120) rfl rfl hF (fun _ hF => ?_) (fun _ hF => ?_)
      · refine Ev_p 1 (c' := (81, [some (.ref a0), some (.int x1), none, some (.int x3), some (.int x4), some (.int x5), some (.int x6), some (.int x7), some (.int t0)], [.int 0])) rfl ?_
        exact Ez_rb (M := zM180) rfl rfl hF
      · refine Ev_p 0 (c' := (57, [some (.ref a0), some (.int x1), none, some (.int x3), some (.int x4), some (.int x5), some (.int x6), some (.int x7), some (.int t0)], [])) rfl ?_
        refine Ev_w (L' := [some (.ref a0), none, none, some (.int x3), none, none, none, some (.int x7), some (.int t0)]) (zle_c (zle_n (zle_c (zle_c (zle_n (zle_n (zle_n (zle_c (zle_c zle_0))))))))) ?_
        exact zf180_57_ok hK h0 hF
noncomputable def zf180 (a0 : Nat) (x1 : Int32) (x2 : Int32) (x3 : Int32) (x4 : Int32) (x5 : Int32) (s : zS) : Option (Int32 × zS) :=
  zal s (zrf a0 10) ((30 * x1) + x2) fun v1 =>
  zbi (zf165 a0 x1 x4 s) fun v2 s3 =>
  if ¬ (x5 - x4) = 1 then
    zf180_36 a0 x1 x3 x4 x5 v1 v2 0 s3
  else
    zf180_36 a0 x1 x3 x4 x5 v1 v2 1 s3
theorem zf180_ok {K : cx_K} (hK : Kok K) {lg : Nat → Int64} {v : Int32} {s' : zS} {a0 : Nat} (h0 : zsh a0 = 11) {x1 : Int32} {x2 : Int32} {x3 : Int32} {x4 : Int32} {x5 : Int32} {s : zS} (hF : zf180 a0 x1 x2 x3 x4 x5 s = some (v, s')) : Ct K 180 [.ref a0, .int x1, .int x2, .int x3, .int x4, .int x5] (zmk lg s) (.inl (some (.int v))) (zmk lg s') 0 := by
  unfold zf180 at hF
  refine Ct_of hK nd_ok180 (mL := 9) (rt := some .boolean) rfl rfl (Nat.le_of_ble_eq_true rfl) zlen_le ?_
  refine Ev_p 1 (c' := (1, [some (.ref a0), some (.int x1), some (.int x2), some (.int x3), some (.int x4), some (.int x5), none, none, none], [.ref a0])) rfl ?_
  refine Ez_gr (M := zM180) (ci := 11) (f := 10) (t := 100) rfl rfl h0 rfl ?_
  refine Ev_p 5 (c' := (10, [some (.ref a0), some (.int x1), some (.int x2), some (.int x3), some (.int x4), some (.int x5), none, none, none], [.int ((30 * x1) + x2), .ref (zrf a0 10)])) rfl ?_
  refine Ez_al (M := zM180) rfl (zty (ci := 11) (f := 10) (t := 100) h0 rfl) hF (fun v1 hF => ?_)
  refine Ev_p 4 (c' := (17, [some (.ref a0), some (.int x1), some (.int x2), some (.int x3), some (.int x4), some (.int x5), some (.int v1), none, none], [.int x4, .int x1, .ref a0])) rfl ?_
  refine Ez_ci (M := zM180) (As := [.ref a0, .int x1, .int x4]) (st' := []) (am_site_v (y := 165) (k := 3) (ci := 11) rfl rfl (zrcv rfl h0 rfl)) (Nat.le_of_ble_eq_true rfl) (Nat.le_of_ble_eq_true rfl) rfl rfl (fun _ _ hF => zf165_ok hK h0 hF) hF (fun v2 s3 hF => ?_)
  refine Ev_p 5 (c' := (28, [some (.ref a0), some (.int x1), some (.int x2), some (.int x3), some (.int x4), some (.int x5), some (.int v1), some (.int v2), none], [.int 1, .int (x5 - x4)])) rfl ?_
  refine Ez_if (M := zM180) (b := ¬ (x5 - x4) = 1) rfl rfl hF (fun _ hF => ?_) (fun _ hF => ?_)
  · refine Ev_p 1 (c' := (36, [some (.ref a0), some (.int x1), some (.int x2), some (.int x3), some (.int x4), some (.int x5), some (.int v1), some (.int v2), none], [.int 0])) rfl ?_
    refine Ev_w (L' := [some (.ref a0), some (.int x1), none, some (.int x3), some (.int x4), some (.int x5), some (.int v1), some (.int v2), none]) (zle_c (zle_c (zle_n (zle_c (zle_c (zle_c (zle_c (zle_c (zle_c zle_0))))))))) ?_
    exact zf180_36_ok hK h0 hF
  · refine Ev_p 2 (c' := (36, [some (.ref a0), some (.int x1), some (.int x2), some (.int x3), some (.int x4), some (.int x5), some (.int v1), some (.int v2), none], [.int 1])) rfl ?_
    refine Ev_w (L' := [some (.ref a0), some (.int x1), none, some (.int x3), some (.int x4), some (.int x5), some (.int v1), some (.int v2), none]) (zle_c (zle_c (zle_n (zle_c (zle_c (zle_c (zle_c (zle_c (zle_c zle_0))))))))) ?_
    exact zf180_36_ok hK h0 hF

/-! The methods as functions, and that the machine goes so (printed by wip/gen/fgen.py). -/
set_option maxRecDepth 100000
set_option linter.unusedVariables false
-- PaperParcels$Elements.firstLetter(I)I
abbrev zM58 : ev_M := (am_in nd_i58, am_fl nd_f5, am_ct nd_k5, am_sl nd_ml nd_s58, fun _ => none, some .int)
noncomputable def zf58_7 (a0 : Nat)  : Nat → Int32 → Int32 → zS → Option (Int32 × zS)
  | 0, _, _, _ => none
  | n + 1, x1, x2, s =>
    zgf s (zrf a0 0) 1 fun v1 =>
    if v1 ≤ x2 then
      some ((-1), s)
    else
      zal s (zrf a0 10) x2 fun v2 =>
      if ¬ v2 = x1 then
        zf58_7 a0 n x1 (x2 + 1) s
      else
        some (x2, s)
theorem zf58_7_ok {K : cx_K} (hK : Kok K) {lg : Nat → Int64} {v : Int32} {s' : zS} {a0 : Nat} (h0 : zsh a0 = 5)   {n : Nat} : ∀ {x1 : Int32} {x2 : Int32} {s : zS}, zf58_7 a0 n x1 x2 s = some (v, s') → Ev K zM58 (7, [some (.ref a0), some (.int x1), some (.int x2)], [], zmk lg s) 0 (.inl (some (.int v))) (zmk lg s') 0 := by
  induction n with
  | zero => intro x1 x2 s hF; rw [zf58_7] at hF; cases hF
  | succ n ih =>
    intro x1 x2 s hF
    rw [zf58_7] at hF
    refine Ev_p 2 (c' := (9, [some (.ref a0), some (.int x1), some (.int x2)], [.ref a0, .int x2])) rfl ?_
    refine Ez_gr (M := zM58) (ci := 5) (f := 0) (t := 1) rfl rfl h0 rfl ?_
    refine Ev_p 0 (c' := (12, [some (.ref a0), some (.int x1), some (.int x2)], [.ref (zrf a0 0), .int x2])) rfl ?_
    refine Ez_gf (M := zM58) (ci := 1) (f := 1) rfl rfl (zty (ci := 5) (f := 0) (t := 1) h0 rfl) rfl hF (fun v1 hF => ?_)
    refine Ev_p 0 (c' := (15, [some (.ref a0), some (.int x1), some (.int x2)], [.int v1, .int x2])) rfl ?_
    refine Ez_if (M := zM58) (b := v1 ≤ x2) rfl rfl hF (fun _ hF => ?_) (fun _ hF => ?_)
    · refine Ev_p 1 (c' := (37, [some (.ref a0), some (.int x1), some (.int x2)], [.int (-1)])) rfl ?_
      exact Ez_ri (M := zM58) rfl rfl hF
    · refine Ev_p 1 (c' := (19, [some (.ref a0), some (.int x1), some (.int x2)], [.ref a0])) rfl ?_
      refine Ez_gr (M := zM58) (ci := 5) (f := 10) (t := 100) rfl rfl h0 rfl ?_
      refine Ev_p 1 (c' := (23, [some (.ref a0), some (.int x1), some (.int x2)], [.int x2, .ref (zrf a0 10)])) rfl ?_
      refine Ez_al (M := zM58) rfl (zty (ci := 5) (f := 10) (t := 100) h0 rfl) hF (fun v2 hF => ?_)
      refine Ev_p 1 (c' := (25, [some (.ref a0), some (.int x1), some (.int x2)], [.int x1, .int v2])) rfl ?_
      refine Ez_if (M := zM58) (b := ¬ v2 = x1) rfl rfl hF (fun _ hF => ?_) (fun _ hF => ?_)
      · refine Ev_p 2 (c' := (7, [some (.ref a0), some (.int x1), some (.int (x2 + 1))], [])) rfl ?_
        exact ih hF
      · refine Ev_p 1 (c' := (29, [some (.ref a0), some (.int x1), some (.int x2)], [.int x2])) rfl ?_
        exact Ez_ri (M := zM58) rfl rfl hF
noncomputable def zf58 (a0 : Nat) (x1 : Int32) (s : zS) : Option (Int32 × zS) :=
  zal s (zrf a0 2) x1 fun v1 =>
  zf58_7 a0 zfz x1 v1 s
theorem zf58_ok {K : cx_K} (hK : Kok K) {lg : Nat → Int64} {v : Int32} {s' : zS} {a0 : Nat} (h0 : zsh a0 = 5) {x1 : Int32} {s : zS} (hF : zf58 a0 x1 s = some (v, s')) : Ct K 58 [.ref a0, .int x1] (zmk lg s) (.inl (some (.int v))) (zmk lg s') 0 := by
  unfold zf58 at hF
  refine Ct_of hK nd_ok58 (mL := 3) (rt := some .int) rfl rfl (Nat.le_of_ble_eq_true rfl) zlen_le ?_
  refine Ev_p 1 (c' := (1, [some (.ref a0), some (.int x1), none], [.ref a0])) rfl ?_
  refine Ez_gr (M := zM58) (ci := 5) (f := 2) (t := 100) rfl rfl h0 rfl ?_
  refine Ev_p 1 (c' := (5, [some (.ref a0), some (.int x1), none], [.int x1, .ref (zrf a0 2)])) rfl ?_
  refine Ez_al (M := zM58) rfl (zty (ci := 5) (f := 2) (t := 100) h0 rfl) hF (fun v1 hF => ?_)
  refine Ev_p 1 (c' := (7, [some (.ref a0), some (.int x1), some (.int v1)], [])) rfl ?_
  exact zf58_7_ok hK h0 hF
-- PaperParcels$Elements.hasDirectlyIn(III)Z
abbrev zM60 : ev_M := (am_in nd_i60, am_fl nd_f5, am_ct nd_k5, am_sl nd_ml nd_s60, fun _ => none, some .boolean)
noncomputable def zf60_5 (a0 : Nat)  : Nat → Int32 → Int32 → Int32 → Int32 → zS → Option (Int32 × zS)
  | 0, _, _, _, _, _ => none
  | n + 1, x1, x2, x3, x4, s =>
    zgf s a0 6 fun v1 =>
    if v1 ≤ x4 then
      zrb 0 s
    else
      zal s (zrf a0 3) x4 fun v2 =>
      if ¬ v2 = x1 then
        zf60_5 a0 n x1 x2 x3 (x4 + 1) s
      else
        zal s (zrf a0 1) x4 fun v3 =>
        if v3 = x2 then
          zrb 1 s
        else
          zal s (zrf a0 1) x4 fun v4 =>
          if ¬ v4 = x3 then
            zf60_5 a0 n x1 x2 x3 (x4 + 1) s
          else
            zrb 1 s
theorem zf60_5_ok {K : cx_K} (hK : Kok K) {lg : Nat → Int64} {v : Int32} {s' : zS} {a0 : Nat} (h0 : zsh a0 = 5)   {n : Nat} : ∀ {x1 : Int32} {x2 : Int32} {x3 : Int32} {x4 : Int32} {s : zS}, zf60_5 a0 n x1 x2 x3 x4 s = some (v, s') → Ev K zM60 (5, [some (.ref a0), some (.int x1), some (.int x2), some (.int x3), some (.int x4)], [], zmk lg s) 0 (.inl (some (.int v))) (zmk lg s') 0 := by
  induction n with
  | zero => intro x1 x2 x3 x4 s hF; rw [zf60_5] at hF; cases hF
  | succ n ih =>
    intro x1 x2 x3 x4 s hF
    rw [zf60_5] at hF
    refine Ev_p 2 (c' := (8, [some (.ref a0), some (.int x1), some (.int x2), some (.int x3), some (.int x4)], [.ref a0, .int x4])) rfl ?_
    refine Ez_gf (M := zM60) (ci := 5) (f := 6) rfl rfl h0 rfl hF (fun v1 hF => ?_)
    refine Ev_p 0 (c' := (11, [some (.ref a0), some (.int x1), some (.int x2), some (.int x3), some (.int x4)], [.int v1, .int x4])) rfl ?_
    refine Ez_if (M := zM60) (b := v1 ≤ x4) rfl rfl hF (fun _ hF => ?_) (fun _ hF => ?_)
    · refine Ev_p 1 (c' := (56, [some (.ref a0), some (.int x1), some (.int x2), some (.int x3), some (.int x4)], [.int 0])) rfl ?_
      exact Ez_rb (M := zM60) rfl rfl hF
    · refine Ev_p 1 (c' := (15, [some (.ref a0), some (.int x1), some (.int x2), some (.int x3), some (.int x4)], [.ref a0])) rfl ?_
      refine Ez_gr (M := zM60) (ci := 5) (f := 3) (t := 100) rfl rfl h0 rfl ?_
      refine Ev_p 1 (c' := (20, [some (.ref a0), some (.int x1), some (.int x2), some (.int x3), some (.int x4)], [.int x4, .ref (zrf a0 3)])) rfl ?_
      refine Ez_al (M := zM60) rfl (zty (ci := 5) (f := 3) (t := 100) h0 rfl) hF (fun v2 hF => ?_)
      refine Ev_p 1 (c' := (22, [some (.ref a0), some (.int x1), some (.int x2), some (.int x3), some (.int x4)], [.int x1, .int v2])) rfl ?_
      refine Ez_if (M := zM60) (b := ¬ v2 = x1) rfl rfl hF (fun _ hF => ?_) (fun _ hF => ?_)
      · refine Ev_p 2 (c' := (5, [some (.ref a0), some (.int x1), some (.int x2), some (.int x3), some (.int (x4 + 1))], [])) rfl ?_
        exact ih hF
      · refine Ev_p 1 (c' := (26, [some (.ref a0), some (.int x1), some (.int x2), some (.int x3), some (.int x4)], [.ref a0])) rfl ?_
        refine Ez_gr (M := zM60) (ci := 5) (f := 1) (t := 100) rfl rfl h0 rfl ?_
        refine Ev_p 1 (c' := (31, [some (.ref a0), some (.int x1), some (.int x2), some (.int x3), some (.int x4)], [.int x4, .ref (zrf a0 1)])) rfl ?_
        refine Ez_al (M := zM60) rfl (zty (ci := 5) (f := 1) (t := 100) h0 rfl) hF (fun v3 hF => ?_)
        refine Ev_p 1 (c' := (33, [some (.ref a0), some (.int x1), some (.int x2), some (.int x3), some (.int x4)], [.int x2, .int v3])) rfl ?_
        refine Ez_if (M := zM60) (b := v3 = x2) rfl rfl hF (fun _ hF => ?_) (fun _ hF => ?_)
        · refine Ev_p 1 (c' := (48, [some (.ref a0), some (.int x1), some (.int x2), some (.int x3), some (.int x4)], [.int 1])) rfl ?_
          exact Ez_rb (M := zM60) rfl rfl hF
        · refine Ev_p 1 (c' := (37, [some (.ref a0), some (.int x1), some (.int x2), some (.int x3), some (.int x4)], [.ref a0])) rfl ?_
          refine Ez_gr (M := zM60) (ci := 5) (f := 1) (t := 100) rfl rfl h0 rfl ?_
          refine Ev_p 1 (c' := (42, [some (.ref a0), some (.int x1), some (.int x2), some (.int x3), some (.int x4)], [.int x4, .ref (zrf a0 1)])) rfl ?_
          refine Ez_al (M := zM60) rfl (zty (ci := 5) (f := 1) (t := 100) h0 rfl) hF (fun v4 hF => ?_)
          refine Ev_p 1 (c' := (44, [some (.ref a0), some (.int x1), some (.int x2), some (.int x3), some (.int x4)], [.int x3, .int v4])) rfl ?_
          refine Ez_if (M := zM60) (b := ¬ v4 = x3) rfl rfl hF (fun _ hF => ?_) (fun _ hF => ?_)
          · refine Ev_p 2 (c' := (5, [some (.ref a0), some (.int x1), some (.int x2), some (.int x3), some (.int (x4 + 1))], [])) rfl ?_
            exact ih hF
          · refine Ev_p 1 (c' := (48, [some (.ref a0), some (.int x1), some (.int x2), some (.int x3), some (.int x4)], [.int 1])) rfl ?_
            exact Ez_rb (M := zM60) rfl rfl hF
noncomputable def zf60 (a0 : Nat) (x1 : Int32) (x2 : Int32) (x3 : Int32) (s : zS) : Option (Int32 × zS) :=
  zf60_5 a0 zfz x1 x2 x3 (x1 + 1) s
theorem zf60_ok {K : cx_K} (hK : Kok K) {lg : Nat → Int64} {v : Int32} {s' : zS} {a0 : Nat} (h0 : zsh a0 = 5) {x1 : Int32} {x2 : Int32} {x3 : Int32} {s : zS} (hF : zf60 a0 x1 x2 x3 s = some (v, s')) : Ct K 60 [.ref a0, .int x1, .int x2, .int x3] (zmk lg s) (.inl (some (.int v))) (zmk lg s') 0 := by
  unfold zf60 at hF
  refine Ct_of hK nd_ok60 (mL := 5) (rt := some .boolean) rfl rfl (Nat.le_of_ble_eq_true rfl) zlen_le ?_
  refine Ev_p 4 (c' := (5, [some (.ref a0), some (.int x1), some (.int x2), some (.int x3), some (.int (x1 + 1))], [])) rfl ?_
  exact zf60_5_ok hK h0 hF
-- PaperParcels$Rules.lacksElement(LPaperParcels$Elements;I)Z
abbrev zM59 : ev_M := (am_in nd_i59, am_fl nd_f12, am_ct nd_k12, am_sl nd_ml nd_s59, fun _ => none, some .boolean)
noncomputable def zf59_25 (a0 : Nat)  (x1 : Int32) (x2 : Int32) (s : zS) : Option (Int32 × zS) :=
  if ¬ x2 = 105 then
    zrb 0 s
  else
    zbi (zf60 a0 x1 112 108 s) fun v1 s2 =>
    if ¬ v1 = 0 then
      zrb 0 s2
    else
      zrb 1 s2
theorem zf59_25_ok {K : cx_K} (hK : Kok K) {lg : Nat → Int64} {v : Int32} {s' : zS} {a0 : Nat} (h0 : zsh a0 = 5)   {x1 : Int32} {x2 : Int32}  {s : zS} (hF : zf59_25 a0 x1 x2 s = some (v, s')) : Ev K zM59 (25, [some (.ref a0), some (.int x1), some (.int x2)], [], zmk lg s) 0 (.inl (some (.int v))) (zmk lg s') 0 := by
  unfold zf59_25 at hF
  refine Ev_p 2 (c' := (28, [some (.ref a0), some (.int x1), some (.int x2)], [.int 105, .int x2])) rfl ?_
  refine Ez_if (M := zM59) (b := ¬ x2 = 105) rfl rfl hF (fun _ hF => ?_) (fun _ hF => ?_)
  · refine Ev_p 1 (c' := (48, [some (.ref a0), some (.int x1), some (.int x2)], [.int 0])) rfl ?_
    exact Ez_rb (M := zM59) rfl rfl hF
  · refine Ev_p 4 (c' := (37, [some (.ref a0), some (.int x1), some (.int x2)], [.int 108, .int 112, .int x1, .ref a0])) rfl ?_
    refine Ez_ci (M := zM59) (As := [.ref a0, .int x1, .int 112, .int 108]) (st' := []) (am_site_v (y := 60) (k := 4) (ci := 5) rfl rfl (zrcv rfl h0 rfl)) (Nat.le_of_ble_eq_true rfl) (Nat.le_of_ble_eq_true rfl) rfl rfl (fun _ _ hF => zf60_ok hK h0 hF) hF (fun v1 s2 hF => ?_)
    refine Ev_p 0 (c' := (40, [some (.ref a0), some (.int x1), some (.int x2)], [.int v1])) rfl ?_
    refine Ez_if (M := zM59) (b := ¬ v1 = 0) rfl rfl hF (fun _ hF => ?_) (fun _ hF => ?_)
    · refine Ev_p 1 (c' := (48, [some (.ref a0), some (.int x1), some (.int x2)], [.int 0])) rfl ?_
      exact Ez_rb (M := zM59) rfl rfl hF
    · refine Ev_p 2 (c' := (48, [some (.ref a0), some (.int x1), some (.int x2)], [.int 1])) rfl ?_
      exact Ez_rb (M := zM59) rfl rfl hF
noncomputable def zf59 (a0 : Nat) (x1 : Int32) (s : zS) : Option (Int32 × zS) :=
  zal s (zrf a0 1) x1 fun v1 =>
  if ¬ v1 = 108 then
    zf59_25 a0 x1 v1 s
  else
    zbi (zf60 a0 x1 105 105 s) fun v2 s3 =>
    if v2 = 0 then
      zrb 1 s3
    else
      zf59_25 a0 x1 v1 s3
theorem zf59_ok {K : cx_K} (hK : Kok K) {lg : Nat → Int64} {v : Int32} {s' : zS} {a0 : Nat} (h0 : zsh a0 = 5) {x1 : Int32} {s : zS} (hF : zf59 a0 x1 s = some (v, s')) : Ct K 59 [.ref a0, .int x1] (zmk lg s) (.inl (some (.int v))) (zmk lg s') 0 := by
  unfold zf59 at hF
  refine Ct_of hK nd_ok59 (mL := 3) (rt := some .boolean) rfl rfl (Nat.le_of_ble_eq_true rfl) zlen_le ?_
  refine Ev_p 1 (c' := (1, [some (.ref a0), some (.int x1), none], [.ref a0])) rfl ?_
  refine Ez_gr (M := zM59) (ci := 5) (f := 1) (t := 100) rfl rfl h0 rfl ?_
  refine Ev_p 1 (c' := (5, [some (.ref a0), some (.int x1), none], [.int x1, .ref (zrf a0 1)])) rfl ?_
  refine Ez_al (M := zM59) rfl (zty (ci := 5) (f := 1) (t := 100) h0 rfl) hF (fun v1 hF => ?_)
  refine Ev_p 3 (c' := (10, [some (.ref a0), some (.int x1), some (.int v1)], [.int 108, .int v1])) rfl ?_
  refine Ez_if (M := zM59) (b := ¬ v1 = 108) rfl rfl hF (fun _ hF => ?_) (fun _ hF => ?_)
  · refine Ev_p 0 (c' := (25, [some (.ref a0), some (.int x1), some (.int v1)], [])) rfl ?_
    exact zf59_25_ok hK h0 hF
  · refine Ev_p 4 (c' := (19, [some (.ref a0), some (.int x1), some (.int v1)], [.int 105, .int 105, .int x1, .ref a0])) rfl ?_
    refine Ez_ci (M := zM59) (As := [.ref a0, .int x1, .int 105, .int 105]) (st' := []) (am_site_v (y := 60) (k := 4) (ci := 5) rfl rfl (zrcv rfl h0 rfl)) (Nat.le_of_ble_eq_true rfl) (Nat.le_of_ble_eq_true rfl) rfl rfl (fun _ _ hF => zf60_ok hK h0 hF) hF (fun v2 s3 hF => ?_)
    refine Ev_p 0 (c' := (22, [some (.ref a0), some (.int x1), some (.int v1)], [.int v2])) rfl ?_
    refine Ez_if (M := zM59) (b := v2 = 0) rfl rfl hF (fun _ hF => ?_) (fun _ hF => ?_)
    · refine Ev_p 2 (c' := (48, [some (.ref a0), some (.int x1), some (.int v1)], [.int 1])) rfl ?_
      exact Ez_rb (M := zM59) rfl rfl hF
    · refine Ev_p 0 (c' := (25, [some (.ref a0), some (.int x1), some (.int v1)], [])) rfl ?_
      exact zf59_25_ok hK h0 hF
-- PaperParcels$Rules.faultOf(LPaperParcels$Elements;II)I
abbrev zM54 : ev_M := (am_in nd_i54, am_fl nd_f12, am_ct nd_k12, am_sl nd_ml nd_s54, fun _ => none, some .int)
noncomputable def zf54_147 (a0 : Nat)  (x1 : Int32) (t0 : Int32) (s : zS) : Option (Int32 × zS) :=
  if t0 = (-1) then
    zbi (zf59 a0 x1 s) fun v1 s2 =>
    if v1 = 0 then
      some ((-1), s2)
    else
      zal s2 (zrf a0 2) x1 fun v3 =>
      some (v3, s2)
  else
    some (t0, s)
theorem zf54_147_ok {K : cx_K} (hK : Kok K) {lg : Nat → Int64} {v : Int32} {s' : zS} {a0 : Nat} (h0 : zsh a0 = 5)   {x1 : Int32} {t0 : Int32}  {s : zS} (hF : zf54_147 a0 x1 t0 s = some (v, s')) : Ev K zM54 (147, [some (.ref a0), some (.int x1), none, none, none, none, none], [.int t0], zmk lg s) 0 (.inl (some (.int v))) (zmk lg s') 0 := by
  unfold zf54_147 at hF
  refine Ev_p 3 (c' := (152, [some (.ref a0), some (.int x1), none, none, none, none, some (.int t0)], [.int (-1), .int t0])) rfl ?_
  refine Ez_if (M := zM54) (b := t0 = (-1)) rfl rfl hF (fun _ hF => ?_) (fun _ hF => ?_)
  · refine Ev_p 2 (c' := (160, [some (.ref a0), some (.int x1), none, none, none, none, some (.int t0)], [.int x1, .ref a0])) rfl ?_
    refine Ez_ci (M := zM54) (As := [.ref a0, .int x1]) (st' := []) (zsite_0 (y := 59) (k := 2) (ci := 99) rfl rfl) (Nat.le_of_ble_eq_true rfl) (Nat.le_of_ble_eq_true rfl) rfl rfl (fun _ _ hF => zf59_ok hK h0 hF) hF (fun v1 s2 hF => ?_)
    refine Ev_p 0 (c' := (163, [some (.ref a0), some (.int x1), none, none, none, none, some (.int t0)], [.int v1])) rfl ?_
    refine Ez_if (M := zM54) (b := v1 = 0) rfl rfl hF (fun _ hF => ?_) (fun _ hF => ?_)
    · refine Ev_p 1 (c' := (176, [some (.ref a0), some (.int x1), none, none, none, none, some (.int t0)], [.int (-1)])) rfl ?_
      exact Ez_ri (M := zM54) rfl rfl hF
    · refine Ev_p 1 (c' := (167, [some (.ref a0), some (.int x1), none, none, none, none, some (.int t0)], [.ref a0])) rfl ?_
      refine Ez_gr (M := zM54) (ci := 5) (f := 2) (t := 100) rfl rfl h0 rfl ?_
      refine Ev_p 1 (c' := (171, [some (.ref a0), some (.int x1), none, none, none, none, some (.int t0)], [.int x1, .ref (zrf a0 2)])) rfl ?_
      refine Ez_al (M := zM54) rfl (zty (ci := 5) (f := 2) (t := 100) h0 rfl) hF (fun v3 hF => ?_)
      refine Ev_p 1 (c' := (176, [some (.ref a0), some (.int x1), none, none, none, none, some (.int t0)], [.int v3])) rfl ?_
      exact Ez_ri (M := zM54) rfl rfl hF
  · refine Ev_p 1 (c' := (157, [some (.ref a0), some (.int x1), none, none, none, none, some (.int t0)], [.int t0])) rfl ?_
    exact Ez_ri (M := zM54) rfl rfl hF
noncomputable def zf54_126 (a0 : Nat)  (x1 : Int32) (x3 : Int32) (s : zS) : Option (Int32 × zS) :=
  if x3 = 112 then
    zf54_147 a0 x1 (-1) s
  else
    if ¬ x3 = 120 then
      zbi (zf58 a0 x1 s) fun v1 s2 =>
      zf54_147 a0 x1 v1 s2
    else
      zf54_147 a0 x1 (-1) s
theorem zf54_126_ok {K : cx_K} (hK : Kok K) {lg : Nat → Int64} {v : Int32} {s' : zS} {a0 : Nat} (h0 : zsh a0 = 5)   {x1 : Int32} {x3 : Int32}  {s : zS} (hF : zf54_126 a0 x1 x3 s = some (v, s')) : Ev K zM54 (126, [some (.ref a0), some (.int x1), none, some (.int x3), none, none, none], [], zmk lg s) 0 (.inl (some (.int v))) (zmk lg s') 0 := by
  unfold zf54_126 at hF
  refine Ev_p 2 (c' := (129, [some (.ref a0), some (.int x1), none, some (.int x3), none, none, none], [.int 112, .int x3])) rfl ?_
  refine Ez_if (M := zM54) (b := x3 = 112) rfl rfl hF (fun _ hF => ?_) (fun _ hF => ?_)
  · refine Ev_p 2 (c' := (147, [some (.ref a0), some (.int x1), none, some (.int x3), none, none, none], [.int (-1)])) rfl ?_
    refine Ev_w (L' := [some (.ref a0), some (.int x1), none, none, none, none, none]) (zle_c (zle_c (zle_c (zle_n (zle_c (zle_c (zle_c zle_0))))))) ?_
    exact zf54_147_ok hK h0 hF
  · refine Ev_p 2 (c' := (135, [some (.ref a0), some (.int x1), none, some (.int x3), none, none, none], [.int 120, .int x3])) rfl ?_
    refine Ez_if (M := zM54) (b := ¬ x3 = 120) rfl rfl hF (fun _ hF => ?_) (fun _ hF => ?_)
    · refine Ev_p 2 (c' := (144, [some (.ref a0), some (.int x1), none, some (.int x3), none, none, none], [.int x1, .ref a0])) rfl ?_
      refine Ez_ci (M := zM54) (As := [.ref a0, .int x1]) (st' := []) (am_site_v (y := 58) (k := 2) (ci := 5) rfl rfl (zrcv rfl h0 rfl)) (Nat.le_of_ble_eq_true rfl) (Nat.le_of_ble_eq_true rfl) rfl rfl (fun _ _ hF => zf58_ok hK h0 hF) hF (fun v1 s2 hF => ?_)
      refine Ev_p 0 (c' := (147, [some (.ref a0), some (.int x1), none, some (.int x3), none, none, none], [.int v1])) rfl ?_
      refine Ev_w (L' := [some (.ref a0), some (.int x1), none, none, none, none, none]) (zle_c (zle_c (zle_c (zle_n (zle_c (zle_c (zle_c zle_0))))))) ?_
      exact zf54_147_ok hK h0 hF
    · refine Ev_p 2 (c' := (147, [some (.ref a0), some (.int x1), none, some (.int x3), none, none, none], [.int (-1)])) rfl ?_
      refine Ev_w (L' := [some (.ref a0), some (.int x1), none, none, none, none, none]) (zle_c (zle_c (zle_c (zle_n (zle_c (zle_c (zle_c zle_0))))))) ?_
      exact zf54_147_ok hK h0 hF
noncomputable def zf54_67 (a0 : Nat)  : Nat → Int32 → Int32 → Int32 → zS → Option (Int32 × zS)
  | 0, _, _, _, _ => none
  | n + 1, x1, x3, x6, s =>
    zal s (zrf a0 5) x1 fun v1 =>
    if v1 ≤ x6 then
      if ¬ x3 = 115 then
        zf54_126 a0 x1 x3 s
      else
        zbi (zf46 a0 x1 110 s) fun v2 s3 =>
        if ¬ v2 = (-1) then
          zf54_126 a0 x1 x3 s3
        else
          zal s3 (zrf a0 2) x1 fun v4 =>
          some (v4, s3)
    else
      zbi (zf56 a0 x3 x6 s) fun v5 s6 =>
      if ¬ v5 = 0 then
        zf54_67 a0 n x1 x3 (x6 + 1) s6
      else
        zal s6 (zrf a0 7) x6 fun v7 =>
        some (v7, s6)
theorem zf54_67_ok {K : cx_K} (hK : Kok K) {lg : Nat → Int64} {v : Int32} {s' : zS} {a0 : Nat} (h0 : zsh a0 = 5)   {n : Nat} : ∀ {x1 : Int32} {x3 : Int32} {x6 : Int32} {s : zS}, zf54_67 a0 n x1 x3 x6 s = some (v, s') → Ev K zM54 (67, [some (.ref a0), some (.int x1), none, some (.int x3), none, none, some (.int x6)], [], zmk lg s) 0 (.inl (some (.int v))) (zmk lg s') 0 := by
  induction n with
  | zero => intro x1 x3 x6 s hF; rw [zf54_67] at hF; cases hF
  | succ n ih =>
    intro x1 x3 x6 s hF
    rw [zf54_67] at hF
    refine Ev_p 2 (c' := (70, [some (.ref a0), some (.int x1), none, some (.int x3), none, none, some (.int x6)], [.ref a0, .int x6])) rfl ?_
    refine Ez_gr (M := zM54) (ci := 5) (f := 5) (t := 100) rfl rfl h0 rfl ?_
    refine Ev_p 1 (c' := (74, [some (.ref a0), some (.int x1), none, some (.int x3), none, none, some (.int x6)], [.int x1, .ref (zrf a0 5), .int x6])) rfl ?_
    refine Ez_al (M := zM54) rfl (zty (ci := 5) (f := 5) (t := 100) h0 rfl) hF (fun v1 hF => ?_)
    refine Ev_p 0 (c' := (75, [some (.ref a0), some (.int x1), none, some (.int x3), none, none, some (.int x6)], [.int v1, .int x6])) rfl ?_
    refine Ez_if (M := zM54) (b := v1 ≤ x6) rfl rfl hF (fun _ hF => ?_) (fun _ hF => ?_)
    · refine Ev_p 2 (c' := (105, [some (.ref a0), some (.int x1), none, some (.int x3), none, none, some (.int x6)], [.int 115, .int x3])) rfl ?_
      refine Ez_if (M := zM54) (b := ¬ x3 = 115) rfl rfl hF (fun _ hF => ?_) (fun _ hF => ?_)
      · refine Ev_p 0 (c' := (126, [some (.ref a0), some (.int x1), none, some (.int x3), none, none, some (.int x6)], [])) rfl ?_
        refine Ev_w (L' := [some (.ref a0), some (.int x1), none, some (.int x3), none, none, none]) (zle_c (zle_c (zle_c (zle_c (zle_c (zle_c (zle_n zle_0))))))) ?_
        exact zf54_126_ok hK h0 hF
      · refine Ev_p 3 (c' := (112, [some (.ref a0), some (.int x1), none, some (.int x3), none, none, some (.int x6)], [.int 110, .int x1, .ref a0])) rfl ?_
        refine Ez_ci (M := zM54) (As := [.ref a0, .int x1, .int 110]) (st' := []) (am_site_v (y := 46) (k := 3) (ci := 5) rfl rfl (zrcv rfl h0 rfl)) (Nat.le_of_ble_eq_true rfl) (Nat.le_of_ble_eq_true rfl) rfl rfl (fun _ _ hF => zf46_ok hK h0 hF) hF (fun v2 s3 hF => ?_)
        refine Ev_p 1 (c' := (116, [some (.ref a0), some (.int x1), none, some (.int x3), none, none, some (.int x6)], [.int (-1), .int v2])) rfl ?_
        refine Ez_if (M := zM54) (b := ¬ v2 = (-1)) rfl rfl hF (fun _ hF => ?_) (fun _ hF => ?_)
        · refine Ev_p 0 (c' := (126, [some (.ref a0), some (.int x1), none, some (.int x3), none, none, some (.int x6)], [])) rfl ?_
          refine Ev_w (L' := [some (.ref a0), some (.int x1), none, some (.int x3), none, none, none]) (zle_c (zle_c (zle_c (zle_c (zle_c (zle_c (zle_n zle_0))))))) ?_
          exact zf54_126_ok hK h0 hF
        · refine Ev_p 1 (c' := (120, [some (.ref a0), some (.int x1), none, some (.int x3), none, none, some (.int x6)], [.ref a0])) rfl ?_
          refine Ez_gr (M := zM54) (ci := 5) (f := 2) (t := 100) rfl rfl h0 rfl ?_
          refine Ev_p 1 (c' := (124, [some (.ref a0), some (.int x1), none, some (.int x3), none, none, some (.int x6)], [.int x1, .ref (zrf a0 2)])) rfl ?_
          refine Ez_al (M := zM54) rfl (zty (ci := 5) (f := 2) (t := 100) h0 rfl) hF (fun v4 hF => ?_)
          refine Ev_p 0 (c' := (125, [some (.ref a0), some (.int x1), none, some (.int x3), none, none, some (.int x6)], [.int v4])) rfl ?_
          exact Ez_ri (M := zM54) rfl rfl hF
    · refine Ev_p 3 (c' := (82, [some (.ref a0), some (.int x1), none, some (.int x3), none, none, some (.int x6)], [.int x6, .int x3, .ref a0])) rfl ?_
      refine Ez_ci (M := zM54) (As := [.ref a0, .int x3, .int x6]) (st' := []) (zsite_0 (y := 56) (k := 3) (ci := 99) rfl rfl) (Nat.le_of_ble_eq_true rfl) (Nat.le_of_ble_eq_true rfl) rfl rfl (fun _ _ hF => zf56_ok hK h0 hF) hF (fun v5 s6 hF => ?_)
      refine Ev_p 0 (c' := (85, [some (.ref a0), some (.int x1), none, some (.int x3), none, none, some (.int x6)], [.int v5])) rfl ?_
      refine Ez_if (M := zM54) (b := ¬ v5 = 0) rfl rfl hF (fun _ hF => ?_) (fun _ hF => ?_)
      · refine Ev_p 2 (c' := (67, [some (.ref a0), some (.int x1), none, some (.int x3), none, none, some (.int (x6 + 1))], [])) rfl ?_
        exact ih hF
      · refine Ev_p 1 (c' := (89, [some (.ref a0), some (.int x1), none, some (.int x3), none, none, some (.int x6)], [.ref a0])) rfl ?_
        refine Ez_gr (M := zM54) (ci := 5) (f := 7) (t := 100) rfl rfl h0 rfl ?_
        refine Ev_p 1 (c' := (94, [some (.ref a0), some (.int x1), none, some (.int x3), none, none, some (.int x6)], [.int x6, .ref (zrf a0 7)])) rfl ?_
        refine Ez_al (M := zM54) rfl (zty (ci := 5) (f := 7) (t := 100) h0 rfl) hF (fun v7 hF => ?_)
        refine Ev_p 0 (c' := (95, [some (.ref a0), some (.int x1), none, some (.int x3), none, none, some (.int x6)], [.int v7])) rfl ?_
        exact Ez_ri (M := zM54) rfl rfl hF
noncomputable def zf54_45 (a0 : Nat)  (x1 : Int32) (x3 : Int32) (t0 : Int32) (s : zS) : Option (Int32 × zS) :=
  if ¬ t0 = 0 then
    zal s (zrf a0 4) x1 fun v1 =>
    zf54_67 a0 zfz x1 x3 v1 s
  else
    zal s (zrf a0 2) x1 fun v2 =>
    some (v2, s)
theorem zf54_45_ok {K : cx_K} (hK : Kok K) {lg : Nat → Int64} {v : Int32} {s' : zS} {a0 : Nat} (h0 : zsh a0 = 5)   {x1 : Int32} {x3 : Int32} {t0 : Int32}  {s : zS} (hF : zf54_45 a0 x1 x3 t0 s = some (v, s')) : Ev K zM54 (45, [some (.ref a0), some (.int x1), none, some (.int x3), none, none, none], [.int t0], zmk lg s) 0 (.inl (some (.int v))) (zmk lg s') 0 := by
  unfold zf54_45 at hF
  refine Ev_p 2 (c' := (49, [some (.ref a0), some (.int x1), none, some (.int x3), none, some (.int t0), none], [.int t0])) rfl ?_
  refine Ez_if (M := zM54) (b := ¬ t0 = 0) rfl rfl hF (fun _ hF => ?_) (fun _ hF => ?_)
  · refine Ev_p 1 (c' := (60, [some (.ref a0), some (.int x1), none, some (.int x3), none, some (.int t0), none], [.ref a0])) rfl ?_
    refine Ez_gr (M := zM54) (ci := 5) (f := 4) (t := 100) rfl rfl h0 rfl ?_
    refine Ev_p 1 (c' := (64, [some (.ref a0), some (.int x1), none, some (.int x3), none, some (.int t0), none], [.int x1, .ref (zrf a0 4)])) rfl ?_
    refine Ez_al (M := zM54) rfl (zty (ci := 5) (f := 4) (t := 100) h0 rfl) hF (fun v1 hF => ?_)
    refine Ev_p 1 (c' := (67, [some (.ref a0), some (.int x1), none, some (.int x3), none, some (.int t0), some (.int v1)], [])) rfl ?_
    refine Ev_w (L' := [some (.ref a0), some (.int x1), none, some (.int x3), none, none, some (.int v1)]) (zle_c (zle_c (zle_c (zle_c (zle_c (zle_n (zle_c zle_0))))))) ?_
    exact zf54_67_ok hK h0 hF
  · refine Ev_p 1 (c' := (53, [some (.ref a0), some (.int x1), none, some (.int x3), none, some (.int t0), none], [.ref a0])) rfl ?_
    refine Ez_gr (M := zM54) (ci := 5) (f := 2) (t := 100) rfl rfl h0 rfl ?_
    refine Ev_p 1 (c' := (57, [some (.ref a0), some (.int x1), none, some (.int x3), none, some (.int t0), none], [.int x1, .ref (zrf a0 2)])) rfl ?_
    refine Ez_al (M := zM54) rfl (zty (ci := 5) (f := 2) (t := 100) h0 rfl) hF (fun v2 hF => ?_)
    refine Ev_p 0 (c' := (58, [some (.ref a0), some (.int x1), none, some (.int x3), none, some (.int t0), none], [.int v2])) rfl ?_
    exact Ez_ri (M := zM54) rfl rfl hF
noncomputable def zf54 (a0 : Nat) (x1 : Int32) (x2 : Int32) (s : zS) : Option (Int32 × zS) :=
  zal s (zrf a0 1) x1 fun v1 =>
  zal s (zrf a0 3) x1 fun v2 =>
  if ¬ v2 = (-1) then
    zal s (zrf a0 1) v2 fun v3 =>
    zbi (zf55 v1 v3 s) fun v4 s5 =>
    zf54_45 a0 x1 v1 v4 s5
  else
    if ¬ v1 = x2 then
      zf54_45 a0 x1 v1 0 s
    else
      zf54_45 a0 x1 v1 1 s
theorem zf54_ok {K : cx_K} (hK : Kok K) {lg : Nat → Int64} {v : Int32} {s' : zS} {a0 : Nat} (h0 : zsh a0 = 5) {x1 : Int32} {x2 : Int32} {s : zS} (hF : zf54 a0 x1 x2 s = some (v, s')) : Ct K 54 [.ref a0, .int x1, .int x2] (zmk lg s) (.inl (some (.int v))) (zmk lg s') 0 := by
  unfold zf54 at hF
  refine Ct_of hK nd_ok54 (mL := 7) (rt := some .int) rfl rfl (Nat.le_of_ble_eq_true rfl) zlen_le ?_
  refine Ev_p 1 (c' := (1, [some (.ref a0), some (.int x1), some (.int x2), none, none, none, none], [.ref a0])) rfl ?_
  refine Ez_gr (M := zM54) (ci := 5) (f := 1) (t := 100) rfl rfl h0 rfl ?_
  refine Ev_p 1 (c' := (5, [some (.ref a0), some (.int x1), some (.int x2), none, none, none, none], [.int x1, .ref (zrf a0 1)])) rfl ?_
  refine Ez_al (M := zM54) rfl (zty (ci := 5) (f := 1) (t := 100) h0 rfl) hF (fun v1 hF => ?_)
  refine Ev_p 2 (c' := (8, [some (.ref a0), some (.int x1), some (.int x2), some (.int v1), none, none, none], [.ref a0])) rfl ?_
  refine Ez_gr (M := zM54) (ci := 5) (f := 3) (t := 100) rfl rfl h0 rfl ?_
  refine Ev_p 1 (c' := (12, [some (.ref a0), some (.int x1), some (.int x2), some (.int v1), none, none, none], [.int x1, .ref (zrf a0 3)])) rfl ?_
  refine Ez_al (M := zM54) rfl (zty (ci := 5) (f := 3) (t := 100) h0 rfl) hF (fun v2 hF => ?_)
  refine Ev_p 3 (c' := (18, [some (.ref a0), some (.int x1), some (.int x2), some (.int v1), some (.int v2), none, none], [.int (-1), .int v2])) rfl ?_
  refine Ez_if (M := zM54) (b := ¬ v2 = (-1)) rfl rfl hF (fun _ hF => ?_) (fun _ hF => ?_)
  · refine Ev_p 2 (c' := (36, [some (.ref a0), some (.int x1), some (.int x2), some (.int v1), some (.int v2), none, none], [.ref a0, .int v1])) rfl ?_
    refine Ez_gr (M := zM54) (ci := 5) (f := 1) (t := 100) rfl rfl h0 rfl ?_
    refine Ev_p 1 (c' := (41, [some (.ref a0), some (.int x1), some (.int x2), some (.int v1), some (.int v2), none, none], [.int v2, .ref (zrf a0 1), .int v1])) rfl ?_
    refine Ez_al (M := zM54) rfl (zty (ci := 5) (f := 1) (t := 100) h0 rfl) hF (fun v3 hF => ?_)
    refine Ev_p 0 (c' := (42, [some (.ref a0), some (.int x1), some (.int x2), some (.int v1), some (.int v2), none, none], [.int v3, .int v1])) rfl ?_
    refine Ez_ci (M := zM54) (As := [.int v1, .int v3]) (st' := []) (zsite_0 (y := 55) (k := 2) (ci := 99) rfl rfl) (Nat.le_of_ble_eq_true rfl) (Nat.le_of_ble_eq_true rfl) rfl rfl (fun _ _ hF => zf55_ok hK  hF) hF (fun v4 s5 hF => ?_)
    refine Ev_p 0 (c' := (45, [some (.ref a0), some (.int x1), some (.int x2), some (.int v1), some (.int v2), none, none], [.int v4])) rfl ?_
    refine Ev_w (L' := [some (.ref a0), some (.int x1), none, some (.int v1), none, none, none]) (zle_c (zle_c (zle_n (zle_c (zle_n (zle_c (zle_c zle_0))))))) ?_
    exact zf54_45_ok hK h0 hF
  · refine Ev_p 2 (c' := (23, [some (.ref a0), some (.int x1), some (.int x2), some (.int v1), some (.int v2), none, none], [.int x2, .int v1])) rfl ?_
    refine Ez_if (M := zM54) (b := ¬ v1 = x2) rfl rfl hF (fun _ hF => ?_) (fun _ hF => ?_)
    · refine Ev_p 2 (c' := (45, [some (.ref a0), some (.int x1), some (.int x2), some (.int v1), some (.int v2), none, none], [.int 0])) rfl ?_
      refine Ev_w (L' := [some (.ref a0), some (.int x1), none, some (.int v1), none, none, none]) (zle_c (zle_c (zle_n (zle_c (zle_n (zle_c (zle_c zle_0))))))) ?_
      exact zf54_45_ok hK h0 hF
    · refine Ev_p 2 (c' := (45, [some (.ref a0), some (.int x1), some (.int x2), some (.int v1), some (.int v2), none, none], [.int 1])) rfl ?_
      refine Ev_w (L' := [some (.ref a0), some (.int x1), none, some (.int v1), none, none, none]) (zle_c (zle_c (zle_n (zle_c (zle_n (zle_c (zle_c zle_0))))))) ?_
      exact zf54_45_ok hK h0 hF
-- PaperParcels$Rules.firstFault(LPaperParcels$Elements;I)I
abbrev zM53 : ev_M := (am_in nd_i53, am_fl nd_f12, am_ct nd_k12, am_sl nd_ml nd_s53, fun _ => none, some .int)
noncomputable def zf53_2 (a0 : Nat)  : Nat → Int32 → Int32 → zS → Option (Int32 × zS)
  | 0, _, _, _ => none
  | n + 1, x1, x2, s =>
    zgf s a0 6 fun v1 =>
    if v1 ≤ x2 then
      some ((-1), s)
    else
      zbi (zf54 a0 x2 x1 s) fun v2 s3 =>
      if v2 = (-1) then
        zf53_2 a0 n x1 (x2 + 1) s3
      else
        some (v2, s3)
theorem zf53_2_ok {K : cx_K} (hK : Kok K) {lg : Nat → Int64} {v : Int32} {s' : zS} {a0 : Nat} (h0 : zsh a0 = 5)   {n : Nat} : ∀ {x1 : Int32} {x2 : Int32} {s : zS}, zf53_2 a0 n x1 x2 s = some (v, s') → Ev K zM53 (2, [some (.ref a0), some (.int x1), some (.int x2), none], [], zmk lg s) 0 (.inl (some (.int v))) (zmk lg s') 0 := by
  induction n with
  | zero => intro x1 x2 s hF; rw [zf53_2] at hF; cases hF
  | succ n ih =>
    intro x1 x2 s hF
    rw [zf53_2] at hF
    refine Ev_p 2 (c' := (4, [some (.ref a0), some (.int x1), some (.int x2), none], [.ref a0, .int x2])) rfl ?_
    refine Ez_gf (M := zM53) (ci := 5) (f := 6) rfl rfl h0 rfl hF (fun v1 hF => ?_)
    refine Ev_p 0 (c' := (7, [some (.ref a0), some (.int x1), some (.int x2), none], [.int v1, .int x2])) rfl ?_
    refine Ez_if (M := zM53) (b := v1 ≤ x2) rfl rfl hF (fun _ hF => ?_) (fun _ hF => ?_)
    · refine Ev_p 1 (c' := (31, [some (.ref a0), some (.int x1), some (.int x2), none], [.int (-1)])) rfl ?_
      exact Ez_ri (M := zM53) rfl rfl hF
    · refine Ev_p 3 (c' := (13, [some (.ref a0), some (.int x1), some (.int x2), none], [.int x1, .int x2, .ref a0])) rfl ?_
      refine Ez_ci (M := zM53) (As := [.ref a0, .int x2, .int x1]) (st' := []) (zsite_0 (y := 54) (k := 3) (ci := 99) rfl rfl) (Nat.le_of_ble_eq_true rfl) (Nat.le_of_ble_eq_true rfl) rfl rfl (fun _ _ hF => zf54_ok hK h0 hF) hF (fun v2 s3 hF => ?_)
      refine Ev_p 3 (c' := (19, [some (.ref a0), some (.int x1), some (.int x2), some (.int v2)], [.int (-1), .int v2])) rfl ?_
      refine Ez_if (M := zM53) (b := v2 = (-1)) rfl rfl hF (fun _ hF => ?_) (fun _ hF => ?_)
      · refine Ev_p 2 (c' := (2, [some (.ref a0), some (.int x1), some (.int (x2 + 1)), some (.int v2)], [])) rfl ?_
        refine Ev_w (L' := [some (.ref a0), some (.int x1), some (.int (x2 + 1)), none]) (zle_c (zle_c (zle_c (zle_n zle_0)))) ?_
        exact ih hF
      · refine Ev_p 1 (c' := (23, [some (.ref a0), some (.int x1), some (.int x2), some (.int v2)], [.int v2])) rfl ?_
        exact Ez_ri (M := zM53) rfl rfl hF
noncomputable def zf53 (a0 : Nat) (x1 : Int32) (s : zS) : Option (Int32 × zS) :=
  zf53_2 a0 zfz x1 0 s
theorem zf53_ok {K : cx_K} (hK : Kok K) {lg : Nat → Int64} {v : Int32} {s' : zS} {a0 : Nat} (h0 : zsh a0 = 5) {x1 : Int32} {s : zS} (hF : zf53 a0 x1 s = some (v, s')) : Ct K 53 [.ref a0, .int x1] (zmk lg s) (.inl (some (.int v))) (zmk lg s') 0 := by
  unfold zf53 at hF
  refine Ct_of hK nd_ok53 (mL := 4) (rt := some .int) rfl rfl (Nat.le_of_ble_eq_true rfl) zlen_le ?_
  refine Ev_p 2 (c' := (2, [some (.ref a0), some (.int x1), some (.int 0), none], [])) rfl ?_
  exact zf53_2_ok hK h0 hF
-- PaperParcels$Styles.nameIn(LPaperParcels$Elements;II)I
abbrev zM63 : ev_M := (am_in nd_i63, am_fl nd_f6, am_ct nd_k6, am_sl nd_ml nd_s63, fun _ => none, some .int)
noncomputable def zf63 (a0 : Nat) (x1 : Int32) (x2 : Int32) (s : zS) : Option (Int32 × zS) :=
  zbi (zf46 a0 x1 x2 s) fun v1 s2 =>
  if v1 = (-1) then
    some ((-1), s2)
  else
    zbi (zf57 a0 v1 0 s2) fun v3 s4 =>
    zbi (zf49 v3 s4) fun v5 s6 =>
    if ¬ v5 = 0 then
      zbi (zf57 a0 v1 0 s6) fun v7 s8 =>
      some ((v7 - 65), s8)
    else
      some ((-1), s6)
theorem zf63_ok {K : cx_K} (hK : Kok K) {lg : Nat → Int64} {v : Int32} {s' : zS} {a0 : Nat} (h0 : zsh a0 = 5) {x1 : Int32} {x2 : Int32} {s : zS} (hF : zf63 a0 x1 x2 s = some (v, s')) : Ct K 63 [.ref a0, .int x1, .int x2] (zmk lg s) (.inl (some (.int v))) (zmk lg s') 0 := by
  unfold zf63 at hF
  refine Ct_of hK nd_ok63 (mL := 4) (rt := some .int) rfl rfl (Nat.le_of_ble_eq_true rfl) zlen_le ?_
  refine Ev_p 3 (c' := (3, [some (.ref a0), some (.int x1), some (.int x2), none], [.int x2, .int x1, .ref a0])) rfl ?_
  refine Ez_ci (M := zM63) (As := [.ref a0, .int x1, .int x2]) (st' := []) (am_site_v (y := 46) (k := 3) (ci := 5) rfl rfl (zrcv rfl h0 rfl)) (Nat.le_of_ble_eq_true rfl) (Nat.le_of_ble_eq_true rfl) rfl rfl (fun _ _ hF => zf46_ok hK h0 hF) hF (fun v1 s2 hF => ?_)
  refine Ev_p 3 (c' := (9, [some (.ref a0), some (.int x1), some (.int x2), some (.int v1)], [.int (-1), .int v1])) rfl ?_
  refine Ez_if (M := zM63) (b := v1 = (-1)) rfl rfl hF (fun _ hF => ?_) (fun _ hF => ?_)
  · refine Ev_p 1 (c' := (25, [some (.ref a0), some (.int x1), some (.int x2), some (.int v1)], [.int (-1)])) rfl ?_
    exact Ez_ri (M := zM63) rfl rfl hF
  · refine Ev_p 3 (c' := (15, [some (.ref a0), some (.int x1), some (.int x2), some (.int v1)], [.int 0, .int v1, .ref a0])) rfl ?_
    refine Ez_ci (M := zM63) (As := [.ref a0, .int v1, .int 0]) (st' := []) (am_site_v (y := 57) (k := 3) (ci := 5) rfl rfl (zrcv rfl h0 rfl)) (Nat.le_of_ble_eq_true rfl) (Nat.le_of_ble_eq_true rfl) rfl rfl (fun _ _ hF => zf57_ok hK h0 hF) hF (fun v3 s4 hF => ?_)
    refine Ev_p 0 (c' := (18, [some (.ref a0), some (.int x1), some (.int x2), some (.int v1)], [.int v3])) rfl ?_
    refine Ez_ci (M := zM63) (As := [.int v3]) (st' := []) (zsite_3 (y := 49) (k := 1) (ci := 0) rfl rfl) (Nat.le_of_ble_eq_true rfl) (Nat.le_of_ble_eq_true rfl) rfl rfl (fun _ _ hF => zf49_ok hK  hF) hF (fun v5 s6 hF => ?_)
    refine Ev_p 0 (c' := (21, [some (.ref a0), some (.int x1), some (.int x2), some (.int v1)], [.int v5])) rfl ?_
    refine Ez_if (M := zM63) (b := ¬ v5 = 0) rfl rfl hF (fun _ hF => ?_) (fun _ hF => ?_)
    · refine Ev_p 3 (c' := (29, [some (.ref a0), some (.int x1), some (.int x2), some (.int v1)], [.int 0, .int v1, .ref a0])) rfl ?_
      refine Ez_ci (M := zM63) (As := [.ref a0, .int v1, .int 0]) (st' := []) (am_site_v (y := 57) (k := 3) (ci := 5) rfl rfl (zrcv rfl h0 rfl)) (Nat.le_of_ble_eq_true rfl) (Nat.le_of_ble_eq_true rfl) rfl rfl (fun _ _ hF => zf57_ok hK h0 hF) hF (fun v7 s8 hF => ?_)
      refine Ev_p 2 (c' := (35, [some (.ref a0), some (.int x1), some (.int x2), some (.int v1)], [.int (v7 - 65)])) rfl ?_
      exact Ez_ri (M := zM63) rfl rfl hF
    · refine Ev_p 1 (c' := (25, [some (.ref a0), some (.int x1), some (.int x2), some (.int v1)], [.int (-1)])) rfl ?_
      exact Ez_ri (M := zM63) rfl rfl hF
-- PaperParcels$Styles.firstNamedAgain()I
abbrev zM62 : ev_M := (am_in nd_i62, am_fl nd_f6, am_ct nd_k6, am_sl nd_ml nd_s62, fun _ => none, some .int)
noncomputable def zf62_49 (a0 : Nat) (k10 : Int32 → zS → Option (Int32 × zS)) (x1 : Int32) (x2 : Int32) (s : zS) : Option (Int32 × zS) :=
  if x2 = (-1) then
    k10 (x1 + 1) s
  else
    zas s (zrf a0 2) x2 x1 fun s1 =>
    k10 (x1 + 1) s1
theorem zf62_49_ok {K : cx_K} (hK : Kok K) {lg : Nat → Int64} {v : Int32} {s' : zS} {a0 : Nat} (h0 : zsh a0 = 6) {k10 : Int32 → zS → Option (Int32 × zS)} (hk10 : ∀ x1 s, k10 x1 s = some (v, s') → Ev K zM62 (10, [some (.ref a0), some (.int x1), none], [], zmk lg s) 0 (.inl (some (.int v))) (zmk lg s') 0) {x1 : Int32} {x2 : Int32}  {s : zS} (hF : zf62_49 a0 k10 x1 x2 s = some (v, s')) : Ev K zM62 (49, [some (.ref a0), some (.int x1), some (.int x2)], [], zmk lg s) 0 (.inl (some (.int v))) (zmk lg s') 0 := by
  unfold zf62_49 at hF
  refine Ev_p 2 (c' := (51, [some (.ref a0), some (.int x1), some (.int x2)], [.int (-1), .int x2])) rfl ?_
  refine Ez_if (M := zM62) (b := x2 = (-1)) rfl rfl hF (fun _ hF => ?_) (fun _ hF => ?_)
  · refine Ev_p 2 (c' := (10, [some (.ref a0), some (.int (x1 + 1)), some (.int x2)], [])) rfl ?_
    refine Ev_w (L' := [some (.ref a0), some (.int (x1 + 1)), none]) (zle_c (zle_c (zle_n zle_0))) ?_
    exact hk10 _ _ hF
  · refine Ev_p 1 (c' := (55, [some (.ref a0), some (.int x1), some (.int x2)], [.ref a0])) rfl ?_
    refine Ez_gr (M := zM62) (ci := 6) (f := 2) (t := 100) rfl rfl h0 rfl ?_
    refine Ev_p 2 (c' := (60, [some (.ref a0), some (.int x1), some (.int x2)], [.int x1, .int x2, .ref (zrf a0 2)])) rfl ?_
    refine Ez_as (M := zM62) rfl (zty (ci := 6) (f := 2) (t := 100) h0 rfl) hF (fun s1 hF => ?_)
    refine Ev_p 2 (c' := (10, [some (.ref a0), some (.int (x1 + 1)), some (.int x2)], [])) rfl ?_
    refine Ev_w (L' := [some (.ref a0), some (.int (x1 + 1)), none]) (zle_c (zle_c (zle_n zle_0))) ?_
    exact hk10 _ _ hF
noncomputable def zf62_10 (a0 : Nat)  : Nat → Int32 → zS → Option (Int32 × zS)
  | 0, _, _ => none
  | n + 1, x1, s =>
    zgf s (zrf a0 0) 6 fun v1 =>
    if v1 ≤ x1 then
      some ((-1), s)
    else
      zbi (zf63 (zrf a0 0) x1 110 s) fun v2 s3 =>
      if v2 = (-1) then
        zf62_49 a0 (zf62_10 a0 n) x1 v2 s3
      else
        zal s3 (zrf a0 2) v2 fun v4 =>
        if v4 = (-1) then
          zf62_49 a0 (zf62_10 a0 n) x1 v2 s3
        else
          some (x1, s3)
theorem zf62_10_ok {K : cx_K} (hK : Kok K) {lg : Nat → Int64} {v : Int32} {s' : zS} {a0 : Nat} (h0 : zsh a0 = 6)   {n : Nat} : ∀ {x1 : Int32} {s : zS}, zf62_10 a0 n x1 s = some (v, s') → Ev K zM62 (10, [some (.ref a0), some (.int x1), none], [], zmk lg s) 0 (.inl (some (.int v))) (zmk lg s') 0 := by
  induction n with
  | zero => intro x1 s hF; rw [zf62_10] at hF; cases hF
  | succ n ih =>
    intro x1 s hF
    rw [zf62_10] at hF
    refine Ev_p 2 (c' := (12, [some (.ref a0), some (.int x1), none], [.ref a0, .int x1])) rfl ?_
    refine Ez_gr (M := zM62) (ci := 6) (f := 0) (t := 5) rfl rfl h0 rfl ?_
    refine Ev_p 0 (c' := (15, [some (.ref a0), some (.int x1), none], [.ref (zrf a0 0), .int x1])) rfl ?_
    refine Ez_gf (M := zM62) (ci := 5) (f := 6) rfl rfl (zty (ci := 6) (f := 0) (t := 5) h0 rfl) rfl hF (fun v1 hF => ?_)
    refine Ev_p 0 (c' := (18, [some (.ref a0), some (.int x1), none], [.int v1, .int x1])) rfl ?_
    refine Ez_if (M := zM62) (b := v1 ≤ x1) rfl rfl hF (fun _ hF => ?_) (fun _ hF => ?_)
    · refine Ev_p 1 (c' := (68, [some (.ref a0), some (.int x1), none], [.int (-1)])) rfl ?_
      exact Ez_ri (M := zM62) rfl rfl hF
    · refine Ev_p 1 (c' := (22, [some (.ref a0), some (.int x1), none], [.ref a0])) rfl ?_
      refine Ez_gr (M := zM62) (ci := 6) (f := 0) (t := 5) rfl rfl h0 rfl ?_
      refine Ev_p 2 (c' := (28, [some (.ref a0), some (.int x1), none], [.int 110, .int x1, .ref (zrf a0 0)])) rfl ?_
      refine Ez_ci (M := zM62) (As := [.ref (zrf a0 0), .int x1, .int 110]) (st' := []) (zsite_0 (y := 63) (k := 3) (ci := 6) rfl rfl) (Nat.le_of_ble_eq_true rfl) (Nat.le_of_ble_eq_true rfl) rfl rfl (fun _ _ hF => zf63_ok hK (zty (ci := 6) (f := 0) (t := 5) h0 rfl) hF) hF (fun v2 s3 hF => ?_)
      refine Ev_p 3 (c' := (34, [some (.ref a0), some (.int x1), some (.int v2)], [.int (-1), .int v2])) rfl ?_
      refine Ez_if (M := zM62) (b := v2 = (-1)) rfl rfl hF (fun _ hF => ?_) (fun _ hF => ?_)
      · refine Ev_p 0 (c' := (49, [some (.ref a0), some (.int x1), some (.int v2)], [])) rfl ?_
        exact zf62_49_ok hK h0 (fun _ _ hF => ih hF) hF
      · refine Ev_p 1 (c' := (38, [some (.ref a0), some (.int x1), some (.int v2)], [.ref a0])) rfl ?_
        refine Ez_gr (M := zM62) (ci := 6) (f := 2) (t := 100) rfl rfl h0 rfl ?_
        refine Ev_p 1 (c' := (42, [some (.ref a0), some (.int x1), some (.int v2)], [.int v2, .ref (zrf a0 2)])) rfl ?_
        refine Ez_al (M := zM62) rfl (zty (ci := 6) (f := 2) (t := 100) h0 rfl) hF (fun v4 hF => ?_)
        refine Ev_p 1 (c' := (44, [some (.ref a0), some (.int x1), some (.int v2)], [.int (-1), .int v4])) rfl ?_
        refine Ez_if (M := zM62) (b := v4 = (-1)) rfl rfl hF (fun _ hF => ?_) (fun _ hF => ?_)
        · refine Ev_p 0 (c' := (49, [some (.ref a0), some (.int x1), some (.int v2)], [])) rfl ?_
          exact zf62_49_ok hK h0 (fun _ _ hF => ih hF) hF
        · refine Ev_p 1 (c' := (48, [some (.ref a0), some (.int x1), some (.int v2)], [.int x1])) rfl ?_
          exact Ez_ri (M := zM62) rfl rfl hF
noncomputable def zf62 (a0 : Nat) (s : zS) : Option (Int32 × zS) :=
  zbv (zf41 (zrf a0 2) (-1) s) fun s2 =>
  zf62_10 a0 zfz 1 s2
theorem zf62_ok {K : cx_K} (hK : Kok K) {lg : Nat → Int64} {v : Int32} {s' : zS} {a0 : Nat} (h0 : zsh a0 = 6)  {s : zS} (hF : zf62 a0 s = some (v, s')) : Ct K 62 [.ref a0] (zmk lg s) (.inl (some (.int v))) (zmk lg s') 0 := by
  unfold zf62 at hF
  refine Ct_of hK nd_ok62 (mL := 3) (rt := some .int) rfl rfl (Nat.le_of_ble_eq_true rfl) zlen_le ?_
  refine Ev_p 1 (c' := (1, [some (.ref a0), none, none], [.ref a0])) rfl ?_
  refine Ez_gr (M := zM62) (ci := 6) (f := 2) (t := 100) rfl rfl h0 rfl ?_
  refine Ev_p 1 (c' := (5, [some (.ref a0), none, none], [.int (-1), .ref (zrf a0 2)])) rfl ?_
  refine Ez_cv (M := zM62) (As := [.ref (zrf a0 2), .int (-1)]) (st' := []) (zsite_0 (y := 41) (k := 2) (ci := 99) rfl rfl) (Nat.le_of_ble_eq_true rfl) (Nat.le_of_ble_eq_true rfl) rfl rfl (fun _ hF => zf41_ok hK (zty (ci := 6) (f := 2) (t := 100) h0 rfl) hF) hF (fun s2 hF => ?_)
  refine Ev_p 2 (c' := (10, [some (.ref a0), some (.int 1), none], [])) rfl ?_
  exact zf62_10_ok hK h0 hF
-- PaperParcels$Styles.firstWithoutName(LPaperParcels$Elements;I)I
abbrev zM64 : ev_M := (am_in nd_i64, am_fl nd_f6, am_ct nd_k6, am_sl nd_ml nd_s64, fun _ => none, some .int)
noncomputable def zf64_2 (a0 : Nat) (a1 : Nat)  : Nat → Int32 → Int32 → zS → Option (Int32 × zS)
  | 0, _, _, _ => none
  | n + 1, x2, x3, s =>
    zgf s a1 6 fun v1 =>
    if v1 ≤ x3 then
      some ((-1), s)
    else
      zbi (zf63 a1 x3 x2 s) fun v2 s3 =>
      if v2 = (-1) then
        zf64_2 a0 a1 n x2 (x3 + 1) s3
      else
        zal s3 (zrf a0 2) v2 fun v4 =>
        if ¬ v4 = (-1) then
          zf64_2 a0 a1 n x2 (x3 + 1) s3
        else
          some (x3, s3)
theorem zf64_2_ok {K : cx_K} (hK : Kok K) {lg : Nat → Int64} {v : Int32} {s' : zS} {a0 : Nat} {a1 : Nat} (h0 : zsh a0 = 6) (h1 : zsh a1 = 5)   {n : Nat} : ∀ {x2 : Int32} {x3 : Int32} {s : zS}, zf64_2 a0 a1 n x2 x3 s = some (v, s') → Ev K zM64 (2, [some (.ref a0), some (.ref a1), some (.int x2), some (.int x3), none], [], zmk lg s) 0 (.inl (some (.int v))) (zmk lg s') 0 := by
  induction n with
  | zero => intro x2 x3 s hF; rw [zf64_2] at hF; cases hF
  | succ n ih =>
    intro x2 x3 s hF
    rw [zf64_2] at hF
    refine Ev_p 2 (c' := (4, [some (.ref a0), some (.ref a1), some (.int x2), some (.int x3), none], [.ref a1, .int x3])) rfl ?_
    refine Ez_gf (M := zM64) (ci := 5) (f := 6) rfl rfl h1 rfl hF (fun v1 hF => ?_)
    refine Ev_p 0 (c' := (7, [some (.ref a0), some (.ref a1), some (.int x2), some (.int x3), none], [.int v1, .int x3])) rfl ?_
    refine Ez_if (M := zM64) (b := v1 ≤ x3) rfl rfl hF (fun _ hF => ?_) (fun _ hF => ?_)
    · refine Ev_p 1 (c' := (44, [some (.ref a0), some (.ref a1), some (.int x2), some (.int x3), none], [.int (-1)])) rfl ?_
      exact Ez_ri (M := zM64) rfl rfl hF
    · refine Ev_p 3 (c' := (13, [some (.ref a0), some (.ref a1), some (.int x2), some (.int x3), none], [.int x2, .int x3, .ref a1])) rfl ?_
      refine Ez_ci (M := zM64) (As := [.ref a1, .int x3, .int x2]) (st' := []) (zsite_0 (y := 63) (k := 3) (ci := 6) rfl rfl) (Nat.le_of_ble_eq_true rfl) (Nat.le_of_ble_eq_true rfl) rfl rfl (fun _ _ hF => zf63_ok hK h1 hF) hF (fun v2 s3 hF => ?_)
      refine Ev_p 3 (c' := (21, [some (.ref a0), some (.ref a1), some (.int x2), some (.int x3), some (.int v2)], [.int (-1), .int v2])) rfl ?_
      refine Ez_if (M := zM64) (b := v2 = (-1)) rfl rfl hF (fun _ hF => ?_) (fun _ hF => ?_)
      · refine Ev_p 2 (c' := (2, [some (.ref a0), some (.ref a1), some (.int x2), some (.int (x3 + 1)), some (.int v2)], [])) rfl ?_
        refine Ev_w (L' := [some (.ref a0), some (.ref a1), some (.int x2), some (.int (x3 + 1)), none]) (zle_c (zle_c (zle_c (zle_c (zle_n zle_0))))) ?_
        exact ih hF
      · refine Ev_p 1 (c' := (25, [some (.ref a0), some (.ref a1), some (.int x2), some (.int x3), some (.int v2)], [.ref a0])) rfl ?_
        refine Ez_gr (M := zM64) (ci := 6) (f := 2) (t := 100) rfl rfl h0 rfl ?_
        refine Ev_p 1 (c' := (30, [some (.ref a0), some (.ref a1), some (.int x2), some (.int x3), some (.int v2)], [.int v2, .ref (zrf a0 2)])) rfl ?_
        refine Ez_al (M := zM64) rfl (zty (ci := 6) (f := 2) (t := 100) h0 rfl) hF (fun v4 hF => ?_)
        refine Ev_p 1 (c' := (32, [some (.ref a0), some (.ref a1), some (.int x2), some (.int x3), some (.int v2)], [.int (-1), .int v4])) rfl ?_
        refine Ez_if (M := zM64) (b := ¬ v4 = (-1)) rfl rfl hF (fun _ hF => ?_) (fun _ hF => ?_)
        · refine Ev_p 2 (c' := (2, [some (.ref a0), some (.ref a1), some (.int x2), some (.int (x3 + 1)), some (.int v2)], [])) rfl ?_
          refine Ev_w (L' := [some (.ref a0), some (.ref a1), some (.int x2), some (.int (x3 + 1)), none]) (zle_c (zle_c (zle_c (zle_c (zle_n zle_0))))) ?_
          exact ih hF
        · refine Ev_p 1 (c' := (36, [some (.ref a0), some (.ref a1), some (.int x2), some (.int x3), some (.int v2)], [.int x3])) rfl ?_
          exact Ez_ri (M := zM64) rfl rfl hF
noncomputable def zf64 (a0 : Nat) (a1 : Nat) (x2 : Int32) (s : zS) : Option (Int32 × zS) :=
  zf64_2 a0 a1 zfz x2 0 s
theorem zf64_ok {K : cx_K} (hK : Kok K) {lg : Nat → Int64} {v : Int32} {s' : zS} {a0 : Nat} {a1 : Nat} (h0 : zsh a0 = 6) (h1 : zsh a1 = 5) {x2 : Int32} {s : zS} (hF : zf64 a0 a1 x2 s = some (v, s')) : Ct K 64 [.ref a0, .ref a1, .int x2] (zmk lg s) (.inl (some (.int v))) (zmk lg s') 0 := by
  unfold zf64 at hF
  refine Ct_of hK nd_ok64 (mL := 5) (rt := some .int) rfl rfl (Nat.le_of_ble_eq_true rfl) zlen_le ?_
  refine Ev_p 2 (c' := (2, [some (.ref a0), some (.ref a1), some (.int x2), some (.int 0), none], [])) rfl ?_
  exact zf64_2_ok hK h0 h1 hF

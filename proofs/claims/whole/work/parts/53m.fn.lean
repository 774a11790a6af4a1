/-! The methods as functions, and that the machine goes so (printed by wip/gen/fgen.py). -/
set_option maxRecDepth 100000
set_option linter.unusedVariables false
-- PaperParcelsModel.wipe()I
abbrev zM149 : ev_M := (am_in nd_i149, am_fl nd_f11, am_ct nd_k11, am_sl nd_ml nd_s149, fun _ => none, some .int)
noncomputable def zf149 (a0 : Nat) (s : zS) : Option (Int32 × zS) :=
  zpf s a0 0 0 fun s1 =>
  zgf s1 a0 2 fun v2 =>
  zpf s1 a0 2 0 fun s3 =>
  some (v2, s3)
theorem zf149_ok {K : cx_K} (hK : Kok K) {lg : Nat → Int64} {v : Int32} {s' : zS} {a0 : Nat} (h0 : zsh a0 = 11)  {s : zS} (hF : zf149 a0 s = some (v, s')) : Ct K 149 [.ref a0] (zmk lg s) (.inl (some (.int v))) (zmk lg s') 0 := by
  unfold zf149 at hF
  refine Ct_of hK nd_ok149 (mL := 2) (rt := some .int) rfl rfl (Nat.le_of_ble_eq_true rfl) zlen_le ?_
  refine Ev_p 2 (c' := (2, [some (.ref a0), none], [.int 0, .ref a0])) rfl ?_
  refine Ez_pf (M := zM149) (ci := 11) (f := 0) rfl rfl h0 rfl hF (fun s1 hF => ?_)
  refine Ev_p 1 (c' := (6, [some (.ref a0), none], [.ref a0])) rfl ?_
  refine Ez_gf (M := zM149) (ci := 11) (f := 2) rfl rfl h0 rfl hF (fun v2 hF => ?_)
  refine Ev_p 3 (c' := (12, [some (.ref a0), some (.int v2)], [.int 0, .ref a0])) rfl ?_
  refine Ez_pf (M := zM149) (ci := 11) (f := 2) rfl rfl h0 rfl hF (fun s3 hF => ?_)
  refine Ev_p 1 (c' := (16, [some (.ref a0), some (.int v2)], [.int v2])) rfl ?_
  exact Ez_ri (M := zM149) rfl rfl hF
-- PaperParcelsModel.length()I
abbrev zM150 : ev_M := (am_in nd_i150, am_fl nd_f11, am_ct nd_k11, am_sl nd_ml nd_s150, fun _ => none, some .int)
noncomputable def zf150 (a0 : Nat) (s : zS) : Option (Int32 × zS) :=
  zpf s a0 0 0 fun s1 =>
  zgf s1 a0 2 fun v2 =>
  some (v2, s1)
theorem zf150_ok {K : cx_K} (hK : Kok K) {lg : Nat → Int64} {v : Int32} {s' : zS} {a0 : Nat} (h0 : zsh a0 = 11)  {s : zS} (hF : zf150 a0 s = some (v, s')) : Ct K 150 [.ref a0] (zmk lg s) (.inl (some (.int v))) (zmk lg s') 0 := by
  unfold zf150 at hF
  refine Ct_of hK nd_ok150 (mL := 1) (rt := some .int) rfl rfl (Nat.le_of_ble_eq_true rfl) zlen_le ?_
  refine Ev_p 2 (c' := (2, [some (.ref a0)], [.int 0, .ref a0])) rfl ?_
  refine Ez_pf (M := zM150) (ci := 11) (f := 0) rfl rfl h0 rfl hF (fun s1 hF => ?_)
  refine Ev_p 1 (c' := (6, [some (.ref a0)], [.ref a0])) rfl ?_
  refine Ez_gf (M := zM150) (ci := 11) (f := 2) rfl rfl h0 rfl hF (fun v2 hF => ?_)
  refine Ev_p 0 (c' := (9, [some (.ref a0)], [.int v2])) rfl ?_
  exact Ez_ri (M := zM150) rfl rfl hF
-- PaperParcelsModel.character(I)I
abbrev zM151 : ev_M := (am_in nd_i151, am_fl nd_f11, am_ct nd_k11, am_sl nd_ml nd_s151, fun _ => none, some .int)
noncomputable def zf151 (a0 : Nat) (x1 : Int32) (s : zS) : Option (Int32 × zS) :=
  zpf s a0 0 0 fun s1 =>
  if x1 < 0 then
    some ((-1), s1)
  else
    zgf s1 a0 2 fun v2 =>
    if v2 ≤ x1 then
      some ((-1), s1)
    else
      zal s1 (zrf a0 1) x1 fun v3 =>
      some (v3, s1)
theorem zf151_ok {K : cx_K} (hK : Kok K) {lg : Nat → Int64} {v : Int32} {s' : zS} {a0 : Nat} (h0 : zsh a0 = 11) {x1 : Int32} {s : zS} (hF : zf151 a0 x1 s = some (v, s')) : Ct K 151 [.ref a0, .int x1] (zmk lg s) (.inl (some (.int v))) (zmk lg s') 0 := by
  unfold zf151 at hF
  refine Ct_of hK nd_ok151 (mL := 2) (rt := some .int) rfl rfl (Nat.le_of_ble_eq_true rfl) zlen_le ?_
  refine Ev_p 2 (c' := (2, [some (.ref a0), some (.int x1)], [.int 0, .ref a0])) rfl ?_
  refine Ez_pf (M := zM151) (ci := 11) (f := 0) rfl rfl h0 rfl hF (fun s1 hF => ?_)
  refine Ev_p 1 (c' := (6, [some (.ref a0), some (.int x1)], [.int x1])) rfl ?_
  refine Ez_if (M := zM151) (b := x1 < 0) rfl rfl hF (fun _ hF => ?_) (fun _ hF => ?_)
  · refine Ev_p 1 (c' := (27, [some (.ref a0), some (.int x1)], [.int (-1)])) rfl ?_
    exact Ez_ri (M := zM151) rfl rfl hF
  · refine Ev_p 2 (c' := (11, [some (.ref a0), some (.int x1)], [.ref a0, .int x1])) rfl ?_
    refine Ez_gf (M := zM151) (ci := 11) (f := 2) rfl rfl h0 rfl hF (fun v2 hF => ?_)
    refine Ev_p 0 (c' := (14, [some (.ref a0), some (.int x1)], [.int v2, .int x1])) rfl ?_
    refine Ez_if (M := zM151) (b := v2 ≤ x1) rfl rfl hF (fun _ hF => ?_) (fun _ hF => ?_)
    · refine Ev_p 1 (c' := (27, [some (.ref a0), some (.int x1)], [.int (-1)])) rfl ?_
      exact Ez_ri (M := zM151) rfl rfl hF
    · refine Ev_p 1 (c' := (18, [some (.ref a0), some (.int x1)], [.ref a0])) rfl ?_
      refine Ez_gr (M := zM151) (ci := 11) (f := 1) (t := 100) rfl rfl h0 rfl ?_
      refine Ev_p 1 (c' := (22, [some (.ref a0), some (.int x1)], [.int x1, .ref (zrf a0 1)])) rfl ?_
      refine Ez_al (M := zM151) rfl (zty (ci := 11) (f := 1) (t := 100) h0 rfl) hF (fun v3 hF => ?_)
      refine Ev_p 1 (c' := (27, [some (.ref a0), some (.int x1)], [.int v3])) rfl ?_
      exact Ez_ri (M := zM151) rfl rfl hF
-- PaperParcelsModel.charAt(I)I
abbrev zM155 : ev_M := (am_in nd_i155, am_fl nd_f11, am_ct nd_k11, am_sl nd_ml nd_s155, fun _ => none, some .int)
noncomputable def zf155 (a0 : Nat) (x1 : Int32) (s : zS) : Option (Int32 × zS) :=
  zgf s a0 2 fun v1 =>
  if v1 ≤ x1 then
    some ((-1), s)
  else
    zal s (zrf a0 1) x1 fun v2 =>
    some (v2, s)
theorem zf155_ok {K : cx_K} (hK : Kok K) {lg : Nat → Int64} {v : Int32} {s' : zS} {a0 : Nat} (h0 : zsh a0 = 11) {x1 : Int32} {s : zS} (hF : zf155 a0 x1 s = some (v, s')) : Ct K 155 [.ref a0, .int x1] (zmk lg s) (.inl (some (.int v))) (zmk lg s') 0 := by
  unfold zf155 at hF
  refine Ct_of hK nd_ok155 (mL := 2) (rt := some .int) rfl rfl (Nat.le_of_ble_eq_true rfl) zlen_le ?_
  refine Ev_p 2 (c' := (2, [some (.ref a0), some (.int x1)], [.ref a0, .int x1])) rfl ?_
  refine Ez_gf (M := zM155) (ci := 11) (f := 2) rfl rfl h0 rfl hF (fun v1 hF => ?_)
  refine Ev_p 0 (c' := (5, [some (.ref a0), some (.int x1)], [.int v1, .int x1])) rfl ?_
  refine Ez_if (M := zM155) (b := v1 ≤ x1) rfl rfl hF (fun _ hF => ?_) (fun _ hF => ?_)
  · refine Ev_p 1 (c' := (18, [some (.ref a0), some (.int x1)], [.int (-1)])) rfl ?_
    exact Ez_ri (M := zM155) rfl rfl hF
  · refine Ev_p 1 (c' := (9, [some (.ref a0), some (.int x1)], [.ref a0])) rfl ?_
    refine Ez_gr (M := zM155) (ci := 11) (f := 1) (t := 100) rfl rfl h0 rfl ?_
    refine Ev_p 1 (c' := (13, [some (.ref a0), some (.int x1)], [.int x1, .ref (zrf a0 1)])) rfl ?_
    refine Ez_al (M := zM155) rfl (zty (ci := 11) (f := 1) (t := 100) h0 rfl) hF (fun v2 hF => ?_)
    refine Ev_p 1 (c' := (18, [some (.ref a0), some (.int x1)], [.int v2])) rfl ?_
    exact Ez_ri (M := zM155) rfl rfl hF
-- PaperParcelsModel.isDigit(I)Z
abbrev zM156 : ev_M := (am_in nd_i156, am_fl nd_f11, am_ct nd_k11, am_sl nd_ml nd_s156, fun _ => none, some .boolean)
noncomputable def zf156 (x0 : Int32) (s : zS) : Option (Int32 × zS) :=
  if x0 < 48 then
    zrb 0 s
  else
    if 57 < x0 then
      zrb 0 s
    else
      zrb 1 s
theorem zf156_ok {K : cx_K} (hK : Kok K) {lg : Nat → Int64} {v : Int32} {s' : zS}   {x0 : Int32} {s : zS} (hF : zf156 x0 s = some (v, s')) : Ct K 156 [.int x0] (zmk lg s) (.inl (some (.int v))) (zmk lg s') 0 := by
  unfold zf156 at hF
  refine Ct_of hK nd_ok156 (mL := 1) (rt := some .boolean) rfl rfl (Nat.le_of_ble_eq_true rfl) zlen_le ?_
  refine Ev_p 2 (c' := (3, [some (.int x0)], [.int 48, .int x0])) rfl ?_
  refine Ez_if (M := zM156) (b := x0 < 48) rfl rfl hF (fun _ hF => ?_) (fun _ hF => ?_)
  · refine Ev_p 1 (c' := (17, [some (.int x0)], [.int 0])) rfl ?_
    exact Ez_rb (M := zM156) rfl rfl hF
  · refine Ev_p 2 (c' := (9, [some (.int x0)], [.int 57, .int x0])) rfl ?_
    refine Ez_if (M := zM156) (b := 57 < x0) rfl rfl hF (fun _ hF => ?_) (fun _ hF => ?_)
    · refine Ev_p 1 (c' := (17, [some (.int x0)], [.int 0])) rfl ?_
      exact Ez_rb (M := zM156) rfl rfl hF
    · refine Ev_p 2 (c' := (17, [some (.int x0)], [.int 1])) rfl ?_
      exact Ez_rb (M := zM156) rfl rfl hF
-- PaperParcelsModel.hex(I)I
abbrev zM157 : ev_M := (am_in nd_i157, am_fl nd_f11, am_ct nd_k11, am_sl nd_ml nd_s157, fun _ => none, some .int)
noncomputable def zf157 (x0 : Int32) (s : zS) : Option (Int32 × zS) :=
  zbi (zf156 x0 s) fun v1 s2 =>
  if v1 = 0 then
    if x0 < 97 then
      some ((-1), s2)
    else
      if 102 < x0 then
        some ((-1), s2)
      else
        some (((x0 - 97) + 10), s2)
  else
    some ((x0 - 48), s2)
theorem zf157_ok {K : cx_K} (hK : Kok K) {lg : Nat → Int64} {v : Int32} {s' : zS}   {x0 : Int32} {s : zS} (hF : zf157 x0 s = some (v, s')) : Ct K 157 [.int x0] (zmk lg s) (.inl (some (.int v))) (zmk lg s') 0 := by
  unfold zf157 at hF
  refine Ct_of hK nd_ok157 (mL := 1) (rt := some .int) rfl rfl (Nat.le_of_ble_eq_true rfl) zlen_le ?_
  refine Ev_p 1 (c' := (1, [some (.int x0)], [.int x0])) rfl ?_
  refine Ez_ci (M := zM157) (As := [.int x0]) (st' := []) (zsite_0 (y := 156) (k := 1) (ci := 11) rfl rfl) (Nat.le_of_ble_eq_true rfl) (Nat.le_of_ble_eq_true rfl) rfl rfl (fun _ _ hF => zf156_ok hK  hF) hF (fun v1 s2 hF => ?_)
  refine Ev_p 0 (c' := (4, [some (.int x0)], [.int v1])) rfl ?_
  refine Ez_if (M := zM157) (b := v1 = 0) rfl rfl hF (fun _ hF => ?_) (fun _ hF => ?_)
  · refine Ev_p 2 (c' := (17, [some (.int x0)], [.int 97, .int x0])) rfl ?_
    refine Ez_if (M := zM157) (b := x0 < 97) rfl rfl hF (fun _ hF => ?_) (fun _ hF => ?_)
    · refine Ev_p 1 (c' := (37, [some (.int x0)], [.int (-1)])) rfl ?_
      exact Ez_ri (M := zM157) rfl rfl hF
    · refine Ev_p 2 (c' := (23, [some (.int x0)], [.int 102, .int x0])) rfl ?_
      refine Ez_if (M := zM157) (b := 102 < x0) rfl rfl hF (fun _ hF => ?_) (fun _ hF => ?_)
      · refine Ev_p 1 (c' := (37, [some (.int x0)], [.int (-1)])) rfl ?_
        exact Ez_ri (M := zM157) rfl rfl hF
      · refine Ev_p 6 (c' := (37, [some (.int x0)], [.int ((x0 - 97) + 10)])) rfl ?_
        exact Ez_ri (M := zM157) rfl rfl hF
  · refine Ev_p 4 (c' := (37, [some (.int x0)], [.int (x0 - 48)])) rfl ?_
    exact Ez_ri (M := zM157) rfl rfl hF
-- PaperParcelsModel.outline()I
abbrev zM154 : ev_M := (am_in nd_i154, am_fl nd_f11, am_ct nd_k11, am_sl nd_ml nd_s154, fun _ => none, some .int)
noncomputable def zf154_167 (a0 : Nat) (k4 : Int32 → Int32 → zS → Option (Int32 × zS)) : Nat → Int32 → Int32 → Int32 → zS → Option (Int32 × zS)
  | 0, _, _, _, _ => none
  | n + 1, x1, x2, x3, s =>
    if 4 ≤ x3 then
      k4 (x1 + 4) (x2 + 1) s
    else
      zbi (zf155 a0 (x1 + x3) s) fun v1 s2 =>
      zbi (zf157 v1 s2) fun v3 s4 =>
      if 0 ≤ v3 then
        zf154_167 a0 k4 n x1 x2 (x3 + 1) s4
      else
        some ((x1 + x3), s4)
theorem zf154_167_ok {K : cx_K} (hK : Kok K) {lg : Nat → Int64} {v : Int32} {s' : zS} {a0 : Nat} (h0 : zsh a0 = 11) {k4 : Int32 → Int32 → zS → Option (Int32 × zS)} (hk4 : ∀ x1 x2 s, k4 x1 x2 s = some (v, s') → Ev K zM154 (4, [some (.ref a0), some (.int x1), some (.int x2), none], [], zmk lg s) 0 (.inl (some (.int v))) (zmk lg s') 0) {n : Nat} : ∀ {x1 : Int32} {x2 : Int32} {x3 : Int32} {s : zS}, zf154_167 a0 k4 n x1 x2 x3 s = some (v, s') → Ev K zM154 (167, [some (.ref a0), some (.int x1), some (.int x2), some (.int x3)], [], zmk lg s) 0 (.inl (some (.int v))) (zmk lg s') 0 := by
  induction n with
  | zero => intro x1 x2 x3 s hF; rw [zf154_167] at hF; cases hF
  | succ n ih =>
    intro x1 x2 x3 s hF
    rw [zf154_167] at hF
    refine Ev_p 2 (c' := (169, [some (.ref a0), some (.int x1), some (.int x2), some (.int x3)], [.int 4, .int x3])) rfl ?_
    refine Ez_if (M := zM154) (b := 4 ≤ x3) rfl rfl hF (fun _ hF => ?_) (fun _ hF => ?_)
    · refine Ev_p 3 (c' := (4, [some (.ref a0), some (.int (x1 + 4)), some (.int (x2 + 1)), some (.int x3)], [])) rfl ?_
      refine Ev_w (L' := [some (.ref a0), some (.int (x1 + 4)), some (.int (x2 + 1)), none]) (zle_c (zle_c (zle_c (zle_n zle_0)))) ?_
      exact hk4 _ _ _ hF
    · refine Ev_p 4 (c' := (176, [some (.ref a0), some (.int x1), some (.int x2), some (.int x3)], [.int (x1 + x3), .ref a0])) rfl ?_
      refine Ez_ci (M := zM154) (As := [.ref a0, .int (x1 + x3)]) (st' := []) (am_site_v (y := 155) (k := 2) (ci := 11) rfl rfl (zrcv rfl h0 rfl)) (Nat.le_of_ble_eq_true rfl) (Nat.le_of_ble_eq_true rfl) rfl rfl (fun _ _ hF => zf155_ok hK h0 hF) hF (fun v1 s2 hF => ?_)
      refine Ev_p 0 (c' := (179, [some (.ref a0), some (.int x1), some (.int x2), some (.int x3)], [.int v1])) rfl ?_
      refine Ez_ci (M := zM154) (As := [.int v1]) (st' := []) (zsite_0 (y := 157) (k := 1) (ci := 11) rfl rfl) (Nat.le_of_ble_eq_true rfl) (Nat.le_of_ble_eq_true rfl) rfl rfl (fun _ _ hF => zf157_ok hK  hF) hF (fun v3 s4 hF => ?_)
      refine Ev_p 0 (c' := (182, [some (.ref a0), some (.int x1), some (.int x2), some (.int x3)], [.int v3])) rfl ?_
      refine Ez_if (M := zM154) (b := 0 ≤ v3) rfl rfl hF (fun _ hF => ?_) (fun _ hF => ?_)
      · refine Ev_p 2 (c' := (167, [some (.ref a0), some (.int x1), some (.int x2), some (.int (x3 + 1))], [])) rfl ?_
        exact ih hF
      · refine Ev_p 3 (c' := (188, [some (.ref a0), some (.int x1), some (.int x2), some (.int x3)], [.int (x1 + x3)])) rfl ?_
        exact Ez_ri (M := zM154) rfl rfl hF
noncomputable def zf154_78 (a0 : Nat) (k4 : Int32 → Int32 → zS → Option (Int32 × zS)) : Nat → Int32 → Int32 → Int32 → zS → Option (Int32 × zS)
  | 0, _, _, _, _ => none
  | n + 1, x1, x2, x3, s =>
    if 5 ≤ x3 then
      zas s (zrf a0 5) x2 (x1 + 5) fun s1 =>
      zal s1 (zrf a0 6) x2 fun v2 =>
      zgf s1 a0 2 fun v3 =>
      if ((x1 + 5) + v2) ≤ v3 then
        zf154_167 a0 k4 zfz ((x1 + 5) + v2) x2 0 s1
      else
        zgf s1 a0 2 fun v4 =>
        some (v4, s1)
    else
      zbi (zf155 a0 (x1 + x3) s) fun v5 s6 =>
      zbi (zf156 v5 s6) fun v7 s8 =>
      if ¬ v7 = 0 then
        zal s8 (zrf a0 6) x2 fun v9 =>
        zbi (zf155 a0 (x1 + x3) s8) fun v10 s11 =>
        zas s11 (zrf a0 6) x2 (((10 * v9) + v10) - 48) fun s12 =>
        zf154_78 a0 k4 n x1 x2 (x3 + 1) s12
      else
        some ((x1 + x3), s8)
theorem zf154_78_ok {K : cx_K} (hK : Kok K) {lg : Nat → Int64} {v : Int32} {s' : zS} {a0 : Nat} (h0 : zsh a0 = 11) {k4 : Int32 → Int32 → zS → Option (Int32 × zS)} (hk4 : ∀ x1 x2 s, k4 x1 x2 s = some (v, s') → Ev K zM154 (4, [some (.ref a0), some (.int x1), some (.int x2), none], [], zmk lg s) 0 (.inl (some (.int v))) (zmk lg s') 0) {n : Nat} : ∀ {x1 : Int32} {x2 : Int32} {x3 : Int32} {s : zS}, zf154_78 a0 k4 n x1 x2 x3 s = some (v, s') → Ev K zM154 (78, [some (.ref a0), some (.int x1), some (.int x2), some (.int x3)], [], zmk lg s) 0 (.inl (some (.int v))) (zmk lg s') 0 := by
  induction n with
  | zero => intro x1 x2 x3 s hF; rw [zf154_78] at hF; cases hF
  | succ n ih =>
    intro x1 x2 x3 s hF
    rw [zf154_78] at hF
    refine Ev_p 2 (c' := (80, [some (.ref a0), some (.int x1), some (.int x2), some (.int x3)], [.int 5, .int x3])) rfl ?_
    refine Ez_if (M := zM154) (b := 5 ≤ x3) rfl rfl hF (fun _ hF => ?_) (fun _ hF => ?_)
    · refine Ev_p 1 (c' := (133, [some (.ref a0), some (.int x1), some (.int x2), some (.int x3)], [.ref a0])) rfl ?_
      refine Ez_gr (M := zM154) (ci := 11) (f := 5) (t := 100) rfl rfl h0 rfl ?_
      refine Ev_p 4 (c' := (140, [some (.ref a0), some (.int x1), some (.int x2), some (.int x3)], [.int (x1 + 5), .int x2, .ref (zrf a0 5)])) rfl ?_
      refine Ez_as (M := zM154) rfl (zty (ci := 11) (f := 5) (t := 100) h0 rfl) hF (fun s1 hF => ?_)
      refine Ev_p 4 (c' := (145, [some (.ref a0), some (.int x1), some (.int x2), some (.int x3)], [.ref a0, .int (x1 + 5)])) rfl ?_
      refine Ez_gr (M := zM154) (ci := 11) (f := 6) (t := 100) rfl rfl h0 rfl ?_
      refine Ev_p 1 (c' := (149, [some (.ref a0), some (.int x1), some (.int x2), some (.int x3)], [.int x2, .ref (zrf a0 6), .int (x1 + 5)])) rfl ?_
      refine Ez_al (M := zM154) rfl (zty (ci := 11) (f := 6) (t := 100) h0 rfl) hF (fun v2 hF => ?_)
      refine Ev_p 4 (c' := (154, [some (.ref a0), some (.int ((x1 + 5) + v2)), some (.int x2), some (.int x3)], [.ref a0, .int ((x1 + 5) + v2)])) rfl ?_
      refine Ez_gf (M := zM154) (ci := 11) (f := 2) rfl rfl h0 rfl hF (fun v3 hF => ?_)
      refine Ev_p 0 (c' := (157, [some (.ref a0), some (.int ((x1 + 5) + v2)), some (.int x2), some (.int x3)], [.int v3, .int ((x1 + 5) + v2)])) rfl ?_
      refine Ez_if (M := zM154) (b := ((x1 + 5) + v2) ≤ v3) rfl rfl hF (fun _ hF => ?_) (fun _ hF => ?_)
      · refine Ev_p 2 (c' := (167, [some (.ref a0), some (.int ((x1 + 5) + v2)), some (.int x2), some (.int 0)], [])) rfl ?_
        exact zf154_167_ok hK h0 hk4 hF
      · refine Ev_p 1 (c' := (161, [some (.ref a0), some (.int ((x1 + 5) + v2)), some (.int x2), some (.int x3)], [.ref a0])) rfl ?_
        refine Ez_gf (M := zM154) (ci := 11) (f := 2) rfl rfl h0 rfl hF (fun v4 hF => ?_)
        refine Ev_p 0 (c' := (164, [some (.ref a0), some (.int ((x1 + 5) + v2)), some (.int x2), some (.int x3)], [.int v4])) rfl ?_
        exact Ez_ri (M := zM154) rfl rfl hF
    · refine Ev_p 4 (c' := (87, [some (.ref a0), some (.int x1), some (.int x2), some (.int x3)], [.int (x1 + x3), .ref a0])) rfl ?_
      refine Ez_ci (M := zM154) (As := [.ref a0, .int (x1 + x3)]) (st' := []) (am_site_v (y := 155) (k := 2) (ci := 11) rfl rfl (zrcv rfl h0 rfl)) (Nat.le_of_ble_eq_true rfl) (Nat.le_of_ble_eq_true rfl) rfl rfl (fun _ _ hF => zf155_ok hK h0 hF) hF (fun v5 s6 hF => ?_)
      refine Ev_p 0 (c' := (90, [some (.ref a0), some (.int x1), some (.int x2), some (.int x3)], [.int v5])) rfl ?_
      refine Ez_ci (M := zM154) (As := [.int v5]) (st' := []) (zsite_0 (y := 156) (k := 1) (ci := 11) rfl rfl) (Nat.le_of_ble_eq_true rfl) (Nat.le_of_ble_eq_true rfl) rfl rfl (fun _ _ hF => zf156_ok hK  hF) hF (fun v7 s8 hF => ?_)
      refine Ev_p 0 (c' := (93, [some (.ref a0), some (.int x1), some (.int x2), some (.int x3)], [.int v7])) rfl ?_
      refine Ez_if (M := zM154) (b := ¬ v7 = 0) rfl rfl hF (fun _ hF => ?_) (fun _ hF => ?_)
      · refine Ev_p 1 (c' := (101, [some (.ref a0), some (.int x1), some (.int x2), some (.int x3)], [.ref a0])) rfl ?_
        refine Ez_gr (M := zM154) (ci := 11) (f := 6) (t := 100) rfl rfl h0 rfl ?_
        refine Ev_p 3 (c' := (108, [some (.ref a0), some (.int x1), some (.int x2), some (.int x3)], [.ref a0, .int 10, .int x2, .ref (zrf a0 6)])) rfl ?_
        refine Ez_gr (M := zM154) (ci := 11) (f := 6) (t := 100) rfl rfl h0 rfl ?_
        refine Ev_p 1 (c' := (112, [some (.ref a0), some (.int x1), some (.int x2), some (.int x3)], [.int x2, .ref (zrf a0 6), .int 10, .int x2, .ref (zrf a0 6)])) rfl ?_
        refine Ez_al (M := zM154) rfl (zty (ci := 11) (f := 6) (t := 100) h0 rfl) hF (fun v9 hF => ?_)
        refine Ev_p 5 (c' := (118, [some (.ref a0), some (.int x1), some (.int x2), some (.int x3)], [.int (x1 + x3), .ref a0, .int (10 * v9), .int x2, .ref (zrf a0 6)])) rfl ?_
        refine Ez_ci (M := zM154) (As := [.ref a0, .int (x1 + x3)]) (st' := [.int (10 * v9), .int x2, .ref (zrf a0 6)]) (am_site_v (y := 155) (k := 2) (ci := 11) rfl rfl (zrcv rfl h0 rfl)) (Nat.le_of_ble_eq_true rfl) (Nat.le_of_ble_eq_true rfl) rfl rfl (fun _ _ hF => zf155_ok hK h0 hF) hF (fun v10 s11 hF => ?_)
        refine Ev_p 3 (c' := (125, [some (.ref a0), some (.int x1), some (.int x2), some (.int x3)], [.int (((10 * v9) + v10) - 48), .int x2, .ref (zrf a0 6)])) rfl ?_
        refine Ez_as (M := zM154) rfl (zty (ci := 11) (f := 6) (t := 100) h0 rfl) hF (fun s12 hF => ?_)
        refine Ev_p 2 (c' := (78, [some (.ref a0), some (.int x1), some (.int x2), some (.int (x3 + 1))], [])) rfl ?_
        exact ih hF
      · refine Ev_p 3 (c' := (99, [some (.ref a0), some (.int x1), some (.int x2), some (.int x3)], [.int (x1 + x3)])) rfl ?_
        exact Ez_ri (M := zM154) rfl rfl hF
noncomputable def zf154_25 (a0 : Nat) (k4 : Int32 → Int32 → zS → Option (Int32 × zS)) (x1 : Int32) (x2 : Int32) (t0 : Int32) (t1 : Int32) (s : zS) : Option (Int32 × zS) :=
  if t1 = t0 then
    zbi (zf155 a0 (x1 + 1) s) fun v1 s2 =>
    zas s2 (zrf a0 4) x2 (v1 - 48) fun s3 =>
    zal s3 (zrf a0 4) x2 fun v4 =>
    if v4 = 0 then
      zas s3 (zrf a0 6) x2 0 fun s5 =>
      zf154_78 a0 k4 zfz x1 x2 2 s5
    else
      zal s3 (zrf a0 4) x2 fun v6 =>
      if v6 = 1 then
        zas s3 (zrf a0 6) x2 0 fun s7 =>
        zf154_78 a0 k4 zfz x1 x2 2 s7
      else
        some ((x1 + 1), s3)
  else
    some (x1, s)
theorem zf154_25_ok {K : cx_K} (hK : Kok K) {lg : Nat → Int64} {v : Int32} {s' : zS} {a0 : Nat} (h0 : zsh a0 = 11) {k4 : Int32 → Int32 → zS → Option (Int32 × zS)} (hk4 : ∀ x1 x2 s, k4 x1 x2 s = some (v, s') → Ev K zM154 (4, [some (.ref a0), some (.int x1), some (.int x2), none], [], zmk lg s) 0 (.inl (some (.int v))) (zmk lg s') 0) {x1 : Int32} {x2 : Int32} {t0 : Int32} {t1 : Int32}  {s : zS} (hF : zf154_25 a0 k4 x1 x2 t0 t1 s = some (v, s')) : Ev K zM154 (25, [some (.ref a0), some (.int x1), some (.int x2), none], [.int t0, .int t1], zmk lg s) 0 (.inl (some (.int v))) (zmk lg s') 0 := by
  unfold zf154_25 at hF
  refine Ev_p 0 (c' := (25, [some (.ref a0), some (.int x1), some (.int x2), none], [.int t0, .int t1])) rfl ?_
  refine Ez_if (M := zM154) (b := t1 = t0) rfl rfl hF (fun _ hF => ?_) (fun _ hF => ?_)
  · refine Ev_p 1 (c' := (31, [some (.ref a0), some (.int x1), some (.int x2), none], [.ref a0])) rfl ?_
    refine Ez_gr (M := zM154) (ci := 11) (f := 4) (t := 100) rfl rfl h0 rfl ?_
    refine Ev_p 5 (c' := (39, [some (.ref a0), some (.int x1), some (.int x2), none], [.int (x1 + 1), .ref a0, .int x2, .ref (zrf a0 4)])) rfl ?_
    refine Ez_ci (M := zM154) (As := [.ref a0, .int (x1 + 1)]) (st' := [.int x2, .ref (zrf a0 4)]) (am_site_v (y := 155) (k := 2) (ci := 11) rfl rfl (zrcv rfl h0 rfl)) (Nat.le_of_ble_eq_true rfl) (Nat.le_of_ble_eq_true rfl) rfl rfl (fun _ _ hF => zf155_ok hK h0 hF) hF (fun v1 s2 hF => ?_)
    refine Ev_p 2 (c' := (45, [some (.ref a0), some (.int x1), some (.int x2), none], [.int (v1 - 48), .int x2, .ref (zrf a0 4)])) rfl ?_
    refine Ez_as (M := zM154) rfl (zty (ci := 11) (f := 4) (t := 100) h0 rfl) hF (fun s3 hF => ?_)
    refine Ev_p 1 (c' := (47, [some (.ref a0), some (.int x1), some (.int x2), none], [.ref a0])) rfl ?_
    refine Ez_gr (M := zM154) (ci := 11) (f := 4) (t := 100) rfl rfl h0 rfl ?_
    refine Ev_p 1 (c' := (51, [some (.ref a0), some (.int x1), some (.int x2), none], [.int x2, .ref (zrf a0 4)])) rfl ?_
    refine Ez_al (M := zM154) rfl (zty (ci := 11) (f := 4) (t := 100) h0 rfl) hF (fun v4 hF => ?_)
    refine Ev_p 0 (c' := (52, [some (.ref a0), some (.int x1), some (.int x2), none], [.int v4])) rfl ?_
    refine Ez_if (M := zM154) (b := v4 = 0) rfl rfl hF (fun _ hF => ?_) (fun _ hF => ?_)
    · refine Ev_p 1 (c' := (70, [some (.ref a0), some (.int x1), some (.int x2), none], [.ref a0])) rfl ?_
      refine Ez_gr (M := zM154) (ci := 11) (f := 6) (t := 100) rfl rfl h0 rfl ?_
      refine Ev_p 2 (c' := (75, [some (.ref a0), some (.int x1), some (.int x2), none], [.int 0, .int x2, .ref (zrf a0 6)])) rfl ?_
      refine Ez_as (M := zM154) rfl (zty (ci := 11) (f := 6) (t := 100) h0 rfl) hF (fun s5 hF => ?_)
      refine Ev_p 2 (c' := (78, [some (.ref a0), some (.int x1), some (.int x2), some (.int 2)], [])) rfl ?_
      exact zf154_78_ok hK h0 hk4 hF
    · refine Ev_p 1 (c' := (56, [some (.ref a0), some (.int x1), some (.int x2), none], [.ref a0])) rfl ?_
      refine Ez_gr (M := zM154) (ci := 11) (f := 4) (t := 100) rfl rfl h0 rfl ?_
      refine Ev_p 1 (c' := (60, [some (.ref a0), some (.int x1), some (.int x2), none], [.int x2, .ref (zrf a0 4)])) rfl ?_
      refine Ez_al (M := zM154) rfl (zty (ci := 11) (f := 4) (t := 100) h0 rfl) hF (fun v6 hF => ?_)
      refine Ev_p 1 (c' := (62, [some (.ref a0), some (.int x1), some (.int x2), none], [.int 1, .int v6])) rfl ?_
      refine Ez_if (M := zM154) (b := v6 = 1) rfl rfl hF (fun _ hF => ?_) (fun _ hF => ?_)
      · refine Ev_p 1 (c' := (70, [some (.ref a0), some (.int x1), some (.int x2), none], [.ref a0])) rfl ?_
        refine Ez_gr (M := zM154) (ci := 11) (f := 6) (t := 100) rfl rfl h0 rfl ?_
        refine Ev_p 2 (c' := (75, [some (.ref a0), some (.int x1), some (.int x2), none], [.int 0, .int x2, .ref (zrf a0 6)])) rfl ?_
        refine Ez_as (M := zM154) rfl (zty (ci := 11) (f := 6) (t := 100) h0 rfl) hF (fun s7 hF => ?_)
        refine Ev_p 2 (c' := (78, [some (.ref a0), some (.int x1), some (.int x2), some (.int 2)], [])) rfl ?_
        exact zf154_78_ok hK h0 hk4 hF
      · refine Ev_p 3 (c' := (68, [some (.ref a0), some (.int x1), some (.int x2), none], [.int (x1 + 1)])) rfl ?_
        exact Ez_ri (M := zM154) rfl rfl hF
  · refine Ev_p 1 (c' := (29, [some (.ref a0), some (.int x1), some (.int x2), none], [.int x1])) rfl ?_
    exact Ez_ri (M := zM154) rfl rfl hF
noncomputable def zf154_4 (a0 : Nat)  : Nat → Int32 → Int32 → zS → Option (Int32 × zS)
  | 0, _, _, _ => none
  | n + 1, x1, x2, s =>
    if 2 ≤ x2 then
      zgf s a0 2 fun v1 =>
      if v1 ≤ x1 then
        some ((-1), s)
      else
        some (x1, s)
    else
      zbi (zf155 a0 x1 s) fun v2 s3 =>
      if ¬ x2 = 0 then
        zf154_25 a0 (zf154_4 a0 n) x1 x2 67 v2 s3
      else
        zf154_25 a0 (zf154_4 a0 n) x1 x2 83 v2 s3
theorem zf154_4_ok {K : cx_K} (hK : Kok K) {lg : Nat → Int64} {v : Int32} {s' : zS} {a0 : Nat} (h0 : zsh a0 = 11)   {n : Nat} : ∀ {x1 : Int32} {x2 : Int32} {s : zS}, zf154_4 a0 n x1 x2 s = some (v, s') → Ev K zM154 (4, [some (.ref a0), some (.int x1), some (.int x2), none], [], zmk lg s) 0 (.inl (some (.int v))) (zmk lg s') 0 := by
  induction n with
  | zero => intro x1 x2 s hF; rw [zf154_4] at hF; cases hF
  | succ n ih =>
    intro x1 x2 s hF
    rw [zf154_4] at hF
    refine Ev_p 2 (c' := (6, [some (.ref a0), some (.int x1), some (.int x2), none], [.int 2, .int x2])) rfl ?_
    refine Ez_if (M := zM154) (b := 2 ≤ x2) rfl rfl hF (fun _ hF => ?_) (fun _ hF => ?_)
    · refine Ev_p 2 (c' := (206, [some (.ref a0), some (.int x1), some (.int x2), none], [.ref a0, .int x1])) rfl ?_
      refine Ez_gf (M := zM154) (ci := 11) (f := 2) rfl rfl h0 rfl hF (fun v1 hF => ?_)
      refine Ev_p 0 (c' := (209, [some (.ref a0), some (.int x1), some (.int x2), none], [.int v1, .int x1])) rfl ?_
      refine Ez_if (M := zM154) (b := v1 ≤ x1) rfl rfl hF (fun _ hF => ?_) (fun _ hF => ?_)
      · refine Ev_p 1 (c' := (217, [some (.ref a0), some (.int x1), some (.int x2), none], [.int (-1)])) rfl ?_
        exact Ez_ri (M := zM154) rfl rfl hF
      · refine Ev_p 2 (c' := (217, [some (.ref a0), some (.int x1), some (.int x2), none], [.int x1])) rfl ?_
        exact Ez_ri (M := zM154) rfl rfl hF
    · refine Ev_p 2 (c' := (11, [some (.ref a0), some (.int x1), some (.int x2), none], [.int x1, .ref a0])) rfl ?_
      refine Ez_ci (M := zM154) (As := [.ref a0, .int x1]) (st' := []) (am_site_v (y := 155) (k := 2) (ci := 11) rfl rfl (zrcv rfl h0 rfl)) (Nat.le_of_ble_eq_true rfl) (Nat.le_of_ble_eq_true rfl) rfl rfl (fun _ _ hF => zf155_ok hK h0 hF) hF (fun v2 s3 hF => ?_)
      refine Ev_p 1 (c' := (15, [some (.ref a0), some (.int x1), some (.int x2), none], [.int x2, .int v2])) rfl ?_
      refine Ez_if (M := zM154) (b := ¬ x2 = 0) rfl rfl hF (fun _ hF => ?_) (fun _ hF => ?_)
      · refine Ev_p 1 (c' := (25, [some (.ref a0), some (.int x1), some (.int x2), none], [.int 67, .int v2])) rfl ?_
        exact zf154_25_ok hK h0 (fun _ _ _ hF => ih hF) hF
      · refine Ev_p 2 (c' := (25, [some (.ref a0), some (.int x1), some (.int x2), none], [.int 83, .int v2])) rfl ?_
        exact zf154_25_ok hK h0 (fun _ _ _ hF => ih hF) hF
noncomputable def zf154 (a0 : Nat) (s : zS) : Option (Int32 × zS) :=
  zf154_4 a0 zfz 0 0 s
theorem zf154_ok {K : cx_K} (hK : Kok K) {lg : Nat → Int64} {v : Int32} {s' : zS} {a0 : Nat} (h0 : zsh a0 = 11)  {s : zS} (hF : zf154 a0 s = some (v, s')) : Ct K 154 [.ref a0] (zmk lg s) (.inl (some (.int v))) (zmk lg s') 0 := by
  unfold zf154 at hF
  refine Ct_of hK nd_ok154 (mL := 4) (rt := some .int) rfl rfl (Nat.le_of_ble_eq_true rfl) zlen_le ?_
  refine Ev_p 4 (c' := (4, [some (.ref a0), some (.int 0), some (.int 0), none], [])) rfl ?_
  exact zf154_4_ok hK h0 hF
-- PaperParcelsModel.fail(II)I
abbrev zM158 : ev_M := (am_in nd_i158, am_fl nd_f11, am_ct nd_k11, am_sl nd_ml nd_s158, fun _ => none, some .int)
noncomputable def zf158 (a0 : Nat) (x1 : Int32) (x2 : Int32) (s : zS) : Option (Int32 × zS) :=
  zpf s a0 3 x2 fun s1 =>
  some (x1, s1)
theorem zf158_ok {K : cx_K} (hK : Kok K) {lg : Nat → Int64} {v : Int32} {s' : zS} {a0 : Nat} (h0 : zsh a0 = 11) {x1 : Int32} {x2 : Int32} {s : zS} (hF : zf158 a0 x1 x2 s = some (v, s')) : Ct K 158 [.ref a0, .int x1, .int x2] (zmk lg s) (.inl (some (.int v))) (zmk lg s') 0 := by
  unfold zf158 at hF
  refine Ct_of hK nd_ok158 (mL := 3) (rt := some .int) rfl rfl (Nat.le_of_ble_eq_true rfl) zlen_le ?_
  refine Ev_p 2 (c' := (2, [some (.ref a0), some (.int x1), some (.int x2)], [.int x2, .ref a0])) rfl ?_
  refine Ez_pf (M := zM158) (ci := 11) (f := 3) rfl rfl h0 rfl hF (fun s1 hF => ?_)
  refine Ev_p 1 (c' := (6, [some (.ref a0), some (.int x1), some (.int x2)], [.int x1])) rfl ?_
  exact Ez_ri (M := zM158) rfl rfl hF
-- PaperParcelsModel.reference(III)I
abbrev zM161 : ev_M := (am_in nd_i161, am_fl nd_f11, am_ct nd_k11, am_sl nd_ml nd_s161, fun _ => none, some .int)
noncomputable def zf161 (a0 : Nat) (x1 : Int32) (x2 : Int32) (x3 : Int32) (s : zS) : Option (Int32 × zS) :=
  if x2 ≤ (x1 + 3) then
    some (0, s)
  else
    zal s (zrf a0 1) (x1 + 1) fun v1 =>
    zbi (zf156 v1 s) fun v2 s3 =>
    if v2 = 0 then
      some (0, s3)
    else
      zal s3 (zrf a0 1) (x1 + 2) fun v4 =>
      zbi (zf156 v4 s3) fun v5 s6 =>
      if v5 = 0 then
        some (0, s6)
      else
        zal s6 (zrf a0 1) (x1 + 3) fun v7 =>
        zbi (zf156 v7 s6) fun v8 s9 =>
        if ¬ v8 = 0 then
          zal s9 (zrf a0 1) (x1 + 1) fun v10 =>
          zal s9 (zrf a0 1) (x1 + 2) fun v11 =>
          if (((10 * (v10 - 48)) + v11) - 48) = 0 then
            some (0, s9)
          else
            if (((10 * (v10 - 48)) + v11) - 48) ≤ x3 then
              zal s9 (zrf a0 1) (x1 + 3) fun v12 =>
              some (((((10 * (v10 - 48)) + v11) - 48) + (1000 * ((v12 - 48) + 5))), s9)
            else
              some (0, s9)
        else
          some (0, s9)
theorem zf161_ok {K : cx_K} (hK : Kok K) {lg : Nat → Int64} {v : Int32} {s' : zS} {a0 : Nat} (h0 : zsh a0 = 11) {x1 : Int32} {x2 : Int32} {x3 : Int32} {s : zS} (hF : zf161 a0 x1 x2 x3 s = some (v, s')) : Ct K 161 [.ref a0, .int x1, .int x2, .int x3] (zmk lg s) (.inl (some (.int v))) (zmk lg s') 0 := by
  unfold zf161 at hF
  refine Ct_of hK nd_ok161 (mL := 5) (rt := some .int) rfl rfl (Nat.le_of_ble_eq_true rfl) zlen_le ?_
  refine Ev_p 4 (c' := (4, [some (.ref a0), some (.int x1), some (.int x2), some (.int x3), none], [.int x2, .int (x1 + 3)])) rfl ?_
  refine Ez_if (M := zM161) (b := x2 ≤ (x1 + 3)) rfl rfl hF (fun _ hF => ?_) (fun _ hF => ?_)
  · refine Ev_p 1 (c' := (50, [some (.ref a0), some (.int x1), some (.int x2), some (.int x3), none], [.int 0])) rfl ?_
    exact Ez_ri (M := zM161) rfl rfl hF
  · refine Ev_p 1 (c' := (8, [some (.ref a0), some (.int x1), some (.int x2), some (.int x3), none], [.ref a0])) rfl ?_
    refine Ez_gr (M := zM161) (ci := 11) (f := 1) (t := 100) rfl rfl h0 rfl ?_
    refine Ev_p 3 (c' := (14, [some (.ref a0), some (.int x1), some (.int x2), some (.int x3), none], [.int (x1 + 1), .ref (zrf a0 1)])) rfl ?_
    refine Ez_al (M := zM161) rfl (zty (ci := 11) (f := 1) (t := 100) h0 rfl) hF (fun v1 hF => ?_)
    refine Ev_p 0 (c' := (15, [some (.ref a0), some (.int x1), some (.int x2), some (.int x3), none], [.int v1])) rfl ?_
    refine Ez_ci (M := zM161) (As := [.int v1]) (st' := []) (zsite_0 (y := 156) (k := 1) (ci := 11) rfl rfl) (Nat.le_of_ble_eq_true rfl) (Nat.le_of_ble_eq_true rfl) rfl rfl (fun _ _ hF => zf156_ok hK  hF) hF (fun v2 s3 hF => ?_)
    refine Ev_p 0 (c' := (18, [some (.ref a0), some (.int x1), some (.int x2), some (.int x3), none], [.int v2])) rfl ?_
    refine Ez_if (M := zM161) (b := v2 = 0) rfl rfl hF (fun _ hF => ?_) (fun _ hF => ?_)
    · refine Ev_p 1 (c' := (50, [some (.ref a0), some (.int x1), some (.int x2), some (.int x3), none], [.int 0])) rfl ?_
      exact Ez_ri (M := zM161) rfl rfl hF
    · refine Ev_p 1 (c' := (22, [some (.ref a0), some (.int x1), some (.int x2), some (.int x3), none], [.ref a0])) rfl ?_
      refine Ez_gr (M := zM161) (ci := 11) (f := 1) (t := 100) rfl rfl h0 rfl ?_
      refine Ev_p 3 (c' := (28, [some (.ref a0), some (.int x1), some (.int x2), some (.int x3), none], [.int (x1 + 2), .ref (zrf a0 1)])) rfl ?_
      refine Ez_al (M := zM161) rfl (zty (ci := 11) (f := 1) (t := 100) h0 rfl) hF (fun v4 hF => ?_)
      refine Ev_p 0 (c' := (29, [some (.ref a0), some (.int x1), some (.int x2), some (.int x3), none], [.int v4])) rfl ?_
      refine Ez_ci (M := zM161) (As := [.int v4]) (st' := []) (zsite_0 (y := 156) (k := 1) (ci := 11) rfl rfl) (Nat.le_of_ble_eq_true rfl) (Nat.le_of_ble_eq_true rfl) rfl rfl (fun _ _ hF => zf156_ok hK  hF) hF (fun v5 s6 hF => ?_)
      refine Ev_p 0 (c' := (32, [some (.ref a0), some (.int x1), some (.int x2), some (.int x3), none], [.int v5])) rfl ?_
      refine Ez_if (M := zM161) (b := v5 = 0) rfl rfl hF (fun _ hF => ?_) (fun _ hF => ?_)
      · refine Ev_p 1 (c' := (50, [some (.ref a0), some (.int x1), some (.int x2), some (.int x3), none], [.int 0])) rfl ?_
        exact Ez_ri (M := zM161) rfl rfl hF
      · refine Ev_p 1 (c' := (36, [some (.ref a0), some (.int x1), some (.int x2), some (.int x3), none], [.ref a0])) rfl ?_
        refine Ez_gr (M := zM161) (ci := 11) (f := 1) (t := 100) rfl rfl h0 rfl ?_
        refine Ev_p 3 (c' := (42, [some (.ref a0), some (.int x1), some (.int x2), some (.int x3), none], [.int (x1 + 3), .ref (zrf a0 1)])) rfl ?_
        refine Ez_al (M := zM161) rfl (zty (ci := 11) (f := 1) (t := 100) h0 rfl) hF (fun v7 hF => ?_)
        refine Ev_p 0 (c' := (43, [some (.ref a0), some (.int x1), some (.int x2), some (.int x3), none], [.int v7])) rfl ?_
        refine Ez_ci (M := zM161) (As := [.int v7]) (st' := []) (zsite_0 (y := 156) (k := 1) (ci := 11) rfl rfl) (Nat.le_of_ble_eq_true rfl) (Nat.le_of_ble_eq_true rfl) rfl rfl (fun _ _ hF => zf156_ok hK  hF) hF (fun v8 s9 hF => ?_)
        refine Ev_p 0 (c' := (46, [some (.ref a0), some (.int x1), some (.int x2), some (.int x3), none], [.int v8])) rfl ?_
        refine Ez_if (M := zM161) (b := ¬ v8 = 0) rfl rfl hF (fun _ hF => ?_) (fun _ hF => ?_)
        · refine Ev_p 2 (c' := (54, [some (.ref a0), some (.int x1), some (.int x2), some (.int x3), none], [.ref a0, .int 10])) rfl ?_
          refine Ez_gr (M := zM161) (ci := 11) (f := 1) (t := 100) rfl rfl h0 rfl ?_
          refine Ev_p 3 (c' := (60, [some (.ref a0), some (.int x1), some (.int x2), some (.int x3), none], [.int (x1 + 1), .ref (zrf a0 1), .int 10])) rfl ?_
          refine Ez_al (M := zM161) rfl (zty (ci := 11) (f := 1) (t := 100) h0 rfl) hF (fun v10 hF => ?_)
          refine Ev_p 4 (c' := (66, [some (.ref a0), some (.int x1), some (.int x2), some (.int x3), none], [.ref a0, .int (10 * (v10 - 48))])) rfl ?_
          refine Ez_gr (M := zM161) (ci := 11) (f := 1) (t := 100) rfl rfl h0 rfl ?_
          refine Ev_p 3 (c' := (72, [some (.ref a0), some (.int x1), some (.int x2), some (.int x3), none], [.int (x1 + 2), .ref (zrf a0 1), .int (10 * (v10 - 48))])) rfl ?_
          refine Ez_al (M := zM161) rfl (zty (ci := 11) (f := 1) (t := 100) h0 rfl) hF (fun v11 hF => ?_)
          refine Ev_p 5 (c' := (81, [some (.ref a0), some (.int x1), some (.int x2), some (.int x3), some (.int (((10 * (v10 - 48)) + v11) - 48))], [.int (((10 * (v10 - 48)) + v11) - 48)])) rfl ?_
          refine Ez_if (M := zM161) (b := (((10 * (v10 - 48)) + v11) - 48) = 0) rfl rfl hF (fun _ hF => ?_) (fun _ hF => ?_)
          · refine Ev_p 2 (c' := (114, [some (.ref a0), some (.int x1), some (.int x2), some (.int x3), some (.int (((10 * (v10 - 48)) + v11) - 48))], [.int 0])) rfl ?_
            exact Ez_ri (M := zM161) rfl rfl hF
          · refine Ev_p 2 (c' := (87, [some (.ref a0), some (.int x1), some (.int x2), some (.int x3), some (.int (((10 * (v10 - 48)) + v11) - 48))], [.int x3, .int (((10 * (v10 - 48)) + v11) - 48)])) rfl ?_
            refine Ez_if (M := zM161) (b := (((10 * (v10 - 48)) + v11) - 48) ≤ x3) rfl rfl hF (fun _ hF => ?_) (fun _ hF => ?_)
            · refine Ev_p 3 (c' := (100, [some (.ref a0), some (.int x1), some (.int x2), some (.int x3), some (.int (((10 * (v10 - 48)) + v11) - 48))], [.ref a0, .int 1000, .int (((10 * (v10 - 48)) + v11) - 48)])) rfl ?_
              refine Ez_gr (M := zM161) (ci := 11) (f := 1) (t := 100) rfl rfl h0 rfl ?_
              refine Ev_p 3 (c' := (106, [some (.ref a0), some (.int x1), some (.int x2), some (.int x3), some (.int (((10 * (v10 - 48)) + v11) - 48))], [.int (x1 + 3), .ref (zrf a0 1), .int 1000, .int (((10 * (v10 - 48)) + v11) - 48)])) rfl ?_
              refine Ez_al (M := zM161) rfl (zty (ci := 11) (f := 1) (t := 100) h0 rfl) hF (fun v12 hF => ?_)
              refine Ev_p 6 (c' := (114, [some (.ref a0), some (.int x1), some (.int x2), some (.int x3), some (.int (((10 * (v10 - 48)) + v11) - 48))], [.int ((((10 * (v10 - 48)) + v11) - 48) + (1000 * ((v12 - 48) + 5)))])) rfl ?_
              exact Ez_ri (M := zM161) rfl rfl hF
            · refine Ev_p 2 (c' := (114, [some (.ref a0), some (.int x1), some (.int x2), some (.int x3), some (.int (((10 * (v10 - 48)) + v11) - 48))], [.int 0])) rfl ?_
              exact Ez_ri (M := zM161) rfl rfl hF
        · refine Ev_p 1 (c' := (50, [some (.ref a0), some (.int x1), some (.int x2), some (.int x3), none], [.int 0])) rfl ?_
          exact Ez_ri (M := zM161) rfl rfl hF
-- PaperParcelsModel.unpack(I)I
abbrev zM160 : ev_M := (am_in nd_i160, am_fl nd_f11, am_ct nd_k11, am_sl nd_ml nd_s160, fun _ => none, some .int)
noncomputable def zf160_116 (a0 : Nat) (k24 : Int32 → Int32 → Int32 → Int32 → zS → Option (Int32 × zS)) : Nat → Int32 → Int32 → Int32 → Int32 → Int32 → Int32 → Int32 → Int32 → zS → Option (Int32 × zS)
  | 0, _, _, _, _, _, _, _, _, _ => none
  | n + 1, x1, x2, x3, x4, x5, x6, x7, x8, s =>
    if x7 ≤ x8 then
      if x5 = 0 then
        k24 x1 x2 x3 (x4 + 1) s
      else
        k24 x1 x2 x3 (x4 + 4) s
    else
      if x5 = 0 then
        zal s (zrf a0 1) x4 fun v1 =>
        zas s (zrf a0 7) ((300 * x1) + x3) v1 fun s2 =>
        zf160_116 a0 k24 n x1 x2 (x3 + 1) x4 x5 x6 x7 (x8 + 1) s2
      else
        zal s (zrf a0 7) (((300 * x1) + x3) - (x6 - x6 / 1000 * 1000)) fun v3 =>
        zas s (zrf a0 7) ((300 * x1) + x3) v3 fun s4 =>
        zf160_116 a0 k24 n x1 x2 (x3 + 1) x4 x5 x6 x7 (x8 + 1) s4
theorem zf160_116_ok {K : cx_K} (hK : Kok K) {lg : Nat → Int64} {v : Int32} {s' : zS} {a0 : Nat} (h0 : zsh a0 = 11) {k24 : Int32 → Int32 → Int32 → Int32 → zS → Option (Int32 × zS)} (hk24 : ∀ x1 x2 x3 x4 s, k24 x1 x2 x3 x4 s = some (v, s') → Ev K zM160 (24, [some (.ref a0), some (.int x1), some (.int x2), some (.int x3), some (.int x4), none, none, none, none], [], zmk lg s) 0 (.inl (some (.int v))) (zmk lg s') 0) {n : Nat} : ∀ {x1 : Int32} {x2 : Int32} {x3 : Int32} {x4 : Int32} {x5 : Int32} {x6 : Int32} {x7 : Int32} {x8 : Int32} {s : zS}, zf160_116 a0 k24 n x1 x2 x3 x4 x5 x6 x7 x8 s = some (v, s') → Ev K zM160 (116, [some (.ref a0), some (.int x1), some (.int x2), some (.int x3), some (.int x4), some (.int x5), some (.int x6), some (.int x7), some (.int x8)], [], zmk lg s) 0 (.inl (some (.int v))) (zmk lg s') 0 := by
  induction n with
  | zero => intro x1 x2 x3 x4 x5 x6 x7 x8 s hF; rw [zf160_116] at hF; cases hF
  | succ n ih =>
    intro x1 x2 x3 x4 x5 x6 x7 x8 s hF
    rw [zf160_116] at hF
    refine Ev_p 2 (c' := (120, [some (.ref a0), some (.int x1), some (.int x2), some (.int x3), some (.int x4), some (.int x5), some (.int x6), some (.int x7), some (.int x8)], [.int x7, .int x8])) rfl ?_
    refine Ez_if (M := zM160) (b := x7 ≤ x8) rfl rfl hF (fun _ hF => ?_) (fun _ hF => ?_)
    · refine Ev_p 2 (c' := (182, [some (.ref a0), some (.int x1), some (.int x2), some (.int x3), some (.int x4), some (.int x5), some (.int x6), some (.int x7), some (.int x8)], [.int x5, .int x4])) rfl ?_
      refine Ez_if (M := zM160) (b := x5 = 0) rfl rfl hF (fun _ hF => ?_) (fun _ hF => ?_)
      · refine Ev_p 4 (c' := (24, [some (.ref a0), some (.int x1), some (.int x2), some (.int x3), some (.int (x4 + 1)), some (.int x5), some (.int x6), some (.int x7), some (.int x8)], [])) rfl ?_
        refine Ev_w (L' := [some (.ref a0), some (.int x1), some (.int x2), some (.int x3), some (.int (x4 + 1)), none, none, none, none]) (zle_c (zle_c (zle_c (zle_c (zle_c (zle_n (zle_n (zle_n (zle_n zle_0))))))))) ?_
        exact hk24 _ _ _ _ _ hF
      · refine Ev_p 5 (c' := (24, [some (.ref a0), some (.int x1), some (.int x2), some (.int x3), some (.int (x4 + 4)), some (.int x5), some (.int x6), some (.int x7), some (.int x8)], [])) rfl ?_
        refine Ev_w (L' := [some (.ref a0), some (.int x1), some (.int x2), some (.int x3), some (.int (x4 + 4)), none, none, none, none]) (zle_c (zle_c (zle_c (zle_c (zle_c (zle_n (zle_n (zle_n (zle_n zle_0))))))))) ?_
        exact hk24 _ _ _ _ _ hF
    · refine Ev_p 1 (c' := (124, [some (.ref a0), some (.int x1), some (.int x2), some (.int x3), some (.int x4), some (.int x5), some (.int x6), some (.int x7), some (.int x8)], [.ref a0])) rfl ?_
      refine Ez_gr (M := zM160) (ci := 11) (f := 7) (t := 100) rfl rfl h0 rfl ?_
      refine Ev_p 6 (c' := (136, [some (.ref a0), some (.int x1), some (.int x2), some (.int x3), some (.int x4), some (.int x5), some (.int x6), some (.int x7), some (.int x8)], [.int x5, .int ((300 * x1) + x3), .ref (zrf a0 7)])) rfl ?_
      refine Ez_if (M := zM160) (b := x5 = 0) rfl rfl hF (fun _ hF => ?_) (fun _ hF => ?_)
      · refine Ev_p 1 (c' := (162, [some (.ref a0), some (.int x1), some (.int x2), some (.int x3), some (.int x4), some (.int x5), some (.int x6), some (.int x7), some (.int x8)], [.ref a0, .int ((300 * x1) + x3), .ref (zrf a0 7)])) rfl ?_
        refine Ez_gr (M := zM160) (ci := 11) (f := 1) (t := 100) rfl rfl h0 rfl ?_
        refine Ev_p 1 (c' := (167, [some (.ref a0), some (.int x1), some (.int x2), some (.int x3), some (.int x4), some (.int x5), some (.int x6), some (.int x7), some (.int x8)], [.int x4, .ref (zrf a0 1), .int ((300 * x1) + x3), .ref (zrf a0 7)])) rfl ?_
        refine Ez_al (M := zM160) rfl (zty (ci := 11) (f := 1) (t := 100) h0 rfl) hF (fun v1 hF => ?_)
        refine Ev_p 0 (c' := (168, [some (.ref a0), some (.int x1), some (.int x2), some (.int x3), some (.int x4), some (.int x5), some (.int x6), some (.int x7), some (.int x8)], [.int v1, .int ((300 * x1) + x3), .ref (zrf a0 7)])) rfl ?_
        refine Ez_as (M := zM160) rfl (zty (ci := 11) (f := 7) (t := 100) h0 rfl) hF (fun s2 hF => ?_)
        refine Ev_p 3 (c' := (116, [some (.ref a0), some (.int x1), some (.int x2), some (.int (x3 + 1)), some (.int x4), some (.int x5), some (.int x6), some (.int x7), some (.int (x8 + 1))], [])) rfl ?_
        exact ih hF
      · refine Ev_p 1 (c' := (140, [some (.ref a0), some (.int x1), some (.int x2), some (.int x3), some (.int x4), some (.int x5), some (.int x6), some (.int x7), some (.int x8)], [.ref a0, .int ((300 * x1) + x3), .ref (zrf a0 7)])) rfl ?_
        refine Ez_gr (M := zM160) (ci := 11) (f := 7) (t := 100) rfl rfl h0 rfl ?_
        refine Ev_p 9 (c' := (157, [some (.ref a0), some (.int x1), some (.int x2), some (.int x3), some (.int x4), some (.int x5), some (.int x6), some (.int x7), some (.int x8)], [.int (((300 * x1) + x3) - (x6 - x6 / 1000 * 1000)), .ref (zrf a0 7), .int ((300 * x1) + x3), .ref (zrf a0 7)])) rfl ?_
        refine Ez_al (M := zM160) rfl (zty (ci := 11) (f := 7) (t := 100) h0 rfl) hF (fun v3 hF => ?_)
        refine Ev_p 1 (c' := (168, [some (.ref a0), some (.int x1), some (.int x2), some (.int x3), some (.int x4), some (.int x5), some (.int x6), some (.int x7), some (.int x8)], [.int v3, .int ((300 * x1) + x3), .ref (zrf a0 7)])) rfl ?_
        refine Ez_as (M := zM160) rfl (zty (ci := 11) (f := 7) (t := 100) h0 rfl) hF (fun s4 hF => ?_)
        refine Ev_p 3 (c' := (116, [some (.ref a0), some (.int x1), some (.int x2), some (.int (x3 + 1)), some (.int x4), some (.int x5), some (.int x6), some (.int x7), some (.int (x8 + 1))], [])) rfl ?_
        exact ih hF
noncomputable def zf160_93 (a0 : Nat) (k24 : Int32 → Int32 → Int32 → Int32 → zS → Option (Int32 × zS)) (x1 : Int32) (x2 : Int32) (x3 : Int32) (x4 : Int32) (x5 : Int32) (x6 : Int32) (t0 : Int32) (s : zS) : Option (Int32 × zS) :=
  if t0 = 0 then
    some (x4, s)
  else
    if (x3 + t0) ≤ 300 then
      zf160_116 a0 k24 zfz x1 x2 x3 x4 x5 x6 t0 0 s
    else
      some (x4, s)
theorem zf160_93_ok {K : cx_K} (hK : Kok K) {lg : Nat → Int64} {v : Int32} {s' : zS} {a0 : Nat} (h0 : zsh a0 = 11) {k24 : Int32 → Int32 → Int32 → Int32 → zS → Option (Int32 × zS)} (hk24 : ∀ x1 x2 x3 x4 s, k24 x1 x2 x3 x4 s = some (v, s') → Ev K zM160 (24, [some (.ref a0), some (.int x1), some (.int x2), some (.int x3), some (.int x4), none, none, none, none], [], zmk lg s) 0 (.inl (some (.int v))) (zmk lg s') 0) {x1 : Int32} {x2 : Int32} {x3 : Int32} {x4 : Int32} {x5 : Int32} {x6 : Int32} {t0 : Int32}  {s : zS} (hF : zf160_93 a0 k24 x1 x2 x3 x4 x5 x6 t0 s = some (v, s')) : Ev K zM160 (93, [some (.ref a0), some (.int x1), some (.int x2), some (.int x3), some (.int x4), some (.int x5), some (.int x6), none, none], [.int t0], zmk lg s) 0 (.inl (some (.int v))) (zmk lg s') 0 := by
  unfold zf160_93 at hF
  refine Ev_p 2 (c' := (97, [some (.ref a0), some (.int x1), some (.int x2), some (.int x3), some (.int x4), some (.int x5), some (.int x6), some (.int t0), none], [.int t0])) rfl ?_
  refine Ez_if (M := zM160) (b := t0 = 0) rfl rfl hF (fun _ hF => ?_) (fun _ hF => ?_)
  · refine Ev_p 1 (c' := (112, [some (.ref a0), some (.int x1), some (.int x2), some (.int x3), some (.int x4), some (.int x5), some (.int x6), some (.int t0), none], [.int x4])) rfl ?_
    exact Ez_ri (M := zM160) rfl rfl hF
  · refine Ev_p 4 (c' := (107, [some (.ref a0), some (.int x1), some (.int x2), some (.int x3), some (.int x4), some (.int x5), some (.int x6), some (.int t0), none], [.int 300, .int (x3 + t0)])) rfl ?_
    refine Ez_if (M := zM160) (b := (x3 + t0) ≤ 300) rfl rfl hF (fun _ hF => ?_) (fun _ hF => ?_)
    · refine Ev_p 2 (c' := (116, [some (.ref a0), some (.int x1), some (.int x2), some (.int x3), some (.int x4), some (.int x5), some (.int x6), some (.int t0), some (.int 0)], [])) rfl ?_
      exact zf160_116_ok hK h0 hk24 hF
    · refine Ev_p 1 (c' := (112, [some (.ref a0), some (.int x1), some (.int x2), some (.int x3), some (.int x4), some (.int x5), some (.int x6), some (.int t0), none], [.int x4])) rfl ?_
      exact Ez_ri (M := zM160) rfl rfl hF
noncomputable def zf160_76 (a0 : Nat) (k24 : Int32 → Int32 → Int32 → Int32 → zS → Option (Int32 × zS)) (x1 : Int32) (x2 : Int32) (x3 : Int32) (x4 : Int32) (x5 : Int32) (t0 : Int32) (s : zS) : Option (Int32 × zS) :=
  if x5 = 0 then
    zf160_93 a0 k24 x1 x2 x3 x4 x5 t0 1 s
  else
    zf160_93 a0 k24 x1 x2 x3 x4 x5 t0 (t0 / 1000) s
theorem zf160_76_ok {K : cx_K} (hK : Kok K) {lg : Nat → Int64} {v : Int32} {s' : zS} {a0 : Nat} (h0 : zsh a0 = 11) {k24 : Int32 → Int32 → Int32 → Int32 → zS → Option (Int32 × zS)} (hk24 : ∀ x1 x2 x3 x4 s, k24 x1 x2 x3 x4 s = some (v, s') → Ev K zM160 (24, [some (.ref a0), some (.int x1), some (.int x2), some (.int x3), some (.int x4), none, none, none, none], [], zmk lg s) 0 (.inl (some (.int v))) (zmk lg s') 0) {x1 : Int32} {x2 : Int32} {x3 : Int32} {x4 : Int32} {x5 : Int32} {t0 : Int32}  {s : zS} (hF : zf160_76 a0 k24 x1 x2 x3 x4 x5 t0 s = some (v, s')) : Ev K zM160 (76, [some (.ref a0), some (.int x1), some (.int x2), some (.int x3), some (.int x4), some (.int x5), none, none, none], [.int t0], zmk lg s) 0 (.inl (some (.int v))) (zmk lg s') 0 := by
  unfold zf160_76 at hF
  refine Ev_p 2 (c' := (80, [some (.ref a0), some (.int x1), some (.int x2), some (.int x3), some (.int x4), some (.int x5), some (.int t0), none, none], [.int x5])) rfl ?_
  refine Ez_if (M := zM160) (b := x5 = 0) rfl rfl hF (fun _ hF => ?_) (fun _ hF => ?_)
  · refine Ev_p 1 (c' := (93, [some (.ref a0), some (.int x1), some (.int x2), some (.int x3), some (.int x4), some (.int x5), some (.int t0), none, none], [.int 1])) rfl ?_
    exact zf160_93_ok hK h0 hk24 hF
  · refine Ev_p 4 (c' := (93, [some (.ref a0), some (.int x1), some (.int x2), some (.int x3), some (.int x4), some (.int x5), some (.int t0), none, none], [.int (t0 / 1000)])) rfl ?_
    exact zf160_93_ok hK h0 hk24 hF
noncomputable def zf160_57 (a0 : Nat) (k24 : Int32 → Int32 → Int32 → Int32 → zS → Option (Int32 × zS)) (x1 : Int32) (x2 : Int32) (x3 : Int32) (x4 : Int32) (t0 : Int32) (s : zS) : Option (Int32 × zS) :=
  if t0 = 0 then
    zf160_76 a0 k24 x1 x2 x3 x4 t0 0 s
  else
    zbi (zf161 a0 x4 x2 x3 s) fun v1 s2 =>
    zf160_76 a0 k24 x1 x2 x3 x4 t0 v1 s2
theorem zf160_57_ok {K : cx_K} (hK : Kok K) {lg : Nat → Int64} {v : Int32} {s' : zS} {a0 : Nat} (h0 : zsh a0 = 11) {k24 : Int32 → Int32 → Int32 → Int32 → zS → Option (Int32 × zS)} (hk24 : ∀ x1 x2 x3 x4 s, k24 x1 x2 x3 x4 s = some (v, s') → Ev K zM160 (24, [some (.ref a0), some (.int x1), some (.int x2), some (.int x3), some (.int x4), none, none, none, none], [], zmk lg s) 0 (.inl (some (.int v))) (zmk lg s') 0) {x1 : Int32} {x2 : Int32} {x3 : Int32} {x4 : Int32} {t0 : Int32}  {s : zS} (hF : zf160_57 a0 k24 x1 x2 x3 x4 t0 s = some (v, s')) : Ev K zM160 (57, [some (.ref a0), some (.int x1), some (.int x2), some (.int x3), some (.int x4), none, none, none, none], [.int t0], zmk lg s) 0 (.inl (some (.int v))) (zmk lg s') 0 := by
  unfold zf160_57 at hF
  refine Ev_p 2 (c' := (61, [some (.ref a0), some (.int x1), some (.int x2), some (.int x3), some (.int x4), some (.int t0), none, none, none], [.int t0])) rfl ?_
  refine Ez_if (M := zM160) (b := t0 = 0) rfl rfl hF (fun _ hF => ?_) (fun _ hF => ?_)
  · refine Ev_p 1 (c' := (76, [some (.ref a0), some (.int x1), some (.int x2), some (.int x3), some (.int x4), some (.int t0), none, none, none], [.int 0])) rfl ?_
    exact zf160_76_ok hK h0 hk24 hF
  · refine Ev_p 4 (c' := (69, [some (.ref a0), some (.int x1), some (.int x2), some (.int x3), some (.int x4), some (.int t0), none, none, none], [.int x3, .int x2, .int x4, .ref a0])) rfl ?_
    refine Ez_ci (M := zM160) (As := [.ref a0, .int x4, .int x2, .int x3]) (st' := []) (am_site_v (y := 161) (k := 4) (ci := 11) rfl rfl (zrcv rfl h0 rfl)) (Nat.le_of_ble_eq_true rfl) (Nat.le_of_ble_eq_true rfl) rfl rfl (fun _ _ hF => zf161_ok hK h0 hF) hF (fun v1 s2 hF => ?_)
    refine Ev_p 1 (c' := (76, [some (.ref a0), some (.int x1), some (.int x2), some (.int x3), some (.int x4), some (.int t0), none, none, none], [.int v1])) rfl ?_
    exact zf160_76_ok hK h0 hk24 hF
noncomputable def zf160_24 (a0 : Nat)  : Nat → Int32 → Int32 → Int32 → Int32 → zS → Option (Int32 × zS)
  | 0, _, _, _, _, _ => none
  | n + 1, x1, x2, x3, x4, s =>
    if x2 ≤ x4 then
      zas s (zrf a0 8) x1 x3 fun s1 =>
      some ((-1), s1)
    else
      zal s (zrf a0 4) x1 fun v2 =>
      if ¬ v2 = 1 then
        zf160_57 a0 (zf160_24 a0 n) x1 x2 x3 x4 0 s
      else
        zal s (zrf a0 1) x4 fun v3 =>
        if ¬ v3 = 126 then
          zf160_57 a0 (zf160_24 a0 n) x1 x2 x3 x4 0 s
        else
          zf160_57 a0 (zf160_24 a0 n) x1 x2 x3 x4 1 s
theorem zf160_24_ok {K : cx_K} (hK : Kok K) {lg : Nat → Int64} {v : Int32} {s' : zS} {a0 : Nat} (h0 : zsh a0 = 11)   {n : Nat} : ∀ {x1 : Int32} {x2 : Int32} {x3 : Int32} {x4 : Int32} {s : zS}, zf160_24 a0 n x1 x2 x3 x4 s = some (v, s') → Ev K zM160 (24, [some (.ref a0), some (.int x1), some (.int x2), some (.int x3), some (.int x4), none, none, none, none], [], zmk lg s) 0 (.inl (some (.int v))) (zmk lg s') 0 := by
  induction n with
  | zero => intro x1 x2 x3 x4 s hF; rw [zf160_24] at hF; cases hF
  | succ n ih =>
    intro x1 x2 x3 x4 s hF
    rw [zf160_24] at hF
    refine Ev_p 2 (c' := (27, [some (.ref a0), some (.int x1), some (.int x2), some (.int x3), some (.int x4), none, none, none, none], [.int x2, .int x4])) rfl ?_
    refine Ez_if (M := zM160) (b := x2 ≤ x4) rfl rfl hF (fun _ hF => ?_) (fun _ hF => ?_)
    · refine Ev_p 1 (c' := (197, [some (.ref a0), some (.int x1), some (.int x2), some (.int x3), some (.int x4), none, none, none, none], [.ref a0])) rfl ?_
      refine Ez_gr (M := zM160) (ci := 11) (f := 8) (t := 100) rfl rfl h0 rfl ?_
      refine Ev_p 2 (c' := (202, [some (.ref a0), some (.int x1), some (.int x2), some (.int x3), some (.int x4), none, none, none, none], [.int x3, .int x1, .ref (zrf a0 8)])) rfl ?_
      refine Ez_as (M := zM160) rfl (zty (ci := 11) (f := 8) (t := 100) h0 rfl) hF (fun s1 hF => ?_)
      refine Ev_p 1 (c' := (204, [some (.ref a0), some (.int x1), some (.int x2), some (.int x3), some (.int x4), none, none, none, none], [.int (-1)])) rfl ?_
      exact Ez_ri (M := zM160) rfl rfl hF
    · refine Ev_p 1 (c' := (31, [some (.ref a0), some (.int x1), some (.int x2), some (.int x3), some (.int x4), none, none, none, none], [.ref a0])) rfl ?_
      refine Ez_gr (M := zM160) (ci := 11) (f := 4) (t := 100) rfl rfl h0 rfl ?_
      refine Ev_p 1 (c' := (35, [some (.ref a0), some (.int x1), some (.int x2), some (.int x3), some (.int x4), none, none, none, none], [.int x1, .ref (zrf a0 4)])) rfl ?_
      refine Ez_al (M := zM160) rfl (zty (ci := 11) (f := 4) (t := 100) h0 rfl) hF (fun v2 hF => ?_)
      refine Ev_p 1 (c' := (37, [some (.ref a0), some (.int x1), some (.int x2), some (.int x3), some (.int x4), none, none, none, none], [.int 1, .int v2])) rfl ?_
      refine Ez_if (M := zM160) (b := ¬ v2 = 1) rfl rfl hF (fun _ hF => ?_) (fun _ hF => ?_)
      · refine Ev_p 1 (c' := (57, [some (.ref a0), some (.int x1), some (.int x2), some (.int x3), some (.int x4), none, none, none, none], [.int 0])) rfl ?_
        exact zf160_57_ok hK h0 (fun _ _ _ _ _ hF => ih hF) hF
      · refine Ev_p 1 (c' := (41, [some (.ref a0), some (.int x1), some (.int x2), some (.int x3), some (.int x4), none, none, none, none], [.ref a0])) rfl ?_
        refine Ez_gr (M := zM160) (ci := 11) (f := 1) (t := 100) rfl rfl h0 rfl ?_
        refine Ev_p 1 (c' := (46, [some (.ref a0), some (.int x1), some (.int x2), some (.int x3), some (.int x4), none, none, none, none], [.int x4, .ref (zrf a0 1)])) rfl ?_
        refine Ez_al (M := zM160) rfl (zty (ci := 11) (f := 1) (t := 100) h0 rfl) hF (fun v3 hF => ?_)
        refine Ev_p 1 (c' := (49, [some (.ref a0), some (.int x1), some (.int x2), some (.int x3), some (.int x4), none, none, none, none], [.int 126, .int v3])) rfl ?_
        refine Ez_if (M := zM160) (b := ¬ v3 = 126) rfl rfl hF (fun _ hF => ?_) (fun _ hF => ?_)
        · refine Ev_p 1 (c' := (57, [some (.ref a0), some (.int x1), some (.int x2), some (.int x3), some (.int x4), none, none, none, none], [.int 0])) rfl ?_
          exact zf160_57_ok hK h0 (fun _ _ _ _ _ hF => ih hF) hF
        · refine Ev_p 2 (c' := (57, [some (.ref a0), some (.int x1), some (.int x2), some (.int x3), some (.int x4), none, none, none, none], [.int 1])) rfl ?_
          exact zf160_57_ok hK h0 (fun _ _ _ _ _ hF => ih hF) hF
noncomputable def zf160 (a0 : Nat) (x1 : Int32) (s : zS) : Option (Int32 × zS) :=
  zal s (zrf a0 5) x1 fun v1 =>
  zal s (zrf a0 6) x1 fun v2 =>
  zal s (zrf a0 5) x1 fun v3 =>
  zf160_24 a0 zfz x1 (v1 + v2) 0 v3 s
theorem zf160_ok {K : cx_K} (hK : Kok K) {lg : Nat → Int64} {v : Int32} {s' : zS} {a0 : Nat} (h0 : zsh a0 = 11) {x1 : Int32} {s : zS} (hF : zf160 a0 x1 s = some (v, s')) : Ct K 160 [.ref a0, .int x1] (zmk lg s) (.inl (some (.int v))) (zmk lg s') 0 := by
  unfold zf160 at hF
  refine Ct_of hK nd_ok160 (mL := 9) (rt := some .int) rfl rfl (Nat.le_of_ble_eq_true rfl) zlen_le ?_
  refine Ev_p 1 (c' := (1, [some (.ref a0), some (.int x1), none, none, none, none, none, none, none], [.ref a0])) rfl ?_
  refine Ez_gr (M := zM160) (ci := 11) (f := 5) (t := 100) rfl rfl h0 rfl ?_
  refine Ev_p 1 (c' := (5, [some (.ref a0), some (.int x1), none, none, none, none, none, none, none], [.int x1, .ref (zrf a0 5)])) rfl ?_
  refine Ez_al (M := zM160) rfl (zty (ci := 11) (f := 5) (t := 100) h0 rfl) hF (fun v1 hF => ?_)
  refine Ev_p 1 (c' := (7, [some (.ref a0), some (.int x1), none, none, none, none, none, none, none], [.ref a0, .int v1])) rfl ?_
  refine Ez_gr (M := zM160) (ci := 11) (f := 6) (t := 100) rfl rfl h0 rfl ?_
  refine Ev_p 1 (c' := (11, [some (.ref a0), some (.int x1), none, none, none, none, none, none, none], [.int x1, .ref (zrf a0 6), .int v1])) rfl ?_
  refine Ez_al (M := zM160) rfl (zty (ci := 11) (f := 6) (t := 100) h0 rfl) hF (fun v2 hF => ?_)
  refine Ev_p 5 (c' := (17, [some (.ref a0), some (.int x1), some (.int (v1 + v2)), some (.int 0), none, none, none, none, none], [.ref a0])) rfl ?_
  refine Ez_gr (M := zM160) (ci := 11) (f := 5) (t := 100) rfl rfl h0 rfl ?_
  refine Ev_p 1 (c' := (21, [some (.ref a0), some (.int x1), some (.int (v1 + v2)), some (.int 0), none, none, none, none, none], [.int x1, .ref (zrf a0 5)])) rfl ?_
  refine Ez_al (M := zM160) rfl (zty (ci := 11) (f := 5) (t := 100) h0 rfl) hF (fun v3 hF => ?_)
  refine Ev_p 1 (c' := (24, [some (.ref a0), some (.int x1), some (.int (v1 + v2)), some (.int 0), some (.int v3), none, none, none, none], [])) rfl ?_
  exact zf160_24_ok hK h0 hF

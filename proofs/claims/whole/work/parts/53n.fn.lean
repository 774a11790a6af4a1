/-! The methods as functions, and that the machine goes so (printed by wip/gen/fgen.py). -/
set_option maxRecDepth 100000
set_option linter.unusedVariables false
-- PaperParcelsModel.checked(II)I
abbrev zM163 : ev_M := (am_in nd_i163, am_fl nd_f11, am_ct nd_k11, am_sl nd_ml nd_s163, fun _ => none, some .int)
noncomputable def zf163_10   : Nat → Int32 → Int32 → zS → Option (Int32 × zS)
  | 0, _, _, _ => none
  | n + 1, x2, x3, s =>
    if 8 ≤ x3 then
      some (x2, s)
    else
      if (x2 &&& 32768) = 0 then
        zf163_10 n (x2 * 2) (x3 + 1) s
      else
        zf163_10 n (((x2 * 2) &&& 65535) ^^^ 4129) (x3 + 1) s
theorem zf163_10_ok {K : cx_K} (hK : Kok K) {lg : Nat → Int64} {v : Int32} {s' : zS}     {n : Nat} : ∀ {x2 : Int32} {x3 : Int32} {s : zS}, zf163_10 n x2 x3 s = some (v, s') → Ev K zM163 (10, [none, none, some (.int x2), some (.int x3)], [], zmk lg s) 0 (.inl (some (.int v))) (zmk lg s') 0 := by
  induction n with
  | zero => intro x2 x3 s hF; rw [zf163_10] at hF; cases hF
  | succ n ih =>
    intro x2 x3 s hF
    rw [zf163_10] at hF
    refine Ev_p 2 (c' := (13, [none, none, some (.int x2), some (.int x3)], [.int 8, .int x3])) rfl ?_
    refine Ez_if (M := zM163) (b := 8 ≤ x3) rfl rfl hF (fun _ hF => ?_) (fun _ hF => ?_)
    · refine Ev_p 1 (c' := (47, [none, none, some (.int x2), some (.int x3)], [.int x2])) rfl ?_
      exact Ez_ri (M := zM163) rfl rfl hF
    · refine Ev_p 1 (c' := (17, [none, none, some (.int x2), some (.int x3)], [.int x2])) rfl ?_
      refine Ez_ldc (M := zM163) (x := 32768) rfl rfl ?_
      refine Ev_p 1 (c' := (20, [none, none, some (.int x2), some (.int x3)], [.int (x2 &&& 32768)])) rfl ?_
      refine Ez_if (M := zM163) (b := (x2 &&& 32768) = 0) rfl rfl hF (fun _ hF => ?_) (fun _ hF => ?_)
      · refine Ev_p 6 (c' := (10, [none, none, some (.int (x2 * 2)), some (.int (x3 + 1))], [])) rfl ?_
        exact ih hF
      · refine Ev_p 3 (c' := (26, [none, none, some (.int x2), some (.int x3)], [.int (x2 * 2)])) rfl ?_
        refine Ez_ldc (M := zM163) (x := 65535) rfl rfl ?_
        refine Ev_p 7 (c' := (10, [none, none, some (.int (((x2 * 2) &&& 65535) ^^^ 4129)), some (.int (x3 + 1))], [])) rfl ?_
        exact ih hF
noncomputable def zf163 (x0 : Int32) (x1 : Int32) (s : zS) : Option (Int32 × zS) :=
  zf163_10 zfz (x0 ^^^ (x1 * 256)) 0 s
theorem zf163_ok {K : cx_K} (hK : Kok K) {lg : Nat → Int64} {v : Int32} {s' : zS}   {x0 : Int32} {x1 : Int32} {s : zS} (hF : zf163 x0 x1 s = some (v, s')) : Ct K 163 [.int x0, .int x1] (zmk lg s) (.inl (some (.int v))) (zmk lg s') 0 := by
  unfold zf163 at hF
  refine Ct_of hK nd_ok163 (mL := 4) (rt := some .int) rfl rfl (Nat.le_of_ble_eq_true rfl) zlen_le ?_
  refine Ev_p 8 (c' := (10, [some (.int x0), some (.int x1), some (.int (x0 ^^^ (x1 * 256))), some (.int 0)], [])) rfl ?_
  refine Ev_w (L' := [none, none, some (.int (x0 ^^^ (x1 * 256))), some (.int 0)]) (zle_n (zle_n (zle_c (zle_c zle_0)))) ?_
  exact zf163_10_ok hK hF
-- PaperParcelsModel.isChecked(I)Z
abbrev zM162 : ev_M := (am_in nd_i162, am_fl nd_f11, am_ct nd_k11, am_sl nd_ml nd_s162, fun _ => none, some .boolean)
noncomputable def zf162_43 (a0 : Nat)  : Nat → Int32 → Int32 → Int32 → Int32 → zS → Option (Int32 × zS)
  | 0, _, _, _, _, _ => none
  | n + 1, x1, x2, x3, x4, s =>
    if 4 ≤ x4 then
      if ¬ x2 = x3 then
        zrb 0 s
      else
        zrb 1 s
    else
      zal s (zrf a0 5) x1 fun v1 =>
      zal s (zrf a0 6) x1 fun v2 =>
      zal s (zrf a0 1) ((v1 + v2) + x4) fun v3 =>
      zbi (zf157 v3 s) fun v4 s5 =>
      zf162_43 a0 n x1 x2 ((16 * x3) + v4) (x4 + 1) s5
theorem zf162_43_ok {K : cx_K} (hK : Kok K) {lg : Nat → Int64} {v : Int32} {s' : zS} {a0 : Nat} (h0 : zsh a0 = 11)   {n : Nat} : ∀ {x1 : Int32} {x2 : Int32} {x3 : Int32} {x4 : Int32} {s : zS}, zf162_43 a0 n x1 x2 x3 x4 s = some (v, s') → Ev K zM162 (43, [some (.ref a0), some (.int x1), some (.int x2), some (.int x3), some (.int x4)], [], zmk lg s) 0 (.inl (some (.int v))) (zmk lg s') 0 := by
  induction n with
  | zero => intro x1 x2 x3 x4 s hF; rw [zf162_43] at hF; cases hF
  | succ n ih =>
    intro x1 x2 x3 x4 s hF
    rw [zf162_43] at hF
    refine Ev_p 2 (c' := (46, [some (.ref a0), some (.int x1), some (.int x2), some (.int x3), some (.int x4)], [.int 4, .int x4])) rfl ?_
    refine Ez_if (M := zM162) (b := 4 ≤ x4) rfl rfl hF (fun _ hF => ?_) (fun _ hF => ?_)
    · refine Ev_p 2 (c' := (87, [some (.ref a0), some (.int x1), some (.int x2), some (.int x3), some (.int x4)], [.int x3, .int x2])) rfl ?_
      refine Ez_if (M := zM162) (b := ¬ x2 = x3) rfl rfl hF (fun _ hF => ?_) (fun _ hF => ?_)
      · refine Ev_p 1 (c' := (95, [some (.ref a0), some (.int x1), some (.int x2), some (.int x3), some (.int x4)], [.int 0])) rfl ?_
        exact Ez_rb (M := zM162) rfl rfl hF
      · refine Ev_p 2 (c' := (95, [some (.ref a0), some (.int x1), some (.int x2), some (.int x3), some (.int x4)], [.int 1])) rfl ?_
        exact Ez_rb (M := zM162) rfl rfl hF
    · refine Ev_p 4 (c' := (54, [some (.ref a0), some (.int x1), some (.int x2), some (.int x3), some (.int x4)], [.ref a0, .int (16 * x3)])) rfl ?_
      refine Ez_gr (M := zM162) (ci := 11) (f := 1) (t := 100) rfl rfl h0 rfl ?_
      refine Ev_p 1 (c' := (58, [some (.ref a0), some (.int x1), some (.int x2), some (.int x3), some (.int x4)], [.ref a0, .ref (zrf a0 1), .int (16 * x3)])) rfl ?_
      refine Ez_gr (M := zM162) (ci := 11) (f := 5) (t := 100) rfl rfl h0 rfl ?_
      refine Ev_p 1 (c' := (62, [some (.ref a0), some (.int x1), some (.int x2), some (.int x3), some (.int x4)], [.int x1, .ref (zrf a0 5), .ref (zrf a0 1), .int (16 * x3)])) rfl ?_
      refine Ez_al (M := zM162) rfl (zty (ci := 11) (f := 5) (t := 100) h0 rfl) hF (fun v1 hF => ?_)
      refine Ev_p 1 (c' := (64, [some (.ref a0), some (.int x1), some (.int x2), some (.int x3), some (.int x4)], [.ref a0, .int v1, .ref (zrf a0 1), .int (16 * x3)])) rfl ?_
      refine Ez_gr (M := zM162) (ci := 11) (f := 6) (t := 100) rfl rfl h0 rfl ?_
      refine Ev_p 1 (c' := (68, [some (.ref a0), some (.int x1), some (.int x2), some (.int x3), some (.int x4)], [.int x1, .ref (zrf a0 6), .int v1, .ref (zrf a0 1), .int (16 * x3)])) rfl ?_
      refine Ez_al (M := zM162) rfl (zty (ci := 11) (f := 6) (t := 100) h0 rfl) hF (fun v2 hF => ?_)
      refine Ev_p 3 (c' := (73, [some (.ref a0), some (.int x1), some (.int x2), some (.int x3), some (.int x4)], [.int ((v1 + v2) + x4), .ref (zrf a0 1), .int (16 * x3)])) rfl ?_
      refine Ez_al (M := zM162) rfl (zty (ci := 11) (f := 1) (t := 100) h0 rfl) hF (fun v3 hF => ?_)
      refine Ev_p 0 (c' := (74, [some (.ref a0), some (.int x1), some (.int x2), some (.int x3), some (.int x4)], [.int v3, .int (16 * x3)])) rfl ?_
      refine Ez_ci (M := zM162) (As := [.int v3]) (st' := [.int (16 * x3)]) (zsite_0 (y := 157) (k := 1) (ci := 11) rfl rfl) (Nat.le_of_ble_eq_true rfl) (Nat.le_of_ble_eq_true rfl) rfl rfl (fun _ _ hF => zf157_ok hK  hF) hF (fun v4 s5 hF => ?_)
      refine Ev_p 4 (c' := (43, [some (.ref a0), some (.int x1), some (.int x2), some (.int ((16 * x3) + v4)), some (.int (x4 + 1))], [])) rfl ?_
      exact ih hF
noncomputable def zf162_5 (a0 : Nat)  : Nat → Int32 → Int32 → Int32 → zS → Option (Int32 × zS)
  | 0, _, _, _, _ => none
  | n + 1, x1, x2, x3, s =>
    zal s (zrf a0 8) x1 fun v1 =>
    if v1 ≤ x3 then
      zf162_43 a0 zfz x1 x2 0 0 s
    else
      zal s (zrf a0 7) ((300 * x1) + x3) fun v2 =>
      zbi (zf163 x2 v2 s) fun v3 s4 =>
      zf162_5 a0 n x1 v3 (x3 + 1) s4
theorem zf162_5_ok {K : cx_K} (hK : Kok K) {lg : Nat → Int64} {v : Int32} {s' : zS} {a0 : Nat} (h0 : zsh a0 = 11)   {n : Nat} : ∀ {x1 : Int32} {x2 : Int32} {x3 : Int32} {s : zS}, zf162_5 a0 n x1 x2 x3 s = some (v, s') → Ev K zM162 (5, [some (.ref a0), some (.int x1), some (.int x2), some (.int x3), none], [], zmk lg s) 0 (.inl (some (.int v))) (zmk lg s') 0 := by
  induction n with
  | zero => intro x1 x2 x3 s hF; rw [zf162_5] at hF; cases hF
  | succ n ih =>
    intro x1 x2 x3 s hF
    rw [zf162_5] at hF
    refine Ev_p 2 (c' := (7, [some (.ref a0), some (.int x1), some (.int x2), some (.int x3), none], [.ref a0, .int x3])) rfl ?_
    refine Ez_gr (M := zM162) (ci := 11) (f := 8) (t := 100) rfl rfl h0 rfl ?_
    refine Ev_p 1 (c' := (11, [some (.ref a0), some (.int x1), some (.int x2), some (.int x3), none], [.int x1, .ref (zrf a0 8), .int x3])) rfl ?_
    refine Ez_al (M := zM162) rfl (zty (ci := 11) (f := 8) (t := 100) h0 rfl) hF (fun v1 hF => ?_)
    refine Ev_p 0 (c' := (12, [some (.ref a0), some (.int x1), some (.int x2), some (.int x3), none], [.int v1, .int x3])) rfl ?_
    refine Ez_if (M := zM162) (b := v1 ≤ x3) rfl rfl hF (fun _ hF => ?_) (fun _ hF => ?_)
    · refine Ev_p 4 (c' := (43, [some (.ref a0), some (.int x1), some (.int x2), some (.int 0), some (.int 0)], [])) rfl ?_
      exact zf162_43_ok hK h0 hF
    · refine Ev_p 2 (c' := (17, [some (.ref a0), some (.int x1), some (.int x2), some (.int x3), none], [.ref a0, .int x2])) rfl ?_
      refine Ez_gr (M := zM162) (ci := 11) (f := 7) (t := 100) rfl rfl h0 rfl ?_
      refine Ev_p 5 (c' := (27, [some (.ref a0), some (.int x1), some (.int x2), some (.int x3), none], [.int ((300 * x1) + x3), .ref (zrf a0 7), .int x2])) rfl ?_
      refine Ez_al (M := zM162) rfl (zty (ci := 11) (f := 7) (t := 100) h0 rfl) hF (fun v2 hF => ?_)
      refine Ev_p 0 (c' := (28, [some (.ref a0), some (.int x1), some (.int x2), some (.int x3), none], [.int v2, .int x2])) rfl ?_
      refine Ez_ci (M := zM162) (As := [.int x2, .int v2]) (st' := []) (zsite_0 (y := 163) (k := 2) (ci := 11) rfl rfl) (Nat.le_of_ble_eq_true rfl) (Nat.le_of_ble_eq_true rfl) rfl rfl (fun _ _ hF => zf163_ok hK  hF) hF (fun v3 s4 hF => ?_)
      refine Ev_p 3 (c' := (5, [some (.ref a0), some (.int x1), some (.int v3), some (.int (x3 + 1)), none], [])) rfl ?_
      exact ih hF
noncomputable def zf162 (a0 : Nat) (x1 : Int32) (s : zS) : Option (Int32 × zS) :=
  zf162_5 a0 zfz x1 65535 0 s
theorem zf162_ok {K : cx_K} (hK : Kok K) {lg : Nat → Int64} {v : Int32} {s' : zS} {a0 : Nat} (h0 : zsh a0 = 11) {x1 : Int32} {s : zS} (hF : zf162 a0 x1 s = some (v, s')) : Ct K 162 [.ref a0, .int x1] (zmk lg s) (.inl (some (.int v))) (zmk lg s') 0 := by
  unfold zf162 at hF
  refine Ct_of hK nd_ok162 (mL := 5) (rt := some .boolean) rfl rfl (Nat.le_of_ble_eq_true rfl) zlen_le ?_
  refine Ev_p 0 (c' := (0, [some (.ref a0), some (.int x1), none, none, none], [])) rfl ?_
  refine Ez_ldc (M := zM162) (x := 65535) rfl rfl ?_
  refine Ev_p 3 (c' := (5, [some (.ref a0), some (.int x1), some (.int 65535), some (.int 0), none], [])) rfl ?_
  exact zf162_5_ok hK h0 hF
-- PaperParcelsModel.partFault(I)I
abbrev zM159 : ev_M := (am_in nd_i159, am_fl nd_f11, am_ct nd_k11, am_sl nd_ml nd_s159, fun _ => none, some .int)
noncomputable def zf159 (a0 : Nat) (x1 : Int32) (s : zS) : Option (Int32 × zS) :=
  zbi (zf160 a0 x1 s) fun v1 s2 =>
  if v1 < 0 then
    zbi (zf162 a0 x1 s2) fun v3 s4 =>
    if v3 = 0 then
      zal s4 (zrf a0 5) x1 fun v5 =>
      zal s4 (zrf a0 6) x1 fun v6 =>
      zbi (zf158 a0 3 (v5 + v6) s4) fun v7 s8 =>
      some (v7, s8)
    else
      some (0, s4)
  else
    zbi (zf158 a0 2 v1 s2) fun v9 s10 =>
    some (v9, s10)
theorem zf159_ok {K : cx_K} (hK : Kok K) {lg : Nat → Int64} {v : Int32} {s' : zS} {a0 : Nat} (h0 : zsh a0 = 11) {x1 : Int32} {s : zS} (hF : zf159 a0 x1 s = some (v, s')) : Ct K 159 [.ref a0, .int x1] (zmk lg s) (.inl (some (.int v))) (zmk lg s') 0 := by
  unfold zf159 at hF
  refine Ct_of hK nd_ok159 (mL := 3) (rt := some .int) rfl rfl (Nat.le_of_ble_eq_true rfl) zlen_le ?_
  refine Ev_p 2 (c' := (2, [some (.ref a0), some (.int x1), none], [.int x1, .ref a0])) rfl ?_
  refine Ez_ci (M := zM159) (As := [.ref a0, .int x1]) (st' := []) (am_site_v (y := 160) (k := 2) (ci := 11) rfl rfl (zrcv rfl h0 rfl)) (Nat.le_of_ble_eq_true rfl) (Nat.le_of_ble_eq_true rfl) rfl rfl (fun _ _ hF => zf160_ok hK h0 hF) hF (fun v1 s2 hF => ?_)
  refine Ev_p 2 (c' := (7, [some (.ref a0), some (.int x1), some (.int v1)], [.int v1])) rfl ?_
  refine Ez_if (M := zM159) (b := v1 < 0) rfl rfl hF (fun _ hF => ?_) (fun _ hF => ?_)
  · refine Ev_p 2 (c' := (19, [some (.ref a0), some (.int x1), some (.int v1)], [.int x1, .ref a0])) rfl ?_
    refine Ez_ci (M := zM159) (As := [.ref a0, .int x1]) (st' := []) (am_site_v (y := 162) (k := 2) (ci := 11) rfl rfl (zrcv rfl h0 rfl)) (Nat.le_of_ble_eq_true rfl) (Nat.le_of_ble_eq_true rfl) rfl rfl (fun _ _ hF => zf162_ok hK h0 hF) hF (fun v3 s4 hF => ?_)
    refine Ev_p 0 (c' := (22, [some (.ref a0), some (.int x1), some (.int v1)], [.int v3])) rfl ?_
    refine Ez_if (M := zM159) (b := v3 = 0) rfl rfl hF (fun _ hF => ?_) (fun _ hF => ?_)
    · refine Ev_p 3 (c' := (32, [some (.ref a0), some (.int x1), some (.int v1)], [.ref a0, .int 3, .ref a0])) rfl ?_
      refine Ez_gr (M := zM159) (ci := 11) (f := 5) (t := 100) rfl rfl h0 rfl ?_
      refine Ev_p 1 (c' := (36, [some (.ref a0), some (.int x1), some (.int v1)], [.int x1, .ref (zrf a0 5), .int 3, .ref a0])) rfl ?_
      refine Ez_al (M := zM159) rfl (zty (ci := 11) (f := 5) (t := 100) h0 rfl) hF (fun v5 hF => ?_)
      refine Ev_p 1 (c' := (38, [some (.ref a0), some (.int x1), some (.int v1)], [.ref a0, .int v5, .int 3, .ref a0])) rfl ?_
      refine Ez_gr (M := zM159) (ci := 11) (f := 6) (t := 100) rfl rfl h0 rfl ?_
      refine Ev_p 1 (c' := (42, [some (.ref a0), some (.int x1), some (.int v1)], [.int x1, .ref (zrf a0 6), .int v5, .int 3, .ref a0])) rfl ?_
      refine Ez_al (M := zM159) rfl (zty (ci := 11) (f := 6) (t := 100) h0 rfl) hF (fun v6 hF => ?_)
      refine Ev_p 1 (c' := (44, [some (.ref a0), some (.int x1), some (.int v1)], [.int (v5 + v6), .int 3, .ref a0])) rfl ?_
      refine Ez_ci (M := zM159) (As := [.ref a0, .int 3, .int (v5 + v6)]) (st' := []) (am_site_v (y := 158) (k := 3) (ci := 11) rfl rfl (zrcv rfl h0 rfl)) (Nat.le_of_ble_eq_true rfl) (Nat.le_of_ble_eq_true rfl) rfl rfl (fun _ _ hF => zf158_ok hK h0 hF) hF (fun v7 s8 hF => ?_)
      refine Ev_p 0 (c' := (47, [some (.ref a0), some (.int x1), some (.int v1)], [.int v7])) rfl ?_
      exact Ez_ri (M := zM159) rfl rfl hF
    · refine Ev_p 2 (c' := (47, [some (.ref a0), some (.int x1), some (.int v1)], [.int 0])) rfl ?_
      exact Ez_ri (M := zM159) rfl rfl hF
  · refine Ev_p 3 (c' := (13, [some (.ref a0), some (.int x1), some (.int v1)], [.int v1, .int 2, .ref a0])) rfl ?_
    refine Ez_ci (M := zM159) (As := [.ref a0, .int 2, .int v1]) (st' := []) (am_site_v (y := 158) (k := 3) (ci := 11) rfl rfl (zrcv rfl h0 rfl)) (Nat.le_of_ble_eq_true rfl) (Nat.le_of_ble_eq_true rfl) rfl rfl (fun _ _ hF => zf158_ok hK h0 hF) hF (fun v9 s10 hF => ?_)
    refine Ev_p 0 (c' := (16, [some (.ref a0), some (.int x1), some (.int v1)], [.int v9])) rfl ?_
    exact Ez_ri (M := zM159) rfl rfl hF
-- PaperParcelsModel.in(II)I
abbrev zM165 : ev_M := (am_in nd_i165, am_fl nd_f11, am_ct nd_k11, am_sl nd_ml nd_s165, fun _ => none, some .int)
noncomputable def zf165 (a0 : Nat) (x1 : Int32) (x2 : Int32) (s : zS) : Option (Int32 × zS) :=
  zal s (zrf a0 8) x1 fun v1 =>
  if v1 ≤ x2 then
    some ((-1), s)
  else
    zal s (zrf a0 7) ((300 * x1) + x2) fun v2 =>
    some (v2, s)
theorem zf165_ok {K : cx_K} (hK : Kok K) {lg : Nat → Int64} {v : Int32} {s' : zS} {a0 : Nat} (h0 : zsh a0 = 11) {x1 : Int32} {x2 : Int32} {s : zS} (hF : zf165 a0 x1 x2 s = some (v, s')) : Ct K 165 [.ref a0, .int x1, .int x2] (zmk lg s) (.inl (some (.int v))) (zmk lg s') 0 := by
  unfold zf165 at hF
  refine Ct_of hK nd_ok165 (mL := 3) (rt := some .int) rfl rfl (Nat.le_of_ble_eq_true rfl) zlen_le ?_
  refine Ev_p 2 (c' := (2, [some (.ref a0), some (.int x1), some (.int x2)], [.ref a0, .int x2])) rfl ?_
  refine Ez_gr (M := zM165) (ci := 11) (f := 8) (t := 100) rfl rfl h0 rfl ?_
  refine Ev_p 1 (c' := (6, [some (.ref a0), some (.int x1), some (.int x2)], [.int x1, .ref (zrf a0 8), .int x2])) rfl ?_
  refine Ez_al (M := zM165) rfl (zty (ci := 11) (f := 8) (t := 100) h0 rfl) hF (fun v1 hF => ?_)
  refine Ev_p 0 (c' := (7, [some (.ref a0), some (.int x1), some (.int x2)], [.int v1, .int x2])) rfl ?_
  refine Ez_if (M := zM165) (b := v1 ≤ x2) rfl rfl hF (fun _ hF => ?_) (fun _ hF => ?_)
  · refine Ev_p 1 (c' := (26, [some (.ref a0), some (.int x1), some (.int x2)], [.int (-1)])) rfl ?_
    exact Ez_ri (M := zM165) rfl rfl hF
  · refine Ev_p 1 (c' := (11, [some (.ref a0), some (.int x1), some (.int x2)], [.ref a0])) rfl ?_
    refine Ez_gr (M := zM165) (ci := 11) (f := 7) (t := 100) rfl rfl h0 rfl ?_
    refine Ev_p 5 (c' := (21, [some (.ref a0), some (.int x1), some (.int x2)], [.int ((300 * x1) + x2), .ref (zrf a0 7)])) rfl ?_
    refine Ez_al (M := zM165) rfl (zty (ci := 11) (f := 7) (t := 100) h0 rfl) hF (fun v2 hF => ?_)
    refine Ev_p 1 (c' := (26, [some (.ref a0), some (.int x1), some (.int x2)], [.int v2])) rfl ?_
    exact Ez_ri (M := zM165) rfl rfl hF
-- PaperParcelsModel.stop(I)V
abbrev zM167 : ev_M := (am_in nd_i167, am_fl nd_f11, am_ct nd_k11, am_sl nd_ml nd_s167, fun _ => none, none)
noncomputable def zf167 (a0 : Nat) (x1 : Int32) (s : zS) : Option (zS) :=
  zpb s a0 17 0 fun s1 =>
  zpf s1 a0 16 x1 fun s2 =>
  some s2
theorem zf167_ok {K : cx_K} (hK : Kok K) {lg : Nat → Int64} {s' : zS} {a0 : Nat} (h0 : zsh a0 = 11) {x1 : Int32} {s : zS} (hF : zf167 a0 x1 s = some s') : Ct K 167 [.ref a0, .int x1] (zmk lg s) (.inl none) (zmk lg s') 0 := by
  unfold zf167 at hF
  refine Ct_of hK nd_ok167 (mL := 2) (rt := none) rfl rfl (Nat.le_of_ble_eq_true rfl) zlen_le ?_
  refine Ev_p 2 (c' := (2, [some (.ref a0), some (.int x1)], [.int 0, .ref a0])) rfl ?_
  refine Ez_pb (M := zM167) (ci := 11) (f := 17) rfl rfl h0 rfl hF (fun s1 hF => ?_)
  refine Ev_p 2 (c' := (7, [some (.ref a0), some (.int x1)], [.int x1, .ref a0])) rfl ?_
  refine Ez_pf (M := zM167) (ci := 11) (f := 16) rfl rfl h0 rfl hF (fun s2 hF => ?_)
  refine Ev_p 0 (c' := (10, [some (.ref a0), some (.int x1)], [])) rfl ?_
  exact Ez_rv (M := zM167) rfl rfl hF
-- PaperParcelsModel.passEnd(I)V
abbrev zM166 : ev_M := (am_in nd_i166, am_fl nd_f11, am_ct nd_k11, am_sl nd_ml nd_s166, fun _ => none, none)
noncomputable def zf166 (a0 : Nat) (x1 : Int32) (s : zS) : Option (zS) :=
  zgf s a0 16 fun v1 =>
  zbi (zf165 a0 x1 (v1 + 2) s) fun v2 s3 =>
  zgf s3 a0 15 fun v4 =>
  zal s3 (zrf a0 14) (v4 - 1) fun v5 =>
  zal s3 (zrf a0 10) ((30 * x1) + v5) fun v6 =>
  if v2 = v6 then
    zbi (zf165 a0 x1 (v1 + 3) s3) fun v7 s8 =>
    if v7 = 62 then
      zgf s8 a0 15 fun v9 =>
      zpf s8 a0 15 (v9 - 1) fun s10 =>
      zpf s10 a0 16 (v1 + 4) fun s11 =>
      some s11
    else
      zbv (zf167 a0 (v1 + 3) s8) fun s13 =>
      some s13
  else
    zbv (zf167 a0 (v1 + 2) s3) fun s15 =>
    some s15
theorem zf166_ok {K : cx_K} (hK : Kok K) {lg : Nat → Int64} {s' : zS} {a0 : Nat} (h0 : zsh a0 = 11) {x1 : Int32} {s : zS} (hF : zf166 a0 x1 s = some s') : Ct K 166 [.ref a0, .int x1] (zmk lg s) (.inl none) (zmk lg s') 0 := by
  unfold zf166 at hF
  refine Ct_of hK nd_ok166 (mL := 3) (rt := none) rfl rfl (Nat.le_of_ble_eq_true rfl) zlen_le ?_
  refine Ev_p 1 (c' := (1, [some (.ref a0), some (.int x1), none], [.ref a0])) rfl ?_
  refine Ez_gf (M := zM166) (ci := 11) (f := 16) rfl rfl h0 rfl hF (fun v1 hF => ?_)
  refine Ev_p 6 (c' := (10, [some (.ref a0), some (.int x1), some (.int v1)], [.int (v1 + 2), .int x1, .ref a0])) rfl ?_
  refine Ez_ci (M := zM166) (As := [.ref a0, .int x1, .int (v1 + 2)]) (st' := []) (am_site_v (y := 165) (k := 3) (ci := 11) rfl rfl (zrcv rfl h0 rfl)) (Nat.le_of_ble_eq_true rfl) (Nat.le_of_ble_eq_true rfl) rfl rfl (fun _ _ hF => zf165_ok hK h0 hF) hF (fun v2 s3 hF => ?_)
  refine Ev_p 1 (c' := (14, [some (.ref a0), some (.int x1), some (.int v1)], [.ref a0, .int v2])) rfl ?_
  refine Ez_gr (M := zM166) (ci := 11) (f := 10) (t := 100) rfl rfl h0 rfl ?_
  refine Ev_p 4 (c' := (22, [some (.ref a0), some (.int x1), some (.int v1)], [.ref a0, .int (30 * x1), .ref (zrf a0 10), .int v2])) rfl ?_
  refine Ez_gr (M := zM166) (ci := 11) (f := 14) (t := 100) rfl rfl h0 rfl ?_
  refine Ev_p 1 (c' := (26, [some (.ref a0), some (.int x1), some (.int v1)], [.ref a0, .ref (zrf a0 14), .int (30 * x1), .ref (zrf a0 10), .int v2])) rfl ?_
  refine Ez_gf (M := zM166) (ci := 11) (f := 15) rfl rfl h0 rfl hF (fun v4 hF => ?_)
  refine Ev_p 2 (c' := (31, [some (.ref a0), some (.int x1), some (.int v1)], [.int (v4 - 1), .ref (zrf a0 14), .int (30 * x1), .ref (zrf a0 10), .int v2])) rfl ?_
  refine Ez_al (M := zM166) rfl (zty (ci := 11) (f := 14) (t := 100) h0 rfl) hF (fun v5 hF => ?_)
  refine Ev_p 1 (c' := (33, [some (.ref a0), some (.int x1), some (.int v1)], [.int ((30 * x1) + v5), .ref (zrf a0 10), .int v2])) rfl ?_
  refine Ez_al (M := zM166) rfl (zty (ci := 11) (f := 10) (t := 100) h0 rfl) hF (fun v6 hF => ?_)
  refine Ev_p 0 (c' := (34, [some (.ref a0), some (.int x1), some (.int v1)], [.int v6, .int v2])) rfl ?_
  refine Ez_if (M := zM166) (b := v2 = v6) rfl rfl hF (fun _ hF => ?_) (fun _ hF => ?_)
  · refine Ev_p 5 (c' := (52, [some (.ref a0), some (.int x1), some (.int v1)], [.int (v1 + 3), .int x1, .ref a0])) rfl ?_
    refine Ez_ci (M := zM166) (As := [.ref a0, .int x1, .int (v1 + 3)]) (st' := []) (am_site_v (y := 165) (k := 3) (ci := 11) rfl rfl (zrcv rfl h0 rfl)) (Nat.le_of_ble_eq_true rfl) (Nat.le_of_ble_eq_true rfl) rfl rfl (fun _ _ hF => zf165_ok hK h0 hF) hF (fun v7 s8 hF => ?_)
    refine Ev_p 1 (c' := (57, [some (.ref a0), some (.int x1), some (.int v1)], [.int 62, .int v7])) rfl ?_
    refine Ez_if (M := zM166) (b := v7 = 62) rfl rfl hF (fun _ hF => ?_) (fun _ hF => ?_)
    · refine Ev_p 2 (c' := (72, [some (.ref a0), some (.int x1), some (.int v1)], [.ref a0, .ref a0])) rfl ?_
      refine Ez_gf (M := zM166) (ci := 11) (f := 15) rfl rfl h0 rfl hF (fun v9 hF => ?_)
      refine Ev_p 2 (c' := (77, [some (.ref a0), some (.int x1), some (.int v1)], [.int (v9 - 1), .ref a0])) rfl ?_
      refine Ez_pf (M := zM166) (ci := 11) (f := 15) rfl rfl h0 rfl hF (fun s10 hF => ?_)
      refine Ev_p 4 (c' := (84, [some (.ref a0), some (.int x1), some (.int v1)], [.int (v1 + 4), .ref a0])) rfl ?_
      refine Ez_pf (M := zM166) (ci := 11) (f := 16) rfl rfl h0 rfl hF (fun s11 hF => ?_)
      refine Ev_p 0 (c' := (87, [some (.ref a0), some (.int x1), some (.int v1)], [])) rfl ?_
      exact Ez_rv (M := zM166) rfl rfl hF
    · refine Ev_p 4 (c' := (64, [some (.ref a0), some (.int x1), some (.int v1)], [.int (v1 + 3), .ref a0])) rfl ?_
      refine Ez_cv (M := zM166) (As := [.ref a0, .int (v1 + 3)]) (st' := []) (am_site_v (y := 167) (k := 2) (ci := 11) rfl rfl (zrcv rfl h0 rfl)) (Nat.le_of_ble_eq_true rfl) (Nat.le_of_ble_eq_true rfl) rfl rfl (fun _ hF => zf167_ok hK h0 hF) hF (fun s13 hF => ?_)
      refine Ev_p 1 (c' := (87, [some (.ref a0), some (.int x1), some (.int v1)], [])) rfl ?_
      exact Ez_rv (M := zM166) rfl rfl hF
  · refine Ev_p 4 (c' := (41, [some (.ref a0), some (.int x1), some (.int v1)], [.int (v1 + 2), .ref a0])) rfl ?_
    refine Ez_cv (M := zM166) (As := [.ref a0, .int (v1 + 2)]) (st' := []) (am_site_v (y := 167) (k := 2) (ci := 11) rfl rfl (zrcv rfl h0 rfl)) (Nat.le_of_ble_eq_true rfl) (Nat.le_of_ble_eq_true rfl) rfl rfl (fun _ hF => zf167_ok hK h0 hF) hF (fun s15 hF => ?_)
    refine Ev_p 1 (c' := (87, [some (.ref a0), some (.int x1), some (.int v1)], [])) rfl ?_
    exact Ez_rv (M := zM166) rfl rfl hF
-- PaperParcelsModel.isSmall(I)Z
abbrev zM169 : ev_M := (am_in nd_i169, am_fl nd_f11, am_ct nd_k11, am_sl nd_ml nd_s169, fun _ => none, some .boolean)
noncomputable def zf169 (x0 : Int32) (s : zS) : Option (Int32 × zS) :=
  if x0 < 97 then
    zrb 0 s
  else
    if 122 < x0 then
      zrb 0 s
    else
      zrb 1 s
theorem zf169_ok {K : cx_K} (hK : Kok K) {lg : Nat → Int64} {v : Int32} {s' : zS}   {x0 : Int32} {s : zS} (hF : zf169 x0 s = some (v, s')) : Ct K 169 [.int x0] (zmk lg s) (.inl (some (.int v))) (zmk lg s') 0 := by
  unfold zf169 at hF
  refine Ct_of hK nd_ok169 (mL := 1) (rt := some .boolean) rfl rfl (Nat.le_of_ble_eq_true rfl) zlen_le ?_
  refine Ev_p 2 (c' := (3, [some (.int x0)], [.int 97, .int x0])) rfl ?_
  refine Ez_if (M := zM169) (b := x0 < 97) rfl rfl hF (fun _ hF => ?_) (fun _ hF => ?_)
  · refine Ev_p 1 (c' := (17, [some (.int x0)], [.int 0])) rfl ?_
    exact Ez_rb (M := zM169) rfl rfl hF
  · refine Ev_p 2 (c' := (9, [some (.int x0)], [.int 122, .int x0])) rfl ?_
    refine Ez_if (M := zM169) (b := 122 < x0) rfl rfl hF (fun _ hF => ?_) (fun _ hF => ?_)
    · refine Ev_p 1 (c' := (17, [some (.int x0)], [.int 0])) rfl ?_
      exact Ez_rb (M := zM169) rfl rfl hF
    · refine Ev_p 2 (c' := (17, [some (.int x0)], [.int 1])) rfl ?_
      exact Ez_rb (M := zM169) rfl rfl hF
-- PaperParcelsModel.isCapital(I)Z
abbrev zM172 : ev_M := (am_in nd_i172, am_fl nd_f11, am_ct nd_k11, am_sl nd_ml nd_s172, fun _ => none, some .boolean)
noncomputable def zf172 (x0 : Int32) (s : zS) : Option (Int32 × zS) :=
  if x0 < 65 then
    zrb 0 s
  else
    if 90 < x0 then
      zrb 0 s
    else
      zrb 1 s
theorem zf172_ok {K : cx_K} (hK : Kok K) {lg : Nat → Int64} {v : Int32} {s' : zS}   {x0 : Int32} {s : zS} (hF : zf172 x0 s = some (v, s')) : Ct K 172 [.int x0] (zmk lg s) (.inl (some (.int v))) (zmk lg s') 0 := by
  unfold zf172 at hF
  refine Ct_of hK nd_ok172 (mL := 1) (rt := some .boolean) rfl rfl (Nat.le_of_ble_eq_true rfl) zlen_le ?_
  refine Ev_p 2 (c' := (3, [some (.int x0)], [.int 65, .int x0])) rfl ?_
  refine Ez_if (M := zM172) (b := x0 < 65) rfl rfl hF (fun _ hF => ?_) (fun _ hF => ?_)
  · refine Ev_p 1 (c' := (17, [some (.int x0)], [.int 0])) rfl ?_
    exact Ez_rb (M := zM172) rfl rfl hF
  · refine Ev_p 2 (c' := (9, [some (.int x0)], [.int 90, .int x0])) rfl ?_
    refine Ez_if (M := zM172) (b := 90 < x0) rfl rfl hF (fun _ hF => ?_) (fun _ hF => ?_)
    · refine Ev_p 1 (c' := (17, [some (.int x0)], [.int 0])) rfl ?_
      exact Ez_rb (M := zM172) rfl rfl hF
    · refine Ev_p 2 (c' := (17, [some (.int x0)], [.int 1])) rfl ?_
      exact Ez_rb (M := zM172) rfl rfl hF
-- PaperParcelsModel.isPlain(I)Z
abbrev zM171 : ev_M := (am_in nd_i171, am_fl nd_f11, am_ct nd_k11, am_sl nd_ml nd_s171, fun _ => none, some .boolean)
noncomputable def zf171 (x0 : Int32) (s : zS) : Option (Int32 × zS) :=
  zbi (zf156 x0 s) fun v1 s2 =>
  if ¬ v1 = 0 then
    zrb 1 s2
  else
    zbi (zf172 x0 s2) fun v3 s4 =>
    if ¬ v3 = 0 then
      zrb 1 s4
    else
      zbi (zf169 x0 s4) fun v5 s6 =>
      if v5 = 0 then
        zrb 0 s6
      else
        zrb 1 s6
theorem zf171_ok {K : cx_K} (hK : Kok K) {lg : Nat → Int64} {v : Int32} {s' : zS}   {x0 : Int32} {s : zS} (hF : zf171 x0 s = some (v, s')) : Ct K 171 [.int x0] (zmk lg s) (.inl (some (.int v))) (zmk lg s') 0 := by
  unfold zf171 at hF
  refine Ct_of hK nd_ok171 (mL := 1) (rt := some .boolean) rfl rfl (Nat.le_of_ble_eq_true rfl) zlen_le ?_
  refine Ev_p 1 (c' := (1, [some (.int x0)], [.int x0])) rfl ?_
  refine Ez_ci (M := zM171) (As := [.int x0]) (st' := []) (zsite_0 (y := 156) (k := 1) (ci := 11) rfl rfl) (Nat.le_of_ble_eq_true rfl) (Nat.le_of_ble_eq_true rfl) rfl rfl (fun _ _ hF => zf156_ok hK  hF) hF (fun v1 s2 hF => ?_)
  refine Ev_p 0 (c' := (4, [some (.int x0)], [.int v1])) rfl ?_
  refine Ez_if (M := zM171) (b := ¬ v1 = 0) rfl rfl hF (fun _ hF => ?_) (fun _ hF => ?_)
  · refine Ev_p 2 (c' := (26, [some (.int x0)], [.int 1])) rfl ?_
    exact Ez_rb (M := zM171) rfl rfl hF
  · refine Ev_p 1 (c' := (8, [some (.int x0)], [.int x0])) rfl ?_
    refine Ez_ci (M := zM171) (As := [.int x0]) (st' := []) (zsite_0 (y := 172) (k := 1) (ci := 11) rfl rfl) (Nat.le_of_ble_eq_true rfl) (Nat.le_of_ble_eq_true rfl) rfl rfl (fun _ _ hF => zf172_ok hK  hF) hF (fun v3 s4 hF => ?_)
    refine Ev_p 0 (c' := (11, [some (.int x0)], [.int v3])) rfl ?_
    refine Ez_if (M := zM171) (b := ¬ v3 = 0) rfl rfl hF (fun _ hF => ?_) (fun _ hF => ?_)
    · refine Ev_p 2 (c' := (26, [some (.int x0)], [.int 1])) rfl ?_
      exact Ez_rb (M := zM171) rfl rfl hF
    · refine Ev_p 1 (c' := (15, [some (.int x0)], [.int x0])) rfl ?_
      refine Ez_ci (M := zM171) (As := [.int x0]) (st' := []) (zsite_0 (y := 169) (k := 1) (ci := 11) rfl rfl) (Nat.le_of_ble_eq_true rfl) (Nat.le_of_ble_eq_true rfl) rfl rfl (fun _ _ hF => zf169_ok hK  hF) hF (fun v5 s6 hF => ?_)
      refine Ev_p 0 (c' := (18, [some (.int x0)], [.int v5])) rfl ?_
      refine Ez_if (M := zM171) (b := v5 = 0) rfl rfl hF (fun _ hF => ?_) (fun _ hF => ?_)
      · refine Ev_p 1 (c' := (26, [some (.int x0)], [.int 0])) rfl ?_
        exact Ez_rb (M := zM171) rfl rfl hF
      · refine Ev_p 2 (c' := (26, [some (.int x0)], [.int 1])) rfl ?_
        exact Ez_rb (M := zM171) rfl rfl hF
-- PaperParcelsModel.passAttribute(II)I
abbrev zM170 : ev_M := (am_in nd_i170, am_fl nd_f11, am_ct nd_k11, am_sl nd_ml nd_s170, fun _ => none, some .int)
noncomputable def zf170_139 (a0 : Nat)  (x4 : Int32) (s : zS) : Option (Int32 × zS) :=
  zgf s a0 17 fun v1 =>
  if v1 = 0 then
    some (0, s)
  else
    some ((1 <<< ((x4 - 97) &&& 31)), s)
theorem zf170_139_ok {K : cx_K} (hK : Kok K) {lg : Nat → Int64} {v : Int32} {s' : zS} {a0 : Nat} (h0 : zsh a0 = 11)   {x4 : Int32}  {s : zS} (hF : zf170_139 a0 x4 s = some (v, s')) : Ev K zM170 (139, [some (.ref a0), none, none, none, some (.int x4)], [], zmk lg s) 0 (.inl (some (.int v))) (zmk lg s') 0 := by
  unfold zf170_139 at hF
  refine Ev_p 1 (c' := (140, [some (.ref a0), none, none, none, some (.int x4)], [.ref a0])) rfl ?_
  refine Ez_gf (M := zM170) (ci := 11) (f := 17) rfl rfl h0 rfl hF (fun v1 hF => ?_)
  refine Ev_p 0 (c' := (143, [some (.ref a0), none, none, none, some (.int x4)], [.int v1])) rfl ?_
  refine Ez_if (M := zM170) (b := v1 = 0) rfl rfl hF (fun _ hF => ?_) (fun _ hF => ?_)
  · refine Ev_p 1 (c' := (157, [some (.ref a0), none, none, none, some (.int x4)], [.int 0])) rfl ?_
    exact Ez_ri (M := zM170) rfl rfl hF
  · refine Ev_p 6 (c' := (157, [some (.ref a0), none, none, none, some (.int x4)], [.int (1 <<< ((x4 - 97) &&& 31))])) rfl ?_
    exact Ez_ri (M := zM170) rfl rfl hF
noncomputable def zf170_36 (a0 : Nat)  (x3 : Int32) (x4 : Int32) (s : zS) : Option (Int32 × zS) :=
  zbv (zf167 a0 (x3 + 1) s) fun s2 =>
  zf170_139 a0 x4 s2
theorem zf170_36_ok {K : cx_K} (hK : Kok K) {lg : Nat → Int64} {v : Int32} {s' : zS} {a0 : Nat} (h0 : zsh a0 = 11)   {x3 : Int32} {x4 : Int32}  {s : zS} (hF : zf170_36 a0 x3 x4 s = some (v, s')) : Ev K zM170 (36, [some (.ref a0), none, none, some (.int x3), some (.int x4)], [], zmk lg s) 0 (.inl (some (.int v))) (zmk lg s') 0 := by
  unfold zf170_36 at hF
  refine Ev_p 4 (c' := (40, [some (.ref a0), none, none, some (.int x3), some (.int x4)], [.int (x3 + 1), .ref a0])) rfl ?_
  refine Ez_cv (M := zM170) (As := [.ref a0, .int (x3 + 1)]) (st' := []) (am_site_v (y := 167) (k := 2) (ci := 11) rfl rfl (zrcv rfl h0 rfl)) (Nat.le_of_ble_eq_true rfl) (Nat.le_of_ble_eq_true rfl) rfl rfl (fun _ hF => zf167_ok hK h0 hF) hF (fun s2 hF => ?_)
  refine Ev_p 1 (c' := (139, [some (.ref a0), none, none, some (.int x3), some (.int x4)], [])) rfl ?_
  refine Ev_w (L' := [some (.ref a0), none, none, none, some (.int x4)]) (zle_c (zle_c (zle_c (zle_n (zle_c zle_0))))) ?_
  exact zf170_139_ok hK h0 hF
noncomputable def zf170_95 (a0 : Nat)  : Nat → Int32 → Int32 → Int32 → zS → Option (Int32 × zS)
  | 0, _, _, _, _ => none
  | n + 1, x1, x3, x4, s =>
    zbi (zf165 a0 x1 x3 s) fun v1 s2 =>
    zbi (zf171 v1 s2) fun v3 s4 =>
    if v3 = 0 then
      zbi (zf165 a0 x1 x3 s4) fun v5 s6 =>
      if ¬ v5 = 34 then
        zbv (zf167 a0 x3 s6) fun s8 =>
        zf170_139 a0 x4 s8
      else
        zpf s6 a0 16 (x3 + 1) fun s9 =>
        zf170_139 a0 x4 s9
    else
      zf170_95 a0 n x1 (x3 + 1) x4 s4
theorem zf170_95_ok {K : cx_K} (hK : Kok K) {lg : Nat → Int64} {v : Int32} {s' : zS} {a0 : Nat} (h0 : zsh a0 = 11)   {n : Nat} : ∀ {x1 : Int32} {x3 : Int32} {x4 : Int32} {s : zS}, zf170_95 a0 n x1 x3 x4 s = some (v, s') → Ev K zM170 (95, [some (.ref a0), some (.int x1), none, some (.int x3), some (.int x4)], [], zmk lg s) 0 (.inl (some (.int v))) (zmk lg s') 0 := by
  induction n with
  | zero => intro x1 x3 x4 s hF; rw [zf170_95] at hF; cases hF
  | succ n ih =>
    intro x1 x3 x4 s hF
    rw [zf170_95] at hF
    refine Ev_p 3 (c' := (98, [some (.ref a0), some (.int x1), none, some (.int x3), some (.int x4)], [.int x3, .int x1, .ref a0])) rfl ?_
    refine Ez_ci (M := zM170) (As := [.ref a0, .int x1, .int x3]) (st' := []) (am_site_v (y := 165) (k := 3) (ci := 11) rfl rfl (zrcv rfl h0 rfl)) (Nat.le_of_ble_eq_true rfl) (Nat.le_of_ble_eq_true rfl) rfl rfl (fun _ _ hF => zf165_ok hK h0 hF) hF (fun v1 s2 hF => ?_)
    refine Ev_p 0 (c' := (101, [some (.ref a0), some (.int x1), none, some (.int x3), some (.int x4)], [.int v1])) rfl ?_
    refine Ez_ci (M := zM170) (As := [.int v1]) (st' := []) (zsite_0 (y := 171) (k := 1) (ci := 11) rfl rfl) (Nat.le_of_ble_eq_true rfl) (Nat.le_of_ble_eq_true rfl) rfl rfl (fun _ _ hF => zf171_ok hK  hF) hF (fun v3 s4 hF => ?_)
    refine Ev_p 0 (c' := (104, [some (.ref a0), some (.int x1), none, some (.int x3), some (.int x4)], [.int v3])) rfl ?_
    refine Ez_if (M := zM170) (b := v3 = 0) rfl rfl hF (fun _ hF => ?_) (fun _ hF => ?_)
    · refine Ev_p 3 (c' := (116, [some (.ref a0), some (.int x1), none, some (.int x3), some (.int x4)], [.int x3, .int x1, .ref a0])) rfl ?_
      refine Ez_ci (M := zM170) (As := [.ref a0, .int x1, .int x3]) (st' := []) (am_site_v (y := 165) (k := 3) (ci := 11) rfl rfl (zrcv rfl h0 rfl)) (Nat.le_of_ble_eq_true rfl) (Nat.le_of_ble_eq_true rfl) rfl rfl (fun _ _ hF => zf165_ok hK h0 hF) hF (fun v5 s6 hF => ?_)
      refine Ev_p 1 (c' := (121, [some (.ref a0), some (.int x1), none, some (.int x3), some (.int x4)], [.int 34, .int v5])) rfl ?_
      refine Ez_if (M := zM170) (b := ¬ v5 = 34) rfl rfl hF (fun _ hF => ?_) (fun _ hF => ?_)
      · refine Ev_p 2 (c' := (136, [some (.ref a0), some (.int x1), none, some (.int x3), some (.int x4)], [.int x3, .ref a0])) rfl ?_
        refine Ez_cv (M := zM170) (As := [.ref a0, .int x3]) (st' := []) (am_site_v (y := 167) (k := 2) (ci := 11) rfl rfl (zrcv rfl h0 rfl)) (Nat.le_of_ble_eq_true rfl) (Nat.le_of_ble_eq_true rfl) rfl rfl (fun _ hF => zf167_ok hK h0 hF) hF (fun s8 hF => ?_)
        refine Ev_p 0 (c' := (139, [some (.ref a0), some (.int x1), none, some (.int x3), some (.int x4)], [])) rfl ?_
        refine Ev_w (L' := [some (.ref a0), none, none, none, some (.int x4)]) (zle_c (zle_n (zle_c (zle_n (zle_c zle_0))))) ?_
        exact zf170_139_ok hK h0 hF
      · refine Ev_p 4 (c' := (128, [some (.ref a0), some (.int x1), none, some (.int x3), some (.int x4)], [.int (x3 + 1), .ref a0])) rfl ?_
        refine Ez_pf (M := zM170) (ci := 11) (f := 16) rfl rfl h0 rfl hF (fun s9 hF => ?_)
        refine Ev_p 1 (c' := (139, [some (.ref a0), some (.int x1), none, some (.int x3), some (.int x4)], [])) rfl ?_
        refine Ev_w (L' := [some (.ref a0), none, none, none, some (.int x4)]) (zle_c (zle_n (zle_c (zle_n (zle_c zle_0))))) ?_
        exact zf170_139_ok hK h0 hF
    · refine Ev_p 2 (c' := (95, [some (.ref a0), some (.int x1), none, some (.int (x3 + 1)), some (.int x4)], [])) rfl ?_
      exact ih hF
noncomputable def zf170 (a0 : Nat) (x1 : Int32) (x2 : Int32) (s : zS) : Option (Int32 × zS) :=
  zgf s a0 16 fun v1 =>
  zbi (zf165 a0 x1 (v1 + 1) s) fun v2 s3 =>
  zbi (zf169 v2 s3) fun v4 s5 =>
  if v4 = 0 then
    zf170_36 a0 v1 v2 s5
  else
    if ¬ ((x2 >>> ((v2 - 97) &&& 31)) &&& 1) = 1 then
      zbi (zf165 a0 x1 (v1 + 2) s5) fun v6 s7 =>
      if v6 = 61 then
        zbi (zf165 a0 x1 (v1 + 3) s7) fun v8 s9 =>
        if v8 = 34 then
          zf170_95 a0 zfz x1 (v1 + 4) v2 s9
        else
          zbv (zf167 a0 (v1 + 3) s9) fun s11 =>
          zf170_139 a0 v2 s11
      else
        zbv (zf167 a0 (v1 + 2) s7) fun s13 =>
        zf170_139 a0 v2 s13
    else
      zf170_36 a0 v1 v2 s5
theorem zf170_ok {K : cx_K} (hK : Kok K) {lg : Nat → Int64} {v : Int32} {s' : zS} {a0 : Nat} (h0 : zsh a0 = 11) {x1 : Int32} {x2 : Int32} {s : zS} (hF : zf170 a0 x1 x2 s = some (v, s')) : Ct K 170 [.ref a0, .int x1, .int x2] (zmk lg s) (.inl (some (.int v))) (zmk lg s') 0 := by
  unfold zf170 at hF
  refine Ct_of hK nd_ok170 (mL := 5) (rt := some .int) rfl rfl (Nat.le_of_ble_eq_true rfl) zlen_le ?_
  refine Ev_p 1 (c' := (1, [some (.ref a0), some (.int x1), some (.int x2), none, none], [.ref a0])) rfl ?_
  refine Ez_gf (M := zM170) (ci := 11) (f := 16) rfl rfl h0 rfl hF (fun v1 hF => ?_)
  refine Ev_p 6 (c' := (10, [some (.ref a0), some (.int x1), some (.int x2), some (.int v1), none], [.int (v1 + 1), .int x1, .ref a0])) rfl ?_
  refine Ez_ci (M := zM170) (As := [.ref a0, .int x1, .int (v1 + 1)]) (st' := []) (am_site_v (y := 165) (k := 3) (ci := 11) rfl rfl (zrcv rfl h0 rfl)) (Nat.le_of_ble_eq_true rfl) (Nat.le_of_ble_eq_true rfl) rfl rfl (fun _ _ hF => zf165_ok hK h0 hF) hF (fun v2 s3 hF => ?_)
  refine Ev_p 2 (c' := (17, [some (.ref a0), some (.int x1), some (.int x2), some (.int v1), some (.int v2)], [.int v2])) rfl ?_
  refine Ez_ci (M := zM170) (As := [.int v2]) (st' := []) (zsite_0 (y := 169) (k := 1) (ci := 11) rfl rfl) (Nat.le_of_ble_eq_true rfl) (Nat.le_of_ble_eq_true rfl) rfl rfl (fun _ _ hF => zf169_ok hK  hF) hF (fun v4 s5 hF => ?_)
  refine Ev_p 0 (c' := (20, [some (.ref a0), some (.int x1), some (.int x2), some (.int v1), some (.int v2)], [.int v4])) rfl ?_
  refine Ez_if (M := zM170) (b := v4 = 0) rfl rfl hF (fun _ hF => ?_) (fun _ hF => ?_)
  · refine Ev_p 0 (c' := (36, [some (.ref a0), some (.int x1), some (.int x2), some (.int v1), some (.int v2)], [])) rfl ?_
    refine Ev_w (L' := [some (.ref a0), none, none, some (.int v1), some (.int v2)]) (zle_c (zle_n (zle_n (zle_c (zle_c zle_0))))) ?_
    exact zf170_36_ok hK h0 hF
  · refine Ev_p 8 (c' := (33, [some (.ref a0), some (.int x1), some (.int x2), some (.int v1), some (.int v2)], [.int 1, .int ((x2 >>> ((v2 - 97) &&& 31)) &&& 1)])) rfl ?_
    refine Ez_if (M := zM170) (b := ¬ ((x2 >>> ((v2 - 97) &&& 31)) &&& 1) = 1) rfl rfl hF (fun _ hF => ?_) (fun _ hF => ?_)
    · refine Ev_p 5 (c' := (51, [some (.ref a0), some (.int x1), some (.int x2), some (.int v1), some (.int v2)], [.int (v1 + 2), .int x1, .ref a0])) rfl ?_
      refine Ez_ci (M := zM170) (As := [.ref a0, .int x1, .int (v1 + 2)]) (st' := []) (am_site_v (y := 165) (k := 3) (ci := 11) rfl rfl (zrcv rfl h0 rfl)) (Nat.le_of_ble_eq_true rfl) (Nat.le_of_ble_eq_true rfl) rfl rfl (fun _ _ hF => zf165_ok hK h0 hF) hF (fun v6 s7 hF => ?_)
      refine Ev_p 1 (c' := (56, [some (.ref a0), some (.int x1), some (.int x2), some (.int v1), some (.int v2)], [.int 61, .int v6])) rfl ?_
      refine Ez_if (M := zM170) (b := v6 = 61) rfl rfl hF (fun _ hF => ?_) (fun _ hF => ?_)
      · refine Ev_p 5 (c' := (74, [some (.ref a0), some (.int x1), some (.int x2), some (.int v1), some (.int v2)], [.int (v1 + 3), .int x1, .ref a0])) rfl ?_
        refine Ez_ci (M := zM170) (As := [.ref a0, .int x1, .int (v1 + 3)]) (st' := []) (am_site_v (y := 165) (k := 3) (ci := 11) rfl rfl (zrcv rfl h0 rfl)) (Nat.le_of_ble_eq_true rfl) (Nat.le_of_ble_eq_true rfl) rfl rfl (fun _ _ hF => zf165_ok hK h0 hF) hF (fun v8 s9 hF => ?_)
        refine Ev_p 1 (c' := (79, [some (.ref a0), some (.int x1), some (.int x2), some (.int v1), some (.int v2)], [.int 34, .int v8])) rfl ?_
        refine Ez_if (M := zM170) (b := v8 = 34) rfl rfl hF (fun _ hF => ?_) (fun _ hF => ?_)
        · refine Ev_p 1 (c' := (95, [some (.ref a0), some (.int x1), some (.int x2), some (.int (v1 + 4)), some (.int v2)], [])) rfl ?_
          refine Ev_w (L' := [some (.ref a0), some (.int x1), none, some (.int (v1 + 4)), some (.int v2)]) (zle_c (zle_c (zle_n (zle_c (zle_c zle_0))))) ?_
          exact zf170_95_ok hK h0 hF
        · refine Ev_p 4 (c' := (86, [some (.ref a0), some (.int x1), some (.int x2), some (.int v1), some (.int v2)], [.int (v1 + 3), .ref a0])) rfl ?_
          refine Ez_cv (M := zM170) (As := [.ref a0, .int (v1 + 3)]) (st' := []) (am_site_v (y := 167) (k := 2) (ci := 11) rfl rfl (zrcv rfl h0 rfl)) (Nat.le_of_ble_eq_true rfl) (Nat.le_of_ble_eq_true rfl) rfl rfl (fun _ hF => zf167_ok hK h0 hF) hF (fun s11 hF => ?_)
          refine Ev_p 1 (c' := (139, [some (.ref a0), some (.int x1), some (.int x2), some (.int v1), some (.int v2)], [])) rfl ?_
          refine Ev_w (L' := [some (.ref a0), none, none, none, some (.int v2)]) (zle_c (zle_n (zle_n (zle_n (zle_c zle_0))))) ?_
          exact zf170_139_ok hK h0 hF
      · refine Ev_p 4 (c' := (63, [some (.ref a0), some (.int x1), some (.int x2), some (.int v1), some (.int v2)], [.int (v1 + 2), .ref a0])) rfl ?_
        refine Ez_cv (M := zM170) (As := [.ref a0, .int (v1 + 2)]) (st' := []) (am_site_v (y := 167) (k := 2) (ci := 11) rfl rfl (zrcv rfl h0 rfl)) (Nat.le_of_ble_eq_true rfl) (Nat.le_of_ble_eq_true rfl) rfl rfl (fun _ hF => zf167_ok hK h0 hF) hF (fun s13 hF => ?_)
        refine Ev_p 1 (c' := (139, [some (.ref a0), some (.int x1), some (.int x2), some (.int v1), some (.int v2)], [])) rfl ?_
        refine Ev_w (L' := [some (.ref a0), none, none, none, some (.int v2)]) (zle_c (zle_n (zle_n (zle_n (zle_c zle_0))))) ?_
        exact zf170_139_ok hK h0 hF
    · refine Ev_p 0 (c' := (36, [some (.ref a0), some (.int x1), some (.int x2), some (.int v1), some (.int v2)], [])) rfl ?_
      refine Ev_w (L' := [some (.ref a0), none, none, some (.int v1), some (.int v2)]) (zle_c (zle_n (zle_n (zle_c (zle_c zle_0))))) ?_
      exact zf170_36_ok hK h0 hF
-- PaperParcelsModel.passBeginning(I)V
abbrev zM168 : ev_M := (am_in nd_i168, am_fl nd_f11, am_ct nd_k11, am_sl nd_ml nd_s168, fun _ => none, none)
noncomputable def zf168_25 (a0 : Nat)  (x2 : Int32) (s : zS) : Option (zS) :=
  zbv (zf167 a0 x2 s) fun s2 =>
  some s2
theorem zf168_25_ok {K : cx_K} (hK : Kok K) {lg : Nat → Int64} {s' : zS} {a0 : Nat} (h0 : zsh a0 = 11)   {x2 : Int32}  {s : zS} (hF : zf168_25 a0 x2 s = some s') : Ev K zM168 (25, [some (.ref a0), none, some (.int x2), none, none], [], zmk lg s) 0 (.inl none) (zmk lg s') 0 := by
  unfold zf168_25 at hF
  refine Ev_p 2 (c' := (27, [some (.ref a0), none, some (.int x2), none, none], [.int x2, .ref a0])) rfl ?_
  refine Ez_cv (M := zM168) (As := [.ref a0, .int x2]) (st' := []) (am_site_v (y := 167) (k := 2) (ci := 11) rfl rfl (zrcv rfl h0 rfl)) (Nat.le_of_ble_eq_true rfl) (Nat.le_of_ble_eq_true rfl) rfl rfl (fun _ hF => zf167_ok hK h0 hF) hF (fun s2 hF => ?_)
  refine Ev_p 0 (c' := (30, [some (.ref a0), none, some (.int x2), none, none], [])) rfl ?_
  exact Ez_rv (M := zM168) rfl rfl hF
noncomputable def zf168_254 (a0 : Nat)  (x1 : Int32) (x4 : Int32) (t0 : Int32) (t1 : Int32) (s : zS) : Option (zS) :=
  zas s (zrf a0 12) t1 t0 fun s1 =>
  zal s1 (zrf a0 9) x1 fun v2 =>
  zas s1 (zrf a0 9) x1 (v2 + 1) fun s3 =>
  zgf s3 a0 18 fun v4 =>
  if ¬ v4 = 0 then
    some s3
  else
    zgf s3 a0 15 fun v5 =>
    zas s3 (zrf a0 14) v5 x4 fun s6 =>
    zgf s6 a0 15 fun v7 =>
    zpf s6 a0 15 (v7 + 1) fun s8 =>
    some s8
theorem zf168_254_ok {K : cx_K} (hK : Kok K) {lg : Nat → Int64} {s' : zS} {a0 : Nat} (h0 : zsh a0 = 11)   {x1 : Int32} {x4 : Int32} {t0 : Int32} {t1 : Int32}  {s : zS} (hF : zf168_254 a0 x1 x4 t0 t1 s = some s') : Ev K zM168 (254, [some (.ref a0), some (.int x1), none, none, some (.int x4)], [.int t0, .int t1, .ref (zrf a0 12)], zmk lg s) 0 (.inl none) (zmk lg s') 0 := by
  unfold zf168_254 at hF
  refine Ev_p 0 (c' := (254, [some (.ref a0), some (.int x1), none, none, some (.int x4)], [.int t0, .int t1, .ref (zrf a0 12)])) rfl ?_
  refine Ez_as (M := zM168) rfl (zty (ci := 11) (f := 12) (t := 100) h0 rfl) hF (fun s1 hF => ?_)
  refine Ev_p 1 (c' := (256, [some (.ref a0), some (.int x1), none, none, some (.int x4)], [.ref a0])) rfl ?_
  refine Ez_gr (M := zM168) (ci := 11) (f := 9) (t := 100) rfl rfl h0 rfl ?_
  refine Ev_p 2 (c' := (261, [some (.ref a0), some (.int x1), none, none, some (.int x4)], [.int x1, .ref (zrf a0 9), .int x1, .ref (zrf a0 9)])) rfl ?_
  refine Ez_al (M := zM168) rfl (zty (ci := 11) (f := 9) (t := 100) h0 rfl) hF (fun v2 hF => ?_)
  refine Ev_p 2 (c' := (264, [some (.ref a0), some (.int x1), none, none, some (.int x4)], [.int (v2 + 1), .int x1, .ref (zrf a0 9)])) rfl ?_
  refine Ez_as (M := zM168) rfl (zty (ci := 11) (f := 9) (t := 100) h0 rfl) hF (fun s3 hF => ?_)
  refine Ev_p 1 (c' := (266, [some (.ref a0), some (.int x1), none, none, some (.int x4)], [.ref a0])) rfl ?_
  refine Ez_gf (M := zM168) (ci := 11) (f := 18) rfl rfl h0 rfl hF (fun v4 hF => ?_)
  refine Ev_p 0 (c' := (269, [some (.ref a0), some (.int x1), none, none, some (.int x4)], [.int v4])) rfl ?_
  refine Ez_if (M := zM168) (b := ¬ v4 = 0) rfl rfl hF (fun _ hF => ?_) (fun _ hF => ?_)
  · refine Ev_p 0 (c' := (293, [some (.ref a0), some (.int x1), none, none, some (.int x4)], [])) rfl ?_
    exact Ez_rv (M := zM168) rfl rfl hF
  · refine Ev_p 1 (c' := (273, [some (.ref a0), some (.int x1), none, none, some (.int x4)], [.ref a0])) rfl ?_
    refine Ez_gr (M := zM168) (ci := 11) (f := 14) (t := 100) rfl rfl h0 rfl ?_
    refine Ev_p 1 (c' := (277, [some (.ref a0), some (.int x1), none, none, some (.int x4)], [.ref a0, .ref (zrf a0 14)])) rfl ?_
    refine Ez_gf (M := zM168) (ci := 11) (f := 15) rfl rfl h0 rfl hF (fun v5 hF => ?_)
    refine Ev_p 1 (c' := (282, [some (.ref a0), some (.int x1), none, none, some (.int x4)], [.int x4, .int v5, .ref (zrf a0 14)])) rfl ?_
    refine Ez_as (M := zM168) rfl (zty (ci := 11) (f := 14) (t := 100) h0 rfl) hF (fun s6 hF => ?_)
    refine Ev_p 2 (c' := (285, [some (.ref a0), some (.int x1), none, none, some (.int x4)], [.ref a0, .ref a0])) rfl ?_
    refine Ez_gf (M := zM168) (ci := 11) (f := 15) rfl rfl h0 rfl hF (fun v7 hF => ?_)
    refine Ev_p 2 (c' := (290, [some (.ref a0), some (.int x1), none, none, some (.int x4)], [.int (v7 + 1), .ref a0])) rfl ?_
    refine Ez_pf (M := zM168) (ci := 11) (f := 15) rfl rfl h0 rfl hF (fun s8 hF => ?_)
    refine Ev_p 0 (c' := (293, [some (.ref a0), some (.int x1), none, none, some (.int x4)], [])) rfl ?_
    exact Ez_rv (M := zM168) rfl rfl hF
noncomputable def zf168_143 (a0 : Nat)  (x1 : Int32) (x2 : Int32) (t0 : Int32) (t1 : Int32) (s : zS) : Option (zS) :=
  zpf s a0 16 (t1 + t0) fun s1 =>
  zgf s1 a0 16 fun v2 =>
  zbi (zf165 a0 x1 v2 s1) fun v3 s4 =>
  if v3 = 62 then
    zgf s4 a0 16 fun v5 =>
    zpf s4 a0 16 (v5 + 1) fun s6 =>
    zal s6 (zrf a0 9) x1 fun v7 =>
    zbi (zf165 a0 x1 (x2 + 1) s6) fun v8 s9 =>
    zas s9 (zrf a0 10) ((30 * x1) + v7) v8 fun s10 =>
    zas s10 (zrf a0 11) ((30 * x1) + v7) x2 fun s11 =>
    zgf s11 a0 15 fun v12 =>
    if ¬ v12 = 0 then
      zgf s11 a0 15 fun v13 =>
      zal s11 (zrf a0 14) (v13 - 1) fun v14 =>
      zf168_254 a0 x1 v7 v14 ((30 * x1) + v7) s11
    else
      zf168_254 a0 x1 v7 (-1) ((30 * x1) + v7) s11
  else
    zgf s4 a0 16 fun v15 =>
    zbv (zf167 a0 v15 s4) fun s17 =>
    some s17
theorem zf168_143_ok {K : cx_K} (hK : Kok K) {lg : Nat → Int64} {s' : zS} {a0 : Nat} (h0 : zsh a0 = 11)   {x1 : Int32} {x2 : Int32} {t0 : Int32} {t1 : Int32}  {s : zS} (hF : zf168_143 a0 x1 x2 t0 t1 s = some s') : Ev K zM168 (143, [some (.ref a0), some (.int x1), some (.int x2), none, none], [.int t0, .int t1, .ref a0], zmk lg s) 0 (.inl none) (zmk lg s') 0 := by
  unfold zf168_143 at hF
  refine Ev_p 1 (c' := (144, [some (.ref a0), some (.int x1), some (.int x2), none, none], [.int (t1 + t0), .ref a0])) rfl ?_
  refine Ez_pf (M := zM168) (ci := 11) (f := 16) rfl rfl h0 rfl hF (fun s1 hF => ?_)
  refine Ev_p 3 (c' := (150, [some (.ref a0), some (.int x1), some (.int x2), none, none], [.ref a0, .int x1, .ref a0])) rfl ?_
  refine Ez_gf (M := zM168) (ci := 11) (f := 16) rfl rfl h0 rfl hF (fun v2 hF => ?_)
  refine Ev_p 0 (c' := (153, [some (.ref a0), some (.int x1), some (.int x2), none, none], [.int v2, .int x1, .ref a0])) rfl ?_
  refine Ez_ci (M := zM168) (As := [.ref a0, .int x1, .int v2]) (st' := []) (am_site_v (y := 165) (k := 3) (ci := 11) rfl rfl (zrcv rfl h0 rfl)) (Nat.le_of_ble_eq_true rfl) (Nat.le_of_ble_eq_true rfl) rfl rfl (fun _ _ hF => zf165_ok hK h0 hF) hF (fun v3 s4 hF => ?_)
  refine Ev_p 1 (c' := (158, [some (.ref a0), some (.int x1), some (.int x2), none, none], [.int 62, .int v3])) rfl ?_
  refine Ez_if (M := zM168) (b := v3 = 62) rfl rfl hF (fun _ hF => ?_) (fun _ hF => ?_)
  · refine Ev_p 2 (c' := (172, [some (.ref a0), some (.int x1), some (.int x2), none, none], [.ref a0, .ref a0])) rfl ?_
    refine Ez_gf (M := zM168) (ci := 11) (f := 16) rfl rfl h0 rfl hF (fun v5 hF => ?_)
    refine Ev_p 2 (c' := (177, [some (.ref a0), some (.int x1), some (.int x2), none, none], [.int (v5 + 1), .ref a0])) rfl ?_
    refine Ez_pf (M := zM168) (ci := 11) (f := 16) rfl rfl h0 rfl hF (fun s6 hF => ?_)
    refine Ev_p 1 (c' := (181, [some (.ref a0), some (.int x1), some (.int x2), none, none], [.ref a0])) rfl ?_
    refine Ez_gr (M := zM168) (ci := 11) (f := 9) (t := 100) rfl rfl h0 rfl ?_
    refine Ev_p 1 (c' := (185, [some (.ref a0), some (.int x1), some (.int x2), none, none], [.int x1, .ref (zrf a0 9)])) rfl ?_
    refine Ez_al (M := zM168) rfl (zty (ci := 11) (f := 9) (t := 100) h0 rfl) hF (fun v7 hF => ?_)
    refine Ev_p 2 (c' := (189, [some (.ref a0), some (.int x1), some (.int x2), none, some (.int v7)], [.ref a0])) rfl ?_
    refine Ez_gr (M := zM168) (ci := 11) (f := 10) (t := 100) rfl rfl h0 rfl ?_
    refine Ev_p 10 (c' := (204, [some (.ref a0), some (.int x1), some (.int x2), none, some (.int v7)], [.int (x2 + 1), .int x1, .ref a0, .int ((30 * x1) + v7), .ref (zrf a0 10)])) rfl ?_
    refine Ez_ci (M := zM168) (As := [.ref a0, .int x1, .int (x2 + 1)]) (st' := [.int ((30 * x1) + v7), .ref (zrf a0 10)]) (am_site_v (y := 165) (k := 3) (ci := 11) rfl rfl (zrcv rfl h0 rfl)) (Nat.le_of_ble_eq_true rfl) (Nat.le_of_ble_eq_true rfl) rfl rfl (fun _ _ hF => zf165_ok hK h0 hF) hF (fun v8 s9 hF => ?_)
    refine Ev_p 0 (c' := (207, [some (.ref a0), some (.int x1), some (.int x2), none, some (.int v7)], [.int v8, .int ((30 * x1) + v7), .ref (zrf a0 10)])) rfl ?_
    refine Ez_as (M := zM168) rfl (zty (ci := 11) (f := 10) (t := 100) h0 rfl) hF (fun s10 hF => ?_)
    refine Ev_p 1 (c' := (209, [some (.ref a0), some (.int x1), some (.int x2), none, some (.int v7)], [.ref a0])) rfl ?_
    refine Ez_gr (M := zM168) (ci := 11) (f := 11) (t := 100) rfl rfl h0 rfl ?_
    refine Ev_p 6 (c' := (220, [some (.ref a0), some (.int x1), some (.int x2), none, some (.int v7)], [.int x2, .int ((30 * x1) + v7), .ref (zrf a0 11)])) rfl ?_
    refine Ez_as (M := zM168) rfl (zty (ci := 11) (f := 11) (t := 100) h0 rfl) hF (fun s11 hF => ?_)
    refine Ev_p 1 (c' := (222, [some (.ref a0), some (.int x1), some (.int x2), none, some (.int v7)], [.ref a0])) rfl ?_
    refine Ez_gr (M := zM168) (ci := 11) (f := 12) (t := 100) rfl rfl h0 rfl ?_
    refine Ev_p 6 (c' := (233, [some (.ref a0), some (.int x1), some (.int x2), none, some (.int v7)], [.ref a0, .int ((30 * x1) + v7), .ref (zrf a0 12)])) rfl ?_
    refine Ez_gf (M := zM168) (ci := 11) (f := 15) rfl rfl h0 rfl hF (fun v12 hF => ?_)
    refine Ev_p 0 (c' := (236, [some (.ref a0), some (.int x1), some (.int x2), none, some (.int v7)], [.int v12, .int ((30 * x1) + v7), .ref (zrf a0 12)])) rfl ?_
    refine Ez_if (M := zM168) (b := ¬ v12 = 0) rfl rfl hF (fun _ hF => ?_) (fun _ hF => ?_)
    · refine Ev_p 1 (c' := (244, [some (.ref a0), some (.int x1), some (.int x2), none, some (.int v7)], [.ref a0, .int ((30 * x1) + v7), .ref (zrf a0 12)])) rfl ?_
      refine Ez_gr (M := zM168) (ci := 11) (f := 14) (t := 100) rfl rfl h0 rfl ?_
      refine Ev_p 1 (c' := (248, [some (.ref a0), some (.int x1), some (.int x2), none, some (.int v7)], [.ref a0, .ref (zrf a0 14), .int ((30 * x1) + v7), .ref (zrf a0 12)])) rfl ?_
      refine Ez_gf (M := zM168) (ci := 11) (f := 15) rfl rfl h0 rfl hF (fun v13 hF => ?_)
      refine Ev_p 2 (c' := (253, [some (.ref a0), some (.int x1), some (.int x2), none, some (.int v7)], [.int (v13 - 1), .ref (zrf a0 14), .int ((30 * x1) + v7), .ref (zrf a0 12)])) rfl ?_
      refine Ez_al (M := zM168) rfl (zty (ci := 11) (f := 14) (t := 100) h0 rfl) hF (fun v14 hF => ?_)
      refine Ev_p 0 (c' := (254, [some (.ref a0), some (.int x1), some (.int x2), none, some (.int v7)], [.int v14, .int ((30 * x1) + v7), .ref (zrf a0 12)])) rfl ?_
      refine Ev_w (L' := [some (.ref a0), some (.int x1), none, none, some (.int v7)]) (zle_c (zle_c (zle_n (zle_c (zle_c zle_0))))) ?_
      exact zf168_254_ok hK h0 hF
    · refine Ev_p 2 (c' := (254, [some (.ref a0), some (.int x1), some (.int x2), none, some (.int v7)], [.int (-1), .int ((30 * x1) + v7), .ref (zrf a0 12)])) rfl ?_
      refine Ev_w (L' := [some (.ref a0), some (.int x1), none, none, some (.int v7)]) (zle_c (zle_c (zle_n (zle_c (zle_c zle_0))))) ?_
      exact zf168_254_ok hK h0 hF
  · refine Ev_p 2 (c' := (163, [some (.ref a0), some (.int x1), some (.int x2), none, none], [.ref a0, .ref a0])) rfl ?_
    refine Ez_gf (M := zM168) (ci := 11) (f := 16) rfl rfl h0 rfl hF (fun v15 hF => ?_)
    refine Ev_p 0 (c' := (166, [some (.ref a0), some (.int x1), some (.int x2), none, none], [.int v15, .ref a0])) rfl ?_
    refine Ez_cv (M := zM168) (As := [.ref a0, .int v15]) (st' := []) (am_site_v (y := 167) (k := 2) (ci := 11) rfl rfl (zrcv rfl h0 rfl)) (Nat.le_of_ble_eq_true rfl) (Nat.le_of_ble_eq_true rfl) rfl rfl (fun _ hF => zf167_ok hK h0 hF) hF (fun s17 hF => ?_)
    refine Ev_p 0 (c' := (169, [some (.ref a0), some (.int x1), some (.int x2), none, none], [])) rfl ?_
    exact Ez_rv (M := zM168) rfl rfl hF
noncomputable def zf168_123 (a0 : Nat)  (x1 : Int32) (x2 : Int32) (t0 : Int32) (s : zS) : Option (zS) :=
  zpb s a0 18 t0 fun s1 =>
  zgf s1 a0 16 fun v2 =>
  zgf s1 a0 18 fun v3 =>
  if v3 = 0 then
    zf168_143 a0 x1 x2 0 v2 s1
  else
    zf168_143 a0 x1 x2 1 v2 s1
theorem zf168_123_ok {K : cx_K} (hK : Kok K) {lg : Nat → Int64} {s' : zS} {a0 : Nat} (h0 : zsh a0 = 11)   {x1 : Int32} {x2 : Int32} {t0 : Int32}  {s : zS} (hF : zf168_123 a0 x1 x2 t0 s = some s') : Ev K zM168 (123, [some (.ref a0), some (.int x1), some (.int x2), none, none], [.int t0, .ref a0], zmk lg s) 0 (.inl none) (zmk lg s') 0 := by
  unfold zf168_123 at hF
  refine Ev_p 0 (c' := (123, [some (.ref a0), some (.int x1), some (.int x2), none, none], [.int t0, .ref a0])) rfl ?_
  refine Ez_pb (M := zM168) (ci := 11) (f := 18) rfl rfl h0 rfl hF (fun s1 hF => ?_)
  refine Ev_p 2 (c' := (128, [some (.ref a0), some (.int x1), some (.int x2), none, none], [.ref a0, .ref a0])) rfl ?_
  refine Ez_gf (M := zM168) (ci := 11) (f := 16) rfl rfl h0 rfl hF (fun v2 hF => ?_)
  refine Ev_p 1 (c' := (132, [some (.ref a0), some (.int x1), some (.int x2), none, none], [.ref a0, .int v2, .ref a0])) rfl ?_
  refine Ez_gf (M := zM168) (ci := 11) (f := 18) rfl rfl h0 rfl hF (fun v3 hF => ?_)
  refine Ev_p 0 (c' := (135, [some (.ref a0), some (.int x1), some (.int x2), none, none], [.int v3, .int v2, .ref a0])) rfl ?_
  refine Ez_if (M := zM168) (b := v3 = 0) rfl rfl hF (fun _ hF => ?_) (fun _ hF => ?_)
  · refine Ev_p 1 (c' := (143, [some (.ref a0), some (.int x1), some (.int x2), none, none], [.int 0, .int v2, .ref a0])) rfl ?_
    exact zf168_143_ok hK h0 hF
  · refine Ev_p 2 (c' := (143, [some (.ref a0), some (.int x1), some (.int x2), none, none], [.int 1, .int v2, .ref a0])) rfl ?_
    exact zf168_143_ok hK h0 hF
noncomputable def zf168_95 (a0 : Nat)  (x1 : Int32) (x2 : Int32) (s : zS) : Option (zS) :=
  zgf s a0 17 fun v1 =>
  if ¬ v1 = 0 then
    zgf s a0 16 fun v2 =>
    zbi (zf165 a0 x1 v2 s) fun v3 s4 =>
    if ¬ v3 = 47 then
      zf168_123 a0 x1 x2 0 s4
    else
      zf168_123 a0 x1 x2 1 s4
  else
    some s
theorem zf168_95_ok {K : cx_K} (hK : Kok K) {lg : Nat → Int64} {s' : zS} {a0 : Nat} (h0 : zsh a0 = 11)   {x1 : Int32} {x2 : Int32}  {s : zS} (hF : zf168_95 a0 x1 x2 s = some s') : Ev K zM168 (95, [some (.ref a0), some (.int x1), some (.int x2), none, none], [], zmk lg s) 0 (.inl none) (zmk lg s') 0 := by
  unfold zf168_95 at hF
  refine Ev_p 1 (c' := (96, [some (.ref a0), some (.int x1), some (.int x2), none, none], [.ref a0])) rfl ?_
  refine Ez_gf (M := zM168) (ci := 11) (f := 17) rfl rfl h0 rfl hF (fun v1 hF => ?_)
  refine Ev_p 0 (c' := (99, [some (.ref a0), some (.int x1), some (.int x2), none, none], [.int v1])) rfl ?_
  refine Ez_if (M := zM168) (b := ¬ v1 = 0) rfl rfl hF (fun _ hF => ?_) (fun _ hF => ?_)
  · refine Ev_p 4 (c' := (107, [some (.ref a0), some (.int x1), some (.int x2), none, none], [.ref a0, .int x1, .ref a0, .ref a0])) rfl ?_
    refine Ez_gf (M := zM168) (ci := 11) (f := 16) rfl rfl h0 rfl hF (fun v2 hF => ?_)
    refine Ev_p 0 (c' := (110, [some (.ref a0), some (.int x1), some (.int x2), none, none], [.int v2, .int x1, .ref a0, .ref a0])) rfl ?_
    refine Ez_ci (M := zM168) (As := [.ref a0, .int x1, .int v2]) (st' := [.ref a0]) (am_site_v (y := 165) (k := 3) (ci := 11) rfl rfl (zrcv rfl h0 rfl)) (Nat.le_of_ble_eq_true rfl) (Nat.le_of_ble_eq_true rfl) rfl rfl (fun _ _ hF => zf165_ok hK h0 hF) hF (fun v3 s4 hF => ?_)
    refine Ev_p 1 (c' := (115, [some (.ref a0), some (.int x1), some (.int x2), none, none], [.int 47, .int v3, .ref a0])) rfl ?_
    refine Ez_if (M := zM168) (b := ¬ v3 = 47) rfl rfl hF (fun _ hF => ?_) (fun _ hF => ?_)
    · refine Ev_p 1 (c' := (123, [some (.ref a0), some (.int x1), some (.int x2), none, none], [.int 0, .ref a0])) rfl ?_
      exact zf168_123_ok hK h0 hF
    · refine Ev_p 2 (c' := (123, [some (.ref a0), some (.int x1), some (.int x2), none, none], [.int 1, .ref a0])) rfl ?_
      exact zf168_123_ok hK h0 hF
  · refine Ev_p 0 (c' := (102, [some (.ref a0), some (.int x1), some (.int x2), none, none], [])) rfl ?_
    exact Ez_rv (M := zM168) rfl rfl hF
noncomputable def zf168_62 (a0 : Nat)  : Nat → Int32 → Int32 → Int32 → zS → Option (zS)
  | 0, _, _, _, _ => none
  | n + 1, x1, x2, x3, s =>
    zgf s a0 17 fun v1 =>
    if v1 = 0 then
      zf168_95 a0 x1 x2 s
    else
      zgf s a0 16 fun v2 =>
      zbi (zf165 a0 x1 v2 s) fun v3 s4 =>
      if ¬ v3 = 32 then
        zf168_95 a0 x1 x2 s4
      else
        zbi (zf170 a0 x1 x3 s4) fun v5 s6 =>
        zf168_62 a0 n x1 x2 (x3 ||| v5) s6
theorem zf168_62_ok {K : cx_K} (hK : Kok K) {lg : Nat → Int64} {s' : zS} {a0 : Nat} (h0 : zsh a0 = 11)   {n : Nat} : ∀ {x1 : Int32} {x2 : Int32} {x3 : Int32} {s : zS}, zf168_62 a0 n x1 x2 x3 s = some s' → Ev K zM168 (62, [some (.ref a0), some (.int x1), some (.int x2), some (.int x3), none], [], zmk lg s) 0 (.inl none) (zmk lg s') 0 := by
  induction n with
  | zero => intro x1 x2 x3 s hF; rw [zf168_62] at hF; cases hF
  | succ n ih =>
    intro x1 x2 x3 s hF
    rw [zf168_62] at hF
    refine Ev_p 1 (c' := (63, [some (.ref a0), some (.int x1), some (.int x2), some (.int x3), none], [.ref a0])) rfl ?_
    refine Ez_gf (M := zM168) (ci := 11) (f := 17) rfl rfl h0 rfl hF (fun v1 hF => ?_)
    refine Ev_p 0 (c' := (66, [some (.ref a0), some (.int x1), some (.int x2), some (.int x3), none], [.int v1])) rfl ?_
    refine Ez_if (M := zM168) (b := v1 = 0) rfl rfl hF (fun _ hF => ?_) (fun _ hF => ?_)
    · refine Ev_p 0 (c' := (95, [some (.ref a0), some (.int x1), some (.int x2), some (.int x3), none], [])) rfl ?_
      refine Ev_w (L' := [some (.ref a0), some (.int x1), some (.int x2), none, none]) (zle_c (zle_c (zle_c (zle_n (zle_c zle_0))))) ?_
      exact zf168_95_ok hK h0 hF
    · refine Ev_p 3 (c' := (72, [some (.ref a0), some (.int x1), some (.int x2), some (.int x3), none], [.ref a0, .int x1, .ref a0])) rfl ?_
      refine Ez_gf (M := zM168) (ci := 11) (f := 16) rfl rfl h0 rfl hF (fun v2 hF => ?_)
      refine Ev_p 0 (c' := (75, [some (.ref a0), some (.int x1), some (.int x2), some (.int x3), none], [.int v2, .int x1, .ref a0])) rfl ?_
      refine Ez_ci (M := zM168) (As := [.ref a0, .int x1, .int v2]) (st' := []) (am_site_v (y := 165) (k := 3) (ci := 11) rfl rfl (zrcv rfl h0 rfl)) (Nat.le_of_ble_eq_true rfl) (Nat.le_of_ble_eq_true rfl) rfl rfl (fun _ _ hF => zf165_ok hK h0 hF) hF (fun v3 s4 hF => ?_)
      refine Ev_p 1 (c' := (80, [some (.ref a0), some (.int x1), some (.int x2), some (.int x3), none], [.int 32, .int v3])) rfl ?_
      refine Ez_if (M := zM168) (b := ¬ v3 = 32) rfl rfl hF (fun _ hF => ?_) (fun _ hF => ?_)
      · refine Ev_p 0 (c' := (95, [some (.ref a0), some (.int x1), some (.int x2), some (.int x3), none], [])) rfl ?_
        refine Ev_w (L' := [some (.ref a0), some (.int x1), some (.int x2), none, none]) (zle_c (zle_c (zle_c (zle_n (zle_c zle_0))))) ?_
        exact zf168_95_ok hK h0 hF
      · refine Ev_p 4 (c' := (87, [some (.ref a0), some (.int x1), some (.int x2), some (.int x3), none], [.int x3, .int x1, .ref a0, .int x3])) rfl ?_
        refine Ez_ci (M := zM168) (As := [.ref a0, .int x1, .int x3]) (st' := [.int x3]) (am_site_v (y := 170) (k := 3) (ci := 11) rfl rfl (zrcv rfl h0 rfl)) (Nat.le_of_ble_eq_true rfl) (Nat.le_of_ble_eq_true rfl) rfl rfl (fun _ _ hF => zf170_ok hK h0 hF) hF (fun v5 s6 hF => ?_)
        refine Ev_p 3 (c' := (62, [some (.ref a0), some (.int x1), some (.int x2), some (.int (x3 ||| v5)), none], [])) rfl ?_
        exact ih hF
noncomputable def zf168 (a0 : Nat) (x1 : Int32) (s : zS) : Option (zS) :=
  zgf s a0 16 fun v1 =>
  zal s (zrf a0 9) x1 fun v2 =>
  if v2 = 30 then
    zf168_25 a0 v1 s
  else
    zgf s a0 15 fun v3 =>
    if ¬ v3 = 8 then
      zbi (zf165 a0 x1 (v1 + 1) s) fun v4 s5 =>
      zbi (zf169 v4 s5) fun v6 s7 =>
      if ¬ v6 = 0 then
        zpf s7 a0 16 (v1 + 2) fun s8 =>
        zf168_62 a0 zfz x1 v1 0 s8
      else
        zbv (zf167 a0 (v1 + 1) s7) fun s10 =>
        some s10
    else
      zf168_25 a0 v1 s
theorem zf168_ok {K : cx_K} (hK : Kok K) {lg : Nat → Int64} {s' : zS} {a0 : Nat} (h0 : zsh a0 = 11) {x1 : Int32} {s : zS} (hF : zf168 a0 x1 s = some s') : Ct K 168 [.ref a0, .int x1] (zmk lg s) (.inl none) (zmk lg s') 0 := by
  unfold zf168 at hF
  refine Ct_of hK nd_ok168 (mL := 5) (rt := none) rfl rfl (Nat.le_of_ble_eq_true rfl) zlen_le ?_
  refine Ev_p 1 (c' := (1, [some (.ref a0), some (.int x1), none, none, none], [.ref a0])) rfl ?_
  refine Ez_gf (M := zM168) (ci := 11) (f := 16) rfl rfl h0 rfl hF (fun v1 hF => ?_)
  refine Ev_p 2 (c' := (6, [some (.ref a0), some (.int x1), some (.int v1), none, none], [.ref a0])) rfl ?_
  refine Ez_gr (M := zM168) (ci := 11) (f := 9) (t := 100) rfl rfl h0 rfl ?_
  refine Ev_p 1 (c' := (10, [some (.ref a0), some (.int x1), some (.int v1), none, none], [.int x1, .ref (zrf a0 9)])) rfl ?_
  refine Ez_al (M := zM168) rfl (zty (ci := 11) (f := 9) (t := 100) h0 rfl) hF (fun v2 hF => ?_)
  refine Ev_p 1 (c' := (13, [some (.ref a0), some (.int x1), some (.int v1), none, none], [.int 30, .int v2])) rfl ?_
  refine Ez_if (M := zM168) (b := v2 = 30) rfl rfl hF (fun _ hF => ?_) (fun _ hF => ?_)
  · refine Ev_p 0 (c' := (25, [some (.ref a0), some (.int x1), some (.int v1), none, none], [])) rfl ?_
    refine Ev_w (L' := [some (.ref a0), none, some (.int v1), none, none]) (zle_c (zle_n (zle_c (zle_c (zle_c zle_0))))) ?_
    exact zf168_25_ok hK h0 hF
  · refine Ev_p 1 (c' := (17, [some (.ref a0), some (.int x1), some (.int v1), none, none], [.ref a0])) rfl ?_
    refine Ez_gf (M := zM168) (ci := 11) (f := 15) rfl rfl h0 rfl hF (fun v3 hF => ?_)
    refine Ev_p 1 (c' := (22, [some (.ref a0), some (.int x1), some (.int v1), none, none], [.int 8, .int v3])) rfl ?_
    refine Ez_if (M := zM168) (b := ¬ v3 = 8) rfl rfl hF (fun _ hF => ?_) (fun _ hF => ?_)
    · refine Ev_p 5 (c' := (36, [some (.ref a0), some (.int x1), some (.int v1), none, none], [.int (v1 + 1), .int x1, .ref a0])) rfl ?_
      refine Ez_ci (M := zM168) (As := [.ref a0, .int x1, .int (v1 + 1)]) (st' := []) (am_site_v (y := 165) (k := 3) (ci := 11) rfl rfl (zrcv rfl h0 rfl)) (Nat.le_of_ble_eq_true rfl) (Nat.le_of_ble_eq_true rfl) rfl rfl (fun _ _ hF => zf165_ok hK h0 hF) hF (fun v4 s5 hF => ?_)
      refine Ev_p 0 (c' := (39, [some (.ref a0), some (.int x1), some (.int v1), none, none], [.int v4])) rfl ?_
      refine Ez_ci (M := zM168) (As := [.int v4]) (st' := []) (zsite_0 (y := 169) (k := 1) (ci := 11) rfl rfl) (Nat.le_of_ble_eq_true rfl) (Nat.le_of_ble_eq_true rfl) rfl rfl (fun _ _ hF => zf169_ok hK  hF) hF (fun v6 s7 hF => ?_)
      refine Ev_p 0 (c' := (42, [some (.ref a0), some (.int x1), some (.int v1), none, none], [.int v6])) rfl ?_
      refine Ez_if (M := zM168) (b := ¬ v6 = 0) rfl rfl hF (fun _ hF => ?_) (fun _ hF => ?_)
      · refine Ev_p 4 (c' := (57, [some (.ref a0), some (.int x1), some (.int v1), none, none], [.int (v1 + 2), .ref a0])) rfl ?_
        refine Ez_pf (M := zM168) (ci := 11) (f := 16) rfl rfl h0 rfl hF (fun s8 hF => ?_)
        refine Ev_p 2 (c' := (62, [some (.ref a0), some (.int x1), some (.int v1), some (.int 0), none], [])) rfl ?_
        exact zf168_62_ok hK h0 hF
      · refine Ev_p 4 (c' := (49, [some (.ref a0), some (.int x1), some (.int v1), none, none], [.int (v1 + 1), .ref a0])) rfl ?_
        refine Ez_cv (M := zM168) (As := [.ref a0, .int (v1 + 1)]) (st' := []) (am_site_v (y := 167) (k := 2) (ci := 11) rfl rfl (zrcv rfl h0 rfl)) (Nat.le_of_ble_eq_true rfl) (Nat.le_of_ble_eq_true rfl) rfl rfl (fun _ hF => zf167_ok hK h0 hF) hF (fun s10 hF => ?_)
        refine Ev_p 0 (c' := (52, [some (.ref a0), some (.int x1), some (.int v1), none, none], [])) rfl ?_
        exact Ez_rv (M := zM168) rfl rfl hF
    · refine Ev_p 0 (c' := (25, [some (.ref a0), some (.int x1), some (.int v1), none, none], [])) rfl ?_
      refine Ev_w (L' := [some (.ref a0), none, some (.int v1), none, none]) (zle_c (zle_n (zle_c (zle_c (zle_c zle_0))))) ?_
      exact zf168_25_ok hK h0 hF

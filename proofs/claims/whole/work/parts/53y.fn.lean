/-! The methods as functions, and that the machine goes so (printed by wip/gen/fgen.py). -/
set_option maxRecDepth 100000
set_option linter.unusedVariables false
-- PaperParcelsModel.alike(III)I
abbrev zM238 : ev_M := (am_in nd_i238, am_fl nd_f11, am_ct nd_k11, am_sl nd_ml nd_s238, fun _ => none, some .int)
noncomputable def zf238_3 (a0 : Nat)  : Nat → Int32 → Int32 → Int32 → Int32 → zS → Option (Int32 × zS)
  | 0, _, _, _, _, _ => none
  | n + 1, x1, x2, x3, x4, s =>
    if 14 ≤ x4 then
      some (x4, s)
    else
      zal s (zrf a0 52) x1 fun v1 =>
      if v1 ≤ (x2 + x4) then
        some (x4, s)
      else
        zal s (zrf a0 51) (((2400 * x1) + x2) + x4) fun v2 =>
        zal s (zrf a0 51) ((((2400 * x1) + x2) + x4) - x3) fun v3 =>
        if ¬ v2 = v3 then
          some (x4, s)
        else
          zf238_3 a0 n x1 x2 x3 (x4 + 1) s
theorem zf238_3_ok {K : cx_K} (hK : Kok K) {lg : Nat → Int64} {v : Int32} {s' : zS} {a0 : Nat} (h0 : zsh a0 = 11)   {n : Nat} : ∀ {x1 : Int32} {x2 : Int32} {x3 : Int32} {x4 : Int32} {s : zS}, zf238_3 a0 n x1 x2 x3 x4 s = some (v, s') → Ev K zM238 (3, [some (.ref a0), some (.int x1), some (.int x2), some (.int x3), some (.int x4)], [], zmk lg s) 0 (.inl (some (.int v))) (zmk lg s') 0 := by
  induction n with
  | zero => intro x1 x2 x3 x4 s hF; rw [zf238_3] at hF; cases hF
  | succ n ih =>
    intro x1 x2 x3 x4 s hF
    rw [zf238_3] at hF
    refine Ev_p 2 (c' := (7, [some (.ref a0), some (.int x1), some (.int x2), some (.int x3), some (.int x4)], [.int 14, .int x4])) rfl ?_
    refine Ez_if (M := zM238) (b := 14 ≤ x4) rfl rfl hF (fun _ hF => ?_) (fun _ hF => ?_)
    · refine Ev_p 1 (c' := (66, [some (.ref a0), some (.int x1), some (.int x2), some (.int x3), some (.int x4)], [.int x4])) rfl ?_
      exact Ez_ri (M := zM238) rfl rfl hF
    · refine Ev_p 4 (c' := (15, [some (.ref a0), some (.int x1), some (.int x2), some (.int x3), some (.int x4)], [.ref a0, .int (x2 + x4)])) rfl ?_
      refine Ez_gr (M := zM238) (ci := 11) (f := 52) (t := 100) rfl rfl h0 rfl ?_
      refine Ev_p 1 (c' := (19, [some (.ref a0), some (.int x1), some (.int x2), some (.int x3), some (.int x4)], [.int x1, .ref (zrf a0 52), .int (x2 + x4)])) rfl ?_
      refine Ez_al (M := zM238) rfl (zty (ci := 11) (f := 52) (t := 100) h0 rfl) hF (fun v1 hF => ?_)
      refine Ev_p 0 (c' := (20, [some (.ref a0), some (.int x1), some (.int x2), some (.int x3), some (.int x4)], [.int v1, .int (x2 + x4)])) rfl ?_
      refine Ez_if (M := zM238) (b := v1 ≤ (x2 + x4)) rfl rfl hF (fun _ hF => ?_) (fun _ hF => ?_)
      · refine Ev_p 1 (c' := (66, [some (.ref a0), some (.int x1), some (.int x2), some (.int x3), some (.int x4)], [.int x4])) rfl ?_
        exact Ez_ri (M := zM238) rfl rfl hF
      · refine Ev_p 1 (c' := (24, [some (.ref a0), some (.int x1), some (.int x2), some (.int x3), some (.int x4)], [.ref a0])) rfl ?_
        refine Ez_gr (M := zM238) (ci := 11) (f := 51) (t := 100) rfl rfl h0 rfl ?_
        refine Ev_p 7 (c' := (37, [some (.ref a0), some (.int x1), some (.int x2), some (.int x3), some (.int x4)], [.int (((2400 * x1) + x2) + x4), .ref (zrf a0 51)])) rfl ?_
        refine Ez_al (M := zM238) rfl (zty (ci := 11) (f := 51) (t := 100) h0 rfl) hF (fun v2 hF => ?_)
        refine Ev_p 1 (c' := (39, [some (.ref a0), some (.int x1), some (.int x2), some (.int x3), some (.int x4)], [.ref a0, .int v2])) rfl ?_
        refine Ez_gr (M := zM238) (ci := 11) (f := 51) (t := 100) rfl rfl h0 rfl ?_
        refine Ev_p 9 (c' := (54, [some (.ref a0), some (.int x1), some (.int x2), some (.int x3), some (.int x4)], [.int ((((2400 * x1) + x2) + x4) - x3), .ref (zrf a0 51), .int v2])) rfl ?_
        refine Ez_al (M := zM238) rfl (zty (ci := 11) (f := 51) (t := 100) h0 rfl) hF (fun v3 hF => ?_)
        refine Ev_p 0 (c' := (55, [some (.ref a0), some (.int x1), some (.int x2), some (.int x3), some (.int x4)], [.int v3, .int v2])) rfl ?_
        refine Ez_if (M := zM238) (b := ¬ v2 = v3) rfl rfl hF (fun _ hF => ?_) (fun _ hF => ?_)
        · refine Ev_p 1 (c' := (66, [some (.ref a0), some (.int x1), some (.int x2), some (.int x3), some (.int x4)], [.int x4])) rfl ?_
          exact Ez_ri (M := zM238) rfl rfl hF
        · refine Ev_p 2 (c' := (3, [some (.ref a0), some (.int x1), some (.int x2), some (.int x3), some (.int (x4 + 1))], [])) rfl ?_
          exact ih hF
noncomputable def zf238 (a0 : Nat) (x1 : Int32) (x2 : Int32) (x3 : Int32) (s : zS) : Option (Int32 × zS) :=
  zf238_3 a0 zfz x1 x2 x3 0 s
theorem zf238_ok {K : cx_K} (hK : Kok K) {lg : Nat → Int64} {v : Int32} {s' : zS} {a0 : Nat} (h0 : zsh a0 = 11) {x1 : Int32} {x2 : Int32} {x3 : Int32} {s : zS} (hF : zf238 a0 x1 x2 x3 s = some (v, s')) : Ct K 238 [.ref a0, .int x1, .int x2, .int x3] (zmk lg s) (.inl (some (.int v))) (zmk lg s') 0 := by
  unfold zf238 at hF
  refine Ct_of hK nd_ok238 (mL := 5) (rt := some .int) rfl rfl (Nat.le_of_ble_eq_true rfl) zlen_le ?_
  refine Ev_p 2 (c' := (3, [some (.ref a0), some (.int x1), some (.int x2), some (.int x3), some (.int 0)], [])) rfl ?_
  exact zf238_3_ok hK h0 hF
-- PaperParcelsModel.put(II)V
abbrev zM239 : ev_M := (am_in nd_i239, am_fl nd_f11, am_ct nd_k11, am_sl nd_ml nd_s239, fun _ => none, none)
noncomputable def zf239 (a0 : Nat) (x1 : Int32) (x2 : Int32) (s : zS) : Option (zS) :=
  zal s (zrf a0 54) x1 fun v1 =>
  zas s (zrf a0 53) ((300 * x1) + v1) x2 fun s2 =>
  zal s2 (zrf a0 54) x1 fun v3 =>
  zas s2 (zrf a0 54) x1 (v3 + 1) fun s4 =>
  some s4
theorem zf239_ok {K : cx_K} (hK : Kok K) {lg : Nat → Int64} {s' : zS} {a0 : Nat} (h0 : zsh a0 = 11) {x1 : Int32} {x2 : Int32} {s : zS} (hF : zf239 a0 x1 x2 s = some s') : Ct K 239 [.ref a0, .int x1, .int x2] (zmk lg s) (.inl none) (zmk lg s') 0 := by
  unfold zf239 at hF
  refine Ct_of hK nd_ok239 (mL := 3) (rt := none) rfl rfl (Nat.le_of_ble_eq_true rfl) zlen_le ?_
  refine Ev_p 1 (c' := (1, [some (.ref a0), some (.int x1), some (.int x2)], [.ref a0])) rfl ?_
  refine Ez_gr (M := zM239) (ci := 11) (f := 53) (t := 100) rfl rfl h0 rfl ?_
  refine Ev_p 4 (c' := (10, [some (.ref a0), some (.int x1), some (.int x2)], [.ref a0, .int (300 * x1), .ref (zrf a0 53)])) rfl ?_
  refine Ez_gr (M := zM239) (ci := 11) (f := 54) (t := 100) rfl rfl h0 rfl ?_
  refine Ev_p 1 (c' := (14, [some (.ref a0), some (.int x1), some (.int x2)], [.int x1, .ref (zrf a0 54), .int (300 * x1), .ref (zrf a0 53)])) rfl ?_
  refine Ez_al (M := zM239) rfl (zty (ci := 11) (f := 54) (t := 100) h0 rfl) hF (fun v1 hF => ?_)
  refine Ev_p 2 (c' := (17, [some (.ref a0), some (.int x1), some (.int x2)], [.int x2, .int ((300 * x1) + v1), .ref (zrf a0 53)])) rfl ?_
  refine Ez_as (M := zM239) rfl (zty (ci := 11) (f := 53) (t := 100) h0 rfl) hF (fun s2 hF => ?_)
  refine Ev_p 1 (c' := (19, [some (.ref a0), some (.int x1), some (.int x2)], [.ref a0])) rfl ?_
  refine Ez_gr (M := zM239) (ci := 11) (f := 54) (t := 100) rfl rfl h0 rfl ?_
  refine Ev_p 2 (c' := (24, [some (.ref a0), some (.int x1), some (.int x2)], [.int x1, .ref (zrf a0 54), .int x1, .ref (zrf a0 54)])) rfl ?_
  refine Ez_al (M := zM239) rfl (zty (ci := 11) (f := 54) (t := 100) h0 rfl) hF (fun v3 hF => ?_)
  refine Ev_p 2 (c' := (27, [some (.ref a0), some (.int x1), some (.int x2)], [.int (v3 + 1), .int x1, .ref (zrf a0 54)])) rfl ?_
  refine Ez_as (M := zM239) rfl (zty (ci := 11) (f := 54) (t := 100) h0 rfl) hF (fun s4 hF => ?_)
  refine Ev_p 0 (c' := (28, [some (.ref a0), some (.int x1), some (.int x2)], [])) rfl ?_
  exact Ez_rv (M := zM239) rfl rfl hF
-- PaperParcelsModel.pack(II)V
abbrev zM237 : ev_M := (am_in nd_i237, am_fl nd_f11, am_ct nd_k11, am_sl nd_ml nd_s237, fun _ => none, none)
noncomputable def zf237_70 (a0 : Nat) (k9 : Int32 → Int32 → Int32 → zS → Option (zS)) (k28 : Int32 → Int32 → Int32 → Int32 → Int32 → Int32 → zS → Option (zS)) (x1 : Int32) (x2 : Int32) (x3 : Int32) (x4 : Int32) (x6 : Int32) (x7 : Int32) (t0 : Int32) (s : zS) : Option (zS) :=
  if x7 ≤ x4 then
    k28 x1 x2 x3 x4 t0 (x6 + 1) s
  else
    k28 x1 x2 x3 x7 t0 (x6 + 1) s
theorem zf237_70_ok {K : cx_K} (hK : Kok K) {lg : Nat → Int64} {s' : zS} {a0 : Nat} (h0 : zsh a0 = 11) {k9 : Int32 → Int32 → Int32 → zS → Option (zS)} {k28 : Int32 → Int32 → Int32 → Int32 → Int32 → Int32 → zS → Option (zS)} (hk9 : ∀ x1 x2 x3 s, k9 x1 x2 x3 s = some s' → Ev K zM237 (9, [some (.ref a0), some (.int x1), some (.int x2), some (.int x3), none, none, none, none], [], zmk lg s) 0 (.inl none) (zmk lg s') 0) (hk28 : ∀ x1 x2 x3 x4 x5 x6 s, k28 x1 x2 x3 x4 x5 x6 s = some s' → Ev K zM237 (28, [some (.ref a0), some (.int x1), some (.int x2), some (.int x3), some (.int x4), some (.int x5), some (.int x6), none], [], zmk lg s) 0 (.inl none) (zmk lg s') 0) {x1 : Int32} {x2 : Int32} {x3 : Int32} {x4 : Int32} {x6 : Int32} {x7 : Int32} {t0 : Int32}  {s : zS} (hF : zf237_70 a0 k9 k28 x1 x2 x3 x4 x6 x7 t0 s = some s') : Ev K zM237 (70, [some (.ref a0), some (.int x1), some (.int x2), some (.int x3), some (.int x4), none, some (.int x6), some (.int x7)], [.int t0], zmk lg s) 0 (.inl none) (zmk lg s') 0 := by
  unfold zf237_70 at hF
  refine Ev_p 3 (c' := (76, [some (.ref a0), some (.int x1), some (.int x2), some (.int x3), some (.int x4), some (.int t0), some (.int x6), some (.int x7)], [.int x4, .int x7])) rfl ?_
  refine Ez_if (M := zM237) (b := x7 ≤ x4) rfl rfl hF (fun _ hF => ?_) (fun _ hF => ?_)
  · refine Ev_p 4 (c' := (28, [some (.ref a0), some (.int x1), some (.int x2), some (.int x3), some (.int x4), some (.int t0), some (.int (x6 + 1)), some (.int x7)], [])) rfl ?_
    refine Ev_w (L' := [some (.ref a0), some (.int x1), some (.int x2), some (.int x3), some (.int x4), some (.int t0), some (.int (x6 + 1)), none]) (zle_c (zle_c (zle_c (zle_c (zle_c (zle_c (zle_c (zle_n zle_0)))))))) ?_
    exact hk28 _ _ _ _ _ _ _ hF
  · refine Ev_p 5 (c' := (28, [some (.ref a0), some (.int x1), some (.int x2), some (.int x3), some (.int x7), some (.int t0), some (.int (x6 + 1)), some (.int x7)], [])) rfl ?_
    refine Ev_w (L' := [some (.ref a0), some (.int x1), some (.int x2), some (.int x3), some (.int x7), some (.int t0), some (.int (x6 + 1)), none]) (zle_c (zle_c (zle_c (zle_c (zle_c (zle_c (zle_c (zle_n zle_0)))))))) ?_
    exact hk28 _ _ _ _ _ _ _ hF
noncomputable def zf237_94 (a0 : Nat) (k9 : Int32 → Int32 → Int32 → zS → Option (zS)) (x1 : Int32) (x2 : Int32) (x3 : Int32) (x4 : Int32) (x5 : Int32) (s : zS) : Option (zS) :=
  if x5 ≤ 0 then
    zal s (zrf a0 51) ((2400 * x1) + x3) fun v1 =>
    zbv (zf239 a0 x1 v1 s) fun s3 =>
    k9 x1 x2 (x3 + 1) s3
  else
    zbv (zf239 a0 x1 126 s) fun s5 =>
    zbv (zf239 a0 x1 (48 + (x5 / 10)) s5) fun s7 =>
    zbv (zf239 a0 x1 (48 + (x5 - x5 / 10 * 10)) s7) fun s9 =>
    zbv (zf239 a0 x1 ((48 + x4) - 5) s9) fun s11 =>
    k9 x1 x2 (x3 + x4) s11
theorem zf237_94_ok {K : cx_K} (hK : Kok K) {lg : Nat → Int64} {s' : zS} {a0 : Nat} (h0 : zsh a0 = 11) {k9 : Int32 → Int32 → Int32 → zS → Option (zS)} (hk9 : ∀ x1 x2 x3 s, k9 x1 x2 x3 s = some s' → Ev K zM237 (9, [some (.ref a0), some (.int x1), some (.int x2), some (.int x3), none, none, none, none], [], zmk lg s) 0 (.inl none) (zmk lg s') 0) {x1 : Int32} {x2 : Int32} {x3 : Int32} {x4 : Int32} {x5 : Int32}  {s : zS} (hF : zf237_94 a0 k9 x1 x2 x3 x4 x5 s = some s') : Ev K zM237 (94, [some (.ref a0), some (.int x1), some (.int x2), some (.int x3), some (.int x4), some (.int x5), none, none], [], zmk lg s) 0 (.inl none) (zmk lg s') 0 := by
  unfold zf237_94 at hF
  refine Ev_p 1 (c' := (96, [some (.ref a0), some (.int x1), some (.int x2), some (.int x3), some (.int x4), some (.int x5), none, none], [.int x5])) rfl ?_
  refine Ez_if (M := zM237) (b := x5 ≤ 0) rfl rfl hF (fun _ hF => ?_) (fun _ hF => ?_)
  · refine Ev_p 3 (c' := (155, [some (.ref a0), some (.int x1), some (.int x2), some (.int x3), some (.int x4), some (.int x5), none, none], [.ref a0, .int x1, .ref a0])) rfl ?_
    refine Ez_gr (M := zM237) (ci := 11) (f := 51) (t := 100) rfl rfl h0 rfl ?_
    refine Ev_p 5 (c' := (165, [some (.ref a0), some (.int x1), some (.int x2), some (.int x3), some (.int x4), some (.int x5), none, none], [.int ((2400 * x1) + x3), .ref (zrf a0 51), .int x1, .ref a0])) rfl ?_
    refine Ez_al (M := zM237) rfl (zty (ci := 11) (f := 51) (t := 100) h0 rfl) hF (fun v1 hF => ?_)
    refine Ev_p 0 (c' := (166, [some (.ref a0), some (.int x1), some (.int x2), some (.int x3), some (.int x4), some (.int x5), none, none], [.int v1, .int x1, .ref a0])) rfl ?_
    refine Ez_cv (M := zM237) (As := [.ref a0, .int x1, .int v1]) (st' := []) (am_site_v (y := 239) (k := 3) (ci := 11) rfl rfl (zrcv rfl h0 rfl)) (Nat.le_of_ble_eq_true rfl) (Nat.le_of_ble_eq_true rfl) rfl rfl (fun _ hF => zf239_ok hK h0 hF) hF (fun s3 hF => ?_)
    refine Ev_p 2 (c' := (9, [some (.ref a0), some (.int x1), some (.int x2), some (.int (x3 + 1)), some (.int x4), some (.int x5), none, none], [])) rfl ?_
    refine Ev_w (L' := [some (.ref a0), some (.int x1), some (.int x2), some (.int (x3 + 1)), none, none, none, none]) (zle_c (zle_c (zle_c (zle_c (zle_n (zle_n (zle_c (zle_c zle_0)))))))) ?_
    exact hk9 _ _ _ _ hF
  · refine Ev_p 3 (c' := (103, [some (.ref a0), some (.int x1), some (.int x2), some (.int x3), some (.int x4), some (.int x5), none, none], [.int 126, .int x1, .ref a0])) rfl ?_
    refine Ez_cv (M := zM237) (As := [.ref a0, .int x1, .int 126]) (st' := []) (am_site_v (y := 239) (k := 3) (ci := 11) rfl rfl (zrcv rfl h0 rfl)) (Nat.le_of_ble_eq_true rfl) (Nat.le_of_ble_eq_true rfl) rfl rfl (fun _ hF => zf239_ok hK h0 hF) hF (fun s5 hF => ?_)
    refine Ev_p 7 (c' := (116, [some (.ref a0), some (.int x1), some (.int x2), some (.int x3), some (.int x4), some (.int x5), none, none], [.int (48 + (x5 / 10)), .int x1, .ref a0])) rfl ?_
    refine Ez_cv (M := zM237) (As := [.ref a0, .int x1, .int (48 + (x5 / 10))]) (st' := []) (am_site_v (y := 239) (k := 3) (ci := 11) rfl rfl (zrcv rfl h0 rfl)) (Nat.le_of_ble_eq_true rfl) (Nat.le_of_ble_eq_true rfl) rfl rfl (fun _ hF => zf239_ok hK h0 hF) hF (fun s7 hF => ?_)
    refine Ev_p 7 (c' := (129, [some (.ref a0), some (.int x1), some (.int x2), some (.int x3), some (.int x4), some (.int x5), none, none], [.int (48 + (x5 - x5 / 10 * 10)), .int x1, .ref a0])) rfl ?_
    refine Ez_cv (M := zM237) (As := [.ref a0, .int x1, .int (48 + (x5 - x5 / 10 * 10))]) (st' := []) (am_site_v (y := 239) (k := 3) (ci := 11) rfl rfl (zrcv rfl h0 rfl)) (Nat.le_of_ble_eq_true rfl) (Nat.le_of_ble_eq_true rfl) rfl rfl (fun _ hF => zf239_ok hK h0 hF) hF (fun s9 hF => ?_)
    refine Ev_p 7 (c' := (141, [some (.ref a0), some (.int x1), some (.int x2), some (.int x3), some (.int x4), some (.int x5), none, none], [.int ((48 + x4) - 5), .int x1, .ref a0])) rfl ?_
    refine Ez_cv (M := zM237) (As := [.ref a0, .int x1, .int ((48 + x4) - 5)]) (st' := []) (am_site_v (y := 239) (k := 3) (ci := 11) rfl rfl (zrcv rfl h0 rfl)) (Nat.le_of_ble_eq_true rfl) (Nat.le_of_ble_eq_true rfl) rfl rfl (fun _ hF => zf239_ok hK h0 hF) hF (fun s11 hF => ?_)
    refine Ev_p 6 (c' := (9, [some (.ref a0), some (.int x1), some (.int x2), some (.int (x3 + x4)), some (.int x4), some (.int x5), none, none], [])) rfl ?_
    refine Ev_w (L' := [some (.ref a0), some (.int x1), some (.int x2), some (.int (x3 + x4)), none, none, none, none]) (zle_c (zle_c (zle_c (zle_c (zle_n (zle_n (zle_c (zle_c zle_0)))))))) ?_
    exact hk9 _ _ _ _ hF
noncomputable def zf237_28 (a0 : Nat) (k9 : Int32 → Int32 → Int32 → zS → Option (zS)) : Nat → Int32 → Int32 → Int32 → Int32 → Int32 → Int32 → zS → Option (zS)
  | 0, _, _, _, _, _, _, _ => none
  | n + 1, x1, x2, x3, x4, x5, x6, s =>
    if 100 ≤ x6 then
      zf237_94 a0 k9 x1 x2 x3 x4 x5 s
    else
      if x3 < x6 then
        zf237_94 a0 k9 x1 x2 x3 x4 x5 s
      else
        if ¬ x2 = 1 then
          zf237_94 a0 k9 x1 x2 x3 x4 x5 s
        else
          zbi (zf238 a0 x1 x3 x6 s) fun v1 s2 =>
          if v1 ≤ x4 then
            zf237_70 a0 k9 (zf237_28 a0 k9 n) x1 x2 x3 x4 x6 v1 x5 s2
          else
            zf237_70 a0 k9 (zf237_28 a0 k9 n) x1 x2 x3 x4 x6 v1 x6 s2
theorem zf237_28_ok {K : cx_K} (hK : Kok K) {lg : Nat → Int64} {s' : zS} {a0 : Nat} (h0 : zsh a0 = 11) {k9 : Int32 → Int32 → Int32 → zS → Option (zS)} (hk9 : ∀ x1 x2 x3 s, k9 x1 x2 x3 s = some s' → Ev K zM237 (9, [some (.ref a0), some (.int x1), some (.int x2), some (.int x3), none, none, none, none], [], zmk lg s) 0 (.inl none) (zmk lg s') 0) {n : Nat} : ∀ {x1 : Int32} {x2 : Int32} {x3 : Int32} {x4 : Int32} {x5 : Int32} {x6 : Int32} {s : zS}, zf237_28 a0 k9 n x1 x2 x3 x4 x5 x6 s = some s' → Ev K zM237 (28, [some (.ref a0), some (.int x1), some (.int x2), some (.int x3), some (.int x4), some (.int x5), some (.int x6), none], [], zmk lg s) 0 (.inl none) (zmk lg s') 0 := by
  induction n with
  | zero => intro x1 x2 x3 x4 x5 x6 s hF; rw [zf237_28] at hF; cases hF
  | succ n ih =>
    intro x1 x2 x3 x4 x5 x6 s hF
    rw [zf237_28] at hF
    refine Ev_p 2 (c' := (32, [some (.ref a0), some (.int x1), some (.int x2), some (.int x3), some (.int x4), some (.int x5), some (.int x6), none], [.int 100, .int x6])) rfl ?_
    refine Ez_if (M := zM237) (b := 100 ≤ x6) rfl rfl hF (fun _ hF => ?_) (fun _ hF => ?_)
    · refine Ev_p 0 (c' := (94, [some (.ref a0), some (.int x1), some (.int x2), some (.int x3), some (.int x4), some (.int x5), some (.int x6), none], [])) rfl ?_
      refine Ev_w (L' := [some (.ref a0), some (.int x1), some (.int x2), some (.int x3), some (.int x4), some (.int x5), none, none]) (zle_c (zle_c (zle_c (zle_c (zle_c (zle_c (zle_n (zle_c zle_0)))))))) ?_
      exact zf237_94_ok hK h0 hk9 hF
    · refine Ev_p 2 (c' := (38, [some (.ref a0), some (.int x1), some (.int x2), some (.int x3), some (.int x4), some (.int x5), some (.int x6), none], [.int x3, .int x6])) rfl ?_
      refine Ez_if (M := zM237) (b := x3 < x6) rfl rfl hF (fun _ hF => ?_) (fun _ hF => ?_)
      · refine Ev_p 0 (c' := (94, [some (.ref a0), some (.int x1), some (.int x2), some (.int x3), some (.int x4), some (.int x5), some (.int x6), none], [])) rfl ?_
        refine Ev_w (L' := [some (.ref a0), some (.int x1), some (.int x2), some (.int x3), some (.int x4), some (.int x5), none, none]) (zle_c (zle_c (zle_c (zle_c (zle_c (zle_c (zle_n (zle_c zle_0)))))))) ?_
        exact zf237_94_ok hK h0 hk9 hF
      · refine Ev_p 2 (c' := (43, [some (.ref a0), some (.int x1), some (.int x2), some (.int x3), some (.int x4), some (.int x5), some (.int x6), none], [.int 1, .int x2])) rfl ?_
        refine Ez_if (M := zM237) (b := ¬ x2 = 1) rfl rfl hF (fun _ hF => ?_) (fun _ hF => ?_)
        · refine Ev_p 0 (c' := (94, [some (.ref a0), some (.int x1), some (.int x2), some (.int x3), some (.int x4), some (.int x5), some (.int x6), none], [])) rfl ?_
          refine Ev_w (L' := [some (.ref a0), some (.int x1), some (.int x2), some (.int x3), some (.int x4), some (.int x5), none, none]) (zle_c (zle_c (zle_c (zle_c (zle_c (zle_c (zle_n (zle_c zle_0)))))))) ?_
          exact zf237_94_ok hK h0 hk9 hF
        · refine Ev_p 4 (c' := (51, [some (.ref a0), some (.int x1), some (.int x2), some (.int x3), some (.int x4), some (.int x5), some (.int x6), none], [.int x6, .int x3, .int x1, .ref a0])) rfl ?_
          refine Ez_ci (M := zM237) (As := [.ref a0, .int x1, .int x3, .int x6]) (st' := []) (am_site_v (y := 238) (k := 4) (ci := 11) rfl rfl (zrcv rfl h0 rfl)) (Nat.le_of_ble_eq_true rfl) (Nat.le_of_ble_eq_true rfl) rfl rfl (fun _ _ hF => zf238_ok hK h0 hF) hF (fun v1 s2 hF => ?_)
          refine Ev_p 3 (c' := (60, [some (.ref a0), some (.int x1), some (.int x2), some (.int x3), some (.int x4), some (.int x5), some (.int x6), some (.int v1)], [.int x4, .int v1])) rfl ?_
          refine Ez_if (M := zM237) (b := v1 ≤ x4) rfl rfl hF (fun _ hF => ?_) (fun _ hF => ?_)
          · refine Ev_p 1 (c' := (70, [some (.ref a0), some (.int x1), some (.int x2), some (.int x3), some (.int x4), some (.int x5), some (.int x6), some (.int v1)], [.int x5])) rfl ?_
            refine Ev_w (L' := [some (.ref a0), some (.int x1), some (.int x2), some (.int x3), some (.int x4), none, some (.int x6), some (.int v1)]) (zle_c (zle_c (zle_c (zle_c (zle_c (zle_n (zle_c (zle_c zle_0)))))))) ?_
            exact zf237_70_ok hK h0 hk9 (fun _ _ _ _ _ _ _ hF => ih hF) hF
          · refine Ev_p 2 (c' := (70, [some (.ref a0), some (.int x1), some (.int x2), some (.int x3), some (.int x4), some (.int x5), some (.int x6), some (.int v1)], [.int x6])) rfl ?_
            refine Ev_w (L' := [some (.ref a0), some (.int x1), some (.int x2), some (.int x3), some (.int x4), none, some (.int x6), some (.int v1)]) (zle_c (zle_c (zle_c (zle_c (zle_c (zle_n (zle_c (zle_c zle_0)))))))) ?_
            exact zf237_70_ok hK h0 hk9 (fun _ _ _ _ _ _ _ hF => ih hF) hF
noncomputable def zf237_9 (a0 : Nat)  : Nat → Int32 → Int32 → Int32 → zS → Option (zS)
  | 0, _, _, _, _ => none
  | n + 1, x1, x2, x3, s =>
    zal s (zrf a0 52) x1 fun v1 =>
    if v1 ≤ x3 then
      some s
    else
      zf237_28 a0 (zf237_9 a0 n) zfz x1 x2 x3 4 0 1 s
theorem zf237_9_ok {K : cx_K} (hK : Kok K) {lg : Nat → Int64} {s' : zS} {a0 : Nat} (h0 : zsh a0 = 11)   {n : Nat} : ∀ {x1 : Int32} {x2 : Int32} {x3 : Int32} {s : zS}, zf237_9 a0 n x1 x2 x3 s = some s' → Ev K zM237 (9, [some (.ref a0), some (.int x1), some (.int x2), some (.int x3), none, none, none, none], [], zmk lg s) 0 (.inl none) (zmk lg s') 0 := by
  induction n with
  | zero => intro x1 x2 x3 s hF; rw [zf237_9] at hF; cases hF
  | succ n ih =>
    intro x1 x2 x3 s hF
    rw [zf237_9] at hF
    refine Ev_p 2 (c' := (11, [some (.ref a0), some (.int x1), some (.int x2), some (.int x3), none, none, none, none], [.ref a0, .int x3])) rfl ?_
    refine Ez_gr (M := zM237) (ci := 11) (f := 52) (t := 100) rfl rfl h0 rfl ?_
    refine Ev_p 1 (c' := (15, [some (.ref a0), some (.int x1), some (.int x2), some (.int x3), none, none, none, none], [.int x1, .ref (zrf a0 52), .int x3])) rfl ?_
    refine Ez_al (M := zM237) rfl (zty (ci := 11) (f := 52) (t := 100) h0 rfl) hF (fun v1 hF => ?_)
    refine Ev_p 0 (c' := (16, [some (.ref a0), some (.int x1), some (.int x2), some (.int x3), none, none, none, none], [.int v1, .int x3])) rfl ?_
    refine Ez_if (M := zM237) (b := v1 ≤ x3) rfl rfl hF (fun _ hF => ?_) (fun _ hF => ?_)
    · refine Ev_p 0 (c' := (175, [some (.ref a0), some (.int x1), some (.int x2), some (.int x3), none, none, none, none], [])) rfl ?_
      exact Ez_rv (M := zM237) rfl rfl hF
    · refine Ev_p 6 (c' := (28, [some (.ref a0), some (.int x1), some (.int x2), some (.int x3), some (.int 4), some (.int 0), some (.int 1), none], [])) rfl ?_
      exact zf237_28_ok hK h0 (fun _ _ _ _ hF => ih hF) hF
noncomputable def zf237 (a0 : Nat) (x1 : Int32) (x2 : Int32) (s : zS) : Option (zS) :=
  zas s (zrf a0 54) x1 0 fun s1 =>
  zf237_9 a0 zfz x1 x2 0 s1
theorem zf237_ok {K : cx_K} (hK : Kok K) {lg : Nat → Int64} {s' : zS} {a0 : Nat} (h0 : zsh a0 = 11) {x1 : Int32} {x2 : Int32} {s : zS} (hF : zf237 a0 x1 x2 s = some s') : Ct K 237 [.ref a0, .int x1, .int x2] (zmk lg s) (.inl none) (zmk lg s') 0 := by
  unfold zf237 at hF
  refine Ct_of hK nd_ok237 (mL := 8) (rt := none) rfl rfl (Nat.le_of_ble_eq_true rfl) zlen_le ?_
  refine Ev_p 1 (c' := (1, [some (.ref a0), some (.int x1), some (.int x2), none, none, none, none, none], [.ref a0])) rfl ?_
  refine Ez_gr (M := zM237) (ci := 11) (f := 54) (t := 100) rfl rfl h0 rfl ?_
  refine Ev_p 2 (c' := (6, [some (.ref a0), some (.int x1), some (.int x2), none, none, none, none, none], [.int 0, .int x1, .ref (zrf a0 54)])) rfl ?_
  refine Ez_as (M := zM237) rfl (zty (ci := 11) (f := 54) (t := 100) h0 rfl) hF (fun s1 hF => ?_)
  refine Ev_p 2 (c' := (9, [some (.ref a0), some (.int x1), some (.int x2), some (.int 0), none, none, none, none], [])) rfl ?_
  exact zf237_9_ok hK h0 hF
-- PaperParcelsModel.type(I)V
abbrev zM241 : ev_M := (am_in nd_i241, am_fl nd_f11, am_ct nd_k11, am_sl nd_ml nd_s241, fun _ => none, none)
noncomputable def zf241 (a0 : Nat) (x1 : Int32) (s : zS) : Option (zS) :=
  zgf s a0 2 fun v1 =>
  zas s (zrf a0 1) v1 x1 fun s2 =>
  zgf s2 a0 2 fun v3 =>
  zpf s2 a0 2 (v3 + 1) fun s4 =>
  some s4
theorem zf241_ok {K : cx_K} (hK : Kok K) {lg : Nat → Int64} {s' : zS} {a0 : Nat} (h0 : zsh a0 = 11) {x1 : Int32} {s : zS} (hF : zf241 a0 x1 s = some s') : Ct K 241 [.ref a0, .int x1] (zmk lg s) (.inl none) (zmk lg s') 0 := by
  unfold zf241 at hF
  refine Ct_of hK nd_ok241 (mL := 2) (rt := none) rfl rfl (Nat.le_of_ble_eq_true rfl) zlen_le ?_
  refine Ev_p 1 (c' := (1, [some (.ref a0), some (.int x1)], [.ref a0])) rfl ?_
  refine Ez_gr (M := zM241) (ci := 11) (f := 1) (t := 100) rfl rfl h0 rfl ?_
  refine Ev_p 1 (c' := (5, [some (.ref a0), some (.int x1)], [.ref a0, .ref (zrf a0 1)])) rfl ?_
  refine Ez_gf (M := zM241) (ci := 11) (f := 2) rfl rfl h0 rfl hF (fun v1 hF => ?_)
  refine Ev_p 1 (c' := (9, [some (.ref a0), some (.int x1)], [.int x1, .int v1, .ref (zrf a0 1)])) rfl ?_
  refine Ez_as (M := zM241) rfl (zty (ci := 11) (f := 1) (t := 100) h0 rfl) hF (fun s2 hF => ?_)
  refine Ev_p 2 (c' := (12, [some (.ref a0), some (.int x1)], [.ref a0, .ref a0])) rfl ?_
  refine Ez_gf (M := zM241) (ci := 11) (f := 2) rfl rfl h0 rfl hF (fun v3 hF => ?_)
  refine Ev_p 2 (c' := (17, [some (.ref a0), some (.int x1)], [.int (v3 + 1), .ref a0])) rfl ?_
  refine Ez_pf (M := zM241) (ci := 11) (f := 2) rfl rfl h0 rfl hF (fun s4 hF => ?_)
  refine Ev_p 0 (c' := (20, [some (.ref a0), some (.int x1)], [])) rfl ?_
  exact Ez_rv (M := zM241) rfl rfl hF
-- PaperParcelsModel.hexDigit(I)I
abbrev zM242 : ev_M := (am_in nd_i242, am_fl nd_f11, am_ct nd_k11, am_sl nd_ml nd_s242, fun _ => none, some .int)
noncomputable def zf242 (x0 : Int32) (s : zS) : Option (Int32 × zS) :=
  if 10 ≤ x0 then
    some (((97 + x0) - 10), s)
  else
    some ((48 + x0), s)
theorem zf242_ok {K : cx_K} (hK : Kok K) {lg : Nat → Int64} {v : Int32} {s' : zS}   {x0 : Int32} {s : zS} (hF : zf242 x0 s = some (v, s')) : Ct K 242 [.int x0] (zmk lg s) (.inl (some (.int v))) (zmk lg s') 0 := by
  unfold zf242 at hF
  refine Ct_of hK nd_ok242 (mL := 1) (rt := some .int) rfl rfl (Nat.le_of_ble_eq_true rfl) zlen_le ?_
  refine Ev_p 2 (c' := (3, [some (.int x0)], [.int 10, .int x0])) rfl ?_
  refine Ez_if (M := zM242) (b := 10 ≤ x0) rfl rfl hF (fun _ hF => ?_) (fun _ hF => ?_)
  · refine Ev_p 5 (c' := (20, [some (.int x0)], [.int ((97 + x0) - 10)])) rfl ?_
    exact Ez_ri (M := zM242) rfl rfl hF
  · refine Ev_p 4 (c' := (20, [some (.int x0)], [.int (48 + x0)])) rfl ?_
    exact Ez_ri (M := zM242) rfl rfl hF
-- PaperParcelsModel.typePart(II)V
abbrev zM240 : ev_M := (am_in nd_i240, am_fl nd_f11, am_ct nd_k11, am_sl nd_ml nd_s240, fun _ => none, none)
noncomputable def zf240_153 (a0 : Nat)  : Nat → Int32 → Int32 → zS → Option (zS)
  | 0, _, _, _ => none
  | n + 1, x3, x4, s =>
    if x4 < 0 then
      some s
    else
      zbi (zf242 ((x3 >>> (x4 &&& 31)) &&& 15) s) fun v1 s2 =>
      zbv (zf241 a0 v1 s2) fun s4 =>
      zf240_153 a0 n x3 (x4 + (-4)) s4
theorem zf240_153_ok {K : cx_K} (hK : Kok K) {lg : Nat → Int64} {s' : zS} {a0 : Nat} (h0 : zsh a0 = 11)   {n : Nat} : ∀ {x3 : Int32} {x4 : Int32} {s : zS}, zf240_153 a0 n x3 x4 s = some s' → Ev K zM240 (153, [some (.ref a0), none, none, some (.int x3), some (.int x4)], [], zmk lg s) 0 (.inl none) (zmk lg s') 0 := by
  induction n with
  | zero => intro x3 x4 s hF; rw [zf240_153] at hF; cases hF
  | succ n ih =>
    intro x3 x4 s hF
    rw [zf240_153] at hF
    refine Ev_p 1 (c' := (155, [some (.ref a0), none, none, some (.int x3), some (.int x4)], [.int x4])) rfl ?_
    refine Ez_if (M := zM240) (b := x4 < 0) rfl rfl hF (fun _ hF => ?_) (fun _ hF => ?_)
    · refine Ev_p 0 (c' := (178, [some (.ref a0), none, none, some (.int x3), some (.int x4)], [])) rfl ?_
      exact Ez_rv (M := zM240) rfl rfl hF
    · refine Ev_p 6 (c' := (166, [some (.ref a0), none, none, some (.int x3), some (.int x4)], [.int ((x3 >>> (x4 &&& 31)) &&& 15), .ref a0])) rfl ?_
      refine Ez_ci (M := zM240) (As := [.int ((x3 >>> (x4 &&& 31)) &&& 15)]) (st' := [.ref a0]) (zsite_0 (y := 242) (k := 1) (ci := 11) rfl rfl) (Nat.le_of_ble_eq_true rfl) (Nat.le_of_ble_eq_true rfl) rfl rfl (fun _ _ hF => zf242_ok hK  hF) hF (fun v1 s2 hF => ?_)
      refine Ev_p 0 (c' := (169, [some (.ref a0), none, none, some (.int x3), some (.int x4)], [.int v1, .ref a0])) rfl ?_
      refine Ez_cv (M := zM240) (As := [.ref a0, .int v1]) (st' := []) (am_site_v (y := 241) (k := 2) (ci := 11) rfl rfl (zrcv rfl h0 rfl)) (Nat.le_of_ble_eq_true rfl) (Nat.le_of_ble_eq_true rfl) rfl rfl (fun _ hF => zf241_ok hK h0 hF) hF (fun s4 hF => ?_)
      refine Ev_p 2 (c' := (153, [some (.ref a0), none, none, some (.int x3), some (.int (x4 + (-4)))], [])) rfl ?_
      exact ih hF
noncomputable def zf240_114 (a0 : Nat)  : Nat → Int32 → Int32 → Int32 → zS → Option (zS)
  | 0, _, _, _, _ => none
  | n + 1, x1, x3, x4, s =>
    zal s (zrf a0 52) x1 fun v1 =>
    if v1 ≤ x4 then
      zf240_153 a0 zfz x3 12 s
    else
      zal s (zrf a0 51) ((2400 * x1) + x4) fun v2 =>
      zbi (zf163 x3 v2 s) fun v3 s4 =>
      zf240_114 a0 n x1 v3 (x4 + 1) s4
theorem zf240_114_ok {K : cx_K} (hK : Kok K) {lg : Nat → Int64} {s' : zS} {a0 : Nat} (h0 : zsh a0 = 11)   {n : Nat} : ∀ {x1 : Int32} {x3 : Int32} {x4 : Int32} {s : zS}, zf240_114 a0 n x1 x3 x4 s = some s' → Ev K zM240 (114, [some (.ref a0), some (.int x1), none, some (.int x3), some (.int x4)], [], zmk lg s) 0 (.inl none) (zmk lg s') 0 := by
  induction n with
  | zero => intro x1 x3 x4 s hF; rw [zf240_114] at hF; cases hF
  | succ n ih =>
    intro x1 x3 x4 s hF
    rw [zf240_114] at hF
    refine Ev_p 2 (c' := (117, [some (.ref a0), some (.int x1), none, some (.int x3), some (.int x4)], [.ref a0, .int x4])) rfl ?_
    refine Ez_gr (M := zM240) (ci := 11) (f := 52) (t := 100) rfl rfl h0 rfl ?_
    refine Ev_p 1 (c' := (121, [some (.ref a0), some (.int x1), none, some (.int x3), some (.int x4)], [.int x1, .ref (zrf a0 52), .int x4])) rfl ?_
    refine Ez_al (M := zM240) rfl (zty (ci := 11) (f := 52) (t := 100) h0 rfl) hF (fun v1 hF => ?_)
    refine Ev_p 0 (c' := (122, [some (.ref a0), some (.int x1), none, some (.int x3), some (.int x4)], [.int v1, .int x4])) rfl ?_
    refine Ez_if (M := zM240) (b := v1 ≤ x4) rfl rfl hF (fun _ hF => ?_) (fun _ hF => ?_)
    · refine Ev_p 2 (c' := (153, [some (.ref a0), some (.int x1), none, some (.int x3), some (.int 12)], [])) rfl ?_
      refine Ev_w (L' := [some (.ref a0), none, none, some (.int x3), some (.int 12)]) (zle_c (zle_n (zle_c (zle_c (zle_c zle_0))))) ?_
      exact zf240_153_ok hK h0 hF
    · refine Ev_p 2 (c' := (127, [some (.ref a0), some (.int x1), none, some (.int x3), some (.int x4)], [.ref a0, .int x3])) rfl ?_
      refine Ez_gr (M := zM240) (ci := 11) (f := 51) (t := 100) rfl rfl h0 rfl ?_
      refine Ev_p 5 (c' := (138, [some (.ref a0), some (.int x1), none, some (.int x3), some (.int x4)], [.int ((2400 * x1) + x4), .ref (zrf a0 51), .int x3])) rfl ?_
      refine Ez_al (M := zM240) rfl (zty (ci := 11) (f := 51) (t := 100) h0 rfl) hF (fun v2 hF => ?_)
      refine Ev_p 0 (c' := (139, [some (.ref a0), some (.int x1), none, some (.int x3), some (.int x4)], [.int v2, .int x3])) rfl ?_
      refine Ez_ci (M := zM240) (As := [.int x3, .int v2]) (st' := []) (zsite_0 (y := 163) (k := 2) (ci := 11) rfl rfl) (Nat.le_of_ble_eq_true rfl) (Nat.le_of_ble_eq_true rfl) rfl rfl (fun _ _ hF => zf163_ok hK  hF) hF (fun v3 s4 hF => ?_)
      refine Ev_p 3 (c' := (114, [some (.ref a0), some (.int x1), none, some (.int v3), some (.int (x4 + 1))], [])) rfl ?_
      exact ih hF
noncomputable def zf240_76 (a0 : Nat)  : Nat → Int32 → Int32 → zS → Option (zS)
  | 0, _, _, _ => none
  | n + 1, x1, x3, s =>
    zal s (zrf a0 54) x1 fun v1 =>
    if v1 ≤ x3 then
      zf240_114 a0 zfz x1 65535 0 s
    else
      zal s (zrf a0 53) ((300 * x1) + x3) fun v2 =>
      zbv (zf241 a0 v2 s) fun s4 =>
      zf240_76 a0 n x1 (x3 + 1) s4
theorem zf240_76_ok {K : cx_K} (hK : Kok K) {lg : Nat → Int64} {s' : zS} {a0 : Nat} (h0 : zsh a0 = 11)   {n : Nat} : ∀ {x1 : Int32} {x3 : Int32} {s : zS}, zf240_76 a0 n x1 x3 s = some s' → Ev K zM240 (76, [some (.ref a0), some (.int x1), none, some (.int x3), none], [], zmk lg s) 0 (.inl none) (zmk lg s') 0 := by
  induction n with
  | zero => intro x1 x3 s hF; rw [zf240_76] at hF; cases hF
  | succ n ih =>
    intro x1 x3 s hF
    rw [zf240_76] at hF
    refine Ev_p 2 (c' := (78, [some (.ref a0), some (.int x1), none, some (.int x3), none], [.ref a0, .int x3])) rfl ?_
    refine Ez_gr (M := zM240) (ci := 11) (f := 54) (t := 100) rfl rfl h0 rfl ?_
    refine Ev_p 1 (c' := (82, [some (.ref a0), some (.int x1), none, some (.int x3), none], [.int x1, .ref (zrf a0 54), .int x3])) rfl ?_
    refine Ez_al (M := zM240) rfl (zty (ci := 11) (f := 54) (t := 100) h0 rfl) hF (fun v1 hF => ?_)
    refine Ev_p 0 (c' := (83, [some (.ref a0), some (.int x1), none, some (.int x3), none], [.int v1, .int x3])) rfl ?_
    refine Ez_if (M := zM240) (b := v1 ≤ x3) rfl rfl hF (fun _ hF => ?_) (fun _ hF => ?_)
    · refine Ev_p 0 (c' := (108, [some (.ref a0), some (.int x1), none, some (.int x3), none], [])) rfl ?_
      refine Ez_ldc (M := zM240) (x := 65535) rfl rfl ?_
      refine Ev_p 3 (c' := (114, [some (.ref a0), some (.int x1), none, some (.int 65535), some (.int 0)], [])) rfl ?_
      exact zf240_114_ok hK h0 hF
    · refine Ev_p 2 (c' := (88, [some (.ref a0), some (.int x1), none, some (.int x3), none], [.ref a0, .ref a0])) rfl ?_
      refine Ez_gr (M := zM240) (ci := 11) (f := 53) (t := 100) rfl rfl h0 rfl ?_
      refine Ev_p 5 (c' := (98, [some (.ref a0), some (.int x1), none, some (.int x3), none], [.int ((300 * x1) + x3), .ref (zrf a0 53), .ref a0])) rfl ?_
      refine Ez_al (M := zM240) rfl (zty (ci := 11) (f := 53) (t := 100) h0 rfl) hF (fun v2 hF => ?_)
      refine Ev_p 0 (c' := (99, [some (.ref a0), some (.int x1), none, some (.int x3), none], [.int v2, .ref a0])) rfl ?_
      refine Ez_cv (M := zM240) (As := [.ref a0, .int v2]) (st' := []) (am_site_v (y := 241) (k := 2) (ci := 11) rfl rfl (zrcv rfl h0 rfl)) (Nat.le_of_ble_eq_true rfl) (Nat.le_of_ble_eq_true rfl) rfl rfl (fun _ hF => zf241_ok hK h0 hF) hF (fun s4 hF => ?_)
      refine Ev_p 2 (c' := (76, [some (.ref a0), some (.int x1), none, some (.int (x3 + 1)), none], [])) rfl ?_
      exact ih hF
noncomputable def zf240_12 (a0 : Nat)  (x1 : Int32) (x2 : Int32) (t0 : Int32) (s : zS) : Option (zS) :=
  zbv (zf241 a0 t0 s) fun s2 =>
  zbv (zf241 a0 (48 + x2) s2) fun s4 =>
  zal s4 (zrf a0 54) x1 fun v5 =>
  zbv (zf241 a0 (48 + (v5 / 100)) s4) fun s7 =>
  zal s7 (zrf a0 54) x1 fun v8 =>
  zbv (zf241 a0 (48 + ((v8 / 10) - (v8 / 10) / 10 * 10)) s7) fun s10 =>
  zal s10 (zrf a0 54) x1 fun v11 =>
  zbv (zf241 a0 (48 + (v11 - v11 / 10 * 10)) s10) fun s13 =>
  zf240_76 a0 zfz x1 0 s13
theorem zf240_12_ok {K : cx_K} (hK : Kok K) {lg : Nat → Int64} {s' : zS} {a0 : Nat} (h0 : zsh a0 = 11)   {x1 : Int32} {x2 : Int32} {t0 : Int32}  {s : zS} (hF : zf240_12 a0 x1 x2 t0 s = some s') : Ev K zM240 (12, [some (.ref a0), some (.int x1), some (.int x2), none, none], [.int t0, .ref a0], zmk lg s) 0 (.inl none) (zmk lg s') 0 := by
  unfold zf240_12 at hF
  refine Ev_p 0 (c' := (12, [some (.ref a0), some (.int x1), some (.int x2), none, none], [.int t0, .ref a0])) rfl ?_
  refine Ez_cv (M := zM240) (As := [.ref a0, .int t0]) (st' := []) (am_site_v (y := 241) (k := 2) (ci := 11) rfl rfl (zrcv rfl h0 rfl)) (Nat.le_of_ble_eq_true rfl) (Nat.le_of_ble_eq_true rfl) rfl rfl (fun _ hF => zf241_ok hK h0 hF) hF (fun s2 hF => ?_)
  refine Ev_p 4 (c' := (20, [some (.ref a0), some (.int x1), some (.int x2), none, none], [.int (48 + x2), .ref a0])) rfl ?_
  refine Ez_cv (M := zM240) (As := [.ref a0, .int (48 + x2)]) (st' := []) (am_site_v (y := 241) (k := 2) (ci := 11) rfl rfl (zrcv rfl h0 rfl)) (Nat.le_of_ble_eq_true rfl) (Nat.le_of_ble_eq_true rfl) rfl rfl (fun _ hF => zf241_ok hK h0 hF) hF (fun s4 hF => ?_)
  refine Ev_p 3 (c' := (27, [some (.ref a0), some (.int x1), some (.int x2), none, none], [.ref a0, .int 48, .ref a0])) rfl ?_
  refine Ez_gr (M := zM240) (ci := 11) (f := 54) (t := 100) rfl rfl h0 rfl ?_
  refine Ev_p 1 (c' := (31, [some (.ref a0), some (.int x1), some (.int x2), none, none], [.int x1, .ref (zrf a0 54), .int 48, .ref a0])) rfl ?_
  refine Ez_al (M := zM240) rfl (zty (ci := 11) (f := 54) (t := 100) h0 rfl) hF (fun v5 hF => ?_)
  refine Ev_p 3 (c' := (36, [some (.ref a0), some (.int x1), some (.int x2), none, none], [.int (48 + (v5 / 100)), .ref a0])) rfl ?_
  refine Ez_cv (M := zM240) (As := [.ref a0, .int (48 + (v5 / 100))]) (st' := []) (am_site_v (y := 241) (k := 2) (ci := 11) rfl rfl (zrcv rfl h0 rfl)) (Nat.le_of_ble_eq_true rfl) (Nat.le_of_ble_eq_true rfl) rfl rfl (fun _ hF => zf241_ok hK h0 hF) hF (fun s7 hF => ?_)
  refine Ev_p 3 (c' := (43, [some (.ref a0), some (.int x1), some (.int x2), none, none], [.ref a0, .int 48, .ref a0])) rfl ?_
  refine Ez_gr (M := zM240) (ci := 11) (f := 54) (t := 100) rfl rfl h0 rfl ?_
  refine Ev_p 1 (c' := (47, [some (.ref a0), some (.int x1), some (.int x2), none, none], [.int x1, .ref (zrf a0 54), .int 48, .ref a0])) rfl ?_
  refine Ez_al (M := zM240) rfl (zty (ci := 11) (f := 54) (t := 100) h0 rfl) hF (fun v8 hF => ?_)
  refine Ev_p 5 (c' := (55, [some (.ref a0), some (.int x1), some (.int x2), none, none], [.int (48 + ((v8 / 10) - (v8 / 10) / 10 * 10)), .ref a0])) rfl ?_
  refine Ez_cv (M := zM240) (As := [.ref a0, .int (48 + ((v8 / 10) - (v8 / 10) / 10 * 10))]) (st' := []) (am_site_v (y := 241) (k := 2) (ci := 11) rfl rfl (zrcv rfl h0 rfl)) (Nat.le_of_ble_eq_true rfl) (Nat.le_of_ble_eq_true rfl) rfl rfl (fun _ hF => zf241_ok hK h0 hF) hF (fun s10 hF => ?_)
  refine Ev_p 3 (c' := (62, [some (.ref a0), some (.int x1), some (.int x2), none, none], [.ref a0, .int 48, .ref a0])) rfl ?_
  refine Ez_gr (M := zM240) (ci := 11) (f := 54) (t := 100) rfl rfl h0 rfl ?_
  refine Ev_p 1 (c' := (66, [some (.ref a0), some (.int x1), some (.int x2), none, none], [.int x1, .ref (zrf a0 54), .int 48, .ref a0])) rfl ?_
  refine Ez_al (M := zM240) rfl (zty (ci := 11) (f := 54) (t := 100) h0 rfl) hF (fun v11 hF => ?_)
  refine Ev_p 3 (c' := (71, [some (.ref a0), some (.int x1), some (.int x2), none, none], [.int (48 + (v11 - v11 / 10 * 10)), .ref a0])) rfl ?_
  refine Ez_cv (M := zM240) (As := [.ref a0, .int (48 + (v11 - v11 / 10 * 10))]) (st' := []) (am_site_v (y := 241) (k := 2) (ci := 11) rfl rfl (zrcv rfl h0 rfl)) (Nat.le_of_ble_eq_true rfl) (Nat.le_of_ble_eq_true rfl) rfl rfl (fun _ hF => zf241_ok hK h0 hF) hF (fun s13 hF => ?_)
  refine Ev_p 2 (c' := (76, [some (.ref a0), some (.int x1), some (.int x2), some (.int 0), none], [])) rfl ?_
  refine Ev_w (L' := [some (.ref a0), some (.int x1), none, some (.int 0), none]) (zle_c (zle_c (zle_n (zle_c (zle_c zle_0))))) ?_
  exact zf240_76_ok hK h0 hF
noncomputable def zf240 (a0 : Nat) (x1 : Int32) (x2 : Int32) (s : zS) : Option (zS) :=
  if ¬ x1 = 0 then
    zf240_12 a0 x1 x2 67 s
  else
    zf240_12 a0 x1 x2 83 s
theorem zf240_ok {K : cx_K} (hK : Kok K) {lg : Nat → Int64} {s' : zS} {a0 : Nat} (h0 : zsh a0 = 11) {x1 : Int32} {x2 : Int32} {s : zS} (hF : zf240 a0 x1 x2 s = some s') : Ct K 240 [.ref a0, .int x1, .int x2] (zmk lg s) (.inl none) (zmk lg s') 0 := by
  unfold zf240 at hF
  refine Ct_of hK nd_ok240 (mL := 5) (rt := none) rfl rfl (Nat.le_of_ble_eq_true rfl) zlen_le ?_
  refine Ev_p 2 (c' := (2, [some (.ref a0), some (.int x1), some (.int x2), none, none], [.int x1, .ref a0])) rfl ?_
  refine Ez_if (M := zM240) (b := ¬ x1 = 0) rfl rfl hF (fun _ hF => ?_) (fun _ hF => ?_)
  · refine Ev_p 1 (c' := (12, [some (.ref a0), some (.int x1), some (.int x2), none, none], [.int 67, .ref a0])) rfl ?_
    exact zf240_12_ok hK h0 hF
  · refine Ev_p 2 (c' := (12, [some (.ref a0), some (.int x1), some (.int x2), none, none], [.int 83, .ref a0])) rfl ?_
    exact zf240_12_ok hK h0 hF
-- PaperParcelsModel.emit(II)I
abbrev zM227 : ev_M := (am_in nd_i227, am_fl nd_f11, am_ct nd_k11, am_sl nd_ml nd_s227, fun _ => none, some .int)
noncomputable def zf227_90 (a0 : Nat)   (s : zS) : Option (Int32 × zS) :=
  zbi (zf207 a0 3 s) fun v1 s2 =>
  some (v1, s2)
theorem zf227_90_ok {K : cx_K} (hK : Kok K) {lg : Nat → Int64} {v : Int32} {s' : zS} {a0 : Nat} (h0 : zsh a0 = 11)     {s : zS} (hF : zf227_90 a0 s = some (v, s')) : Ev K zM227 (90, [some (.ref a0), none, none], [], zmk lg s) 0 (.inl (some (.int v))) (zmk lg s') 0 := by
  unfold zf227_90 at hF
  refine Ev_p 2 (c' := (92, [some (.ref a0), none, none], [.int 3, .ref a0])) rfl ?_
  refine Ez_ci (M := zM227) (As := [.ref a0, .int 3]) (st' := []) (am_site_v (y := 207) (k := 2) (ci := 11) rfl rfl (zrcv rfl h0 rfl)) (Nat.le_of_ble_eq_true rfl) (Nat.le_of_ble_eq_true rfl) rfl rfl (fun _ _ hF => zf207_ok hK h0 hF) hF (fun v1 s2 hF => ?_)
  refine Ev_p 0 (c' := (95, [some (.ref a0), none, none], [.int v1])) rfl ?_
  exact Ez_ri (M := zM227) rfl rfl hF
noncomputable def zf227_35 (a0 : Nat)  (x1 : Int32) (x2 : Int32) (t0 : Int32) (s : zS) : Option (Int32 × zS) :=
  zpf s a0 0 t0 fun s1 =>
  zgf s1 a0 0 fun v2 =>
  if v2 ≤ 0 then
    zbv (zf228 a0 x1 s1) fun s4 =>
    zbv (zf234 a0 x1 s4) fun s6 =>
    zgf s6 a0 56 fun v7 =>
    if 26 < v7 then
      zf227_90 a0 s6
    else
      zal s6 (zrf a0 52) 0 fun v8 =>
      if 300 < v8 then
        zf227_90 a0 s6
      else
        zal s6 (zrf a0 52) 1 fun v9 =>
        if v9 ≤ 300 then
          zbv (zf237 a0 0 x2 s6) fun s11 =>
          zbv (zf237 a0 1 x2 s11) fun s13 =>
          zal s13 (zrf a0 54) 0 fun v14 =>
          zal s13 (zrf a0 54) 1 fun v15 =>
          if ((18 + v14) + v15) ≤ 480 then
            zpf s13 a0 2 0 fun s16 =>
            zbv (zf240 a0 0 x2 s16) fun s18 =>
            zbv (zf240 a0 1 x2 s18) fun s20 =>
            zgf s20 a0 2 fun v21 =>
            some (v21, s20)
          else
            zbi (zf207 a0 3 s13) fun v22 s23 =>
            some (v22, s23)
        else
          zf227_90 a0 s6
  else
    some (0, s1)
theorem zf227_35_ok {K : cx_K} (hK : Kok K) {lg : Nat → Int64} {v : Int32} {s' : zS} {a0 : Nat} (h0 : zsh a0 = 11)   {x1 : Int32} {x2 : Int32} {t0 : Int32}  {s : zS} (hF : zf227_35 a0 x1 x2 t0 s = some (v, s')) : Ev K zM227 (35, [some (.ref a0), some (.int x1), some (.int x2)], [.int t0, .ref a0], zmk lg s) 0 (.inl (some (.int v))) (zmk lg s') 0 := by
  unfold zf227_35 at hF
  refine Ev_p 0 (c' := (35, [some (.ref a0), some (.int x1), some (.int x2)], [.int t0, .ref a0])) rfl ?_
  refine Ez_pf (M := zM227) (ci := 11) (f := 0) rfl rfl h0 rfl hF (fun s1 hF => ?_)
  refine Ev_p 1 (c' := (39, [some (.ref a0), some (.int x1), some (.int x2)], [.ref a0])) rfl ?_
  refine Ez_gf (M := zM227) (ci := 11) (f := 0) rfl rfl h0 rfl hF (fun v2 hF => ?_)
  refine Ev_p 0 (c' := (42, [some (.ref a0), some (.int x1), some (.int x2)], [.int v2])) rfl ?_
  refine Ez_if (M := zM227) (b := v2 ≤ 0) rfl rfl hF (fun _ hF => ?_) (fun _ hF => ?_)
  · refine Ev_p 2 (c' := (49, [some (.ref a0), some (.int x1), some (.int x2)], [.int x1, .ref a0])) rfl ?_
    refine Ez_cv (M := zM227) (As := [.ref a0, .int x1]) (st' := []) (am_site_v (y := 228) (k := 2) (ci := 11) rfl rfl (zrcv rfl h0 rfl)) (Nat.le_of_ble_eq_true rfl) (Nat.le_of_ble_eq_true rfl) rfl rfl (fun _ hF => zf228_ok hK h0 hF) hF (fun s4 hF => ?_)
    refine Ev_p 2 (c' := (54, [some (.ref a0), some (.int x1), some (.int x2)], [.int x1, .ref a0])) rfl ?_
    refine Ez_cv (M := zM227) (As := [.ref a0, .int x1]) (st' := []) (am_site_v (y := 234) (k := 2) (ci := 11) rfl rfl (zrcv rfl h0 rfl)) (Nat.le_of_ble_eq_true rfl) (Nat.le_of_ble_eq_true rfl) rfl rfl (fun _ hF => zf234_ok hK h0 hF) hF (fun s6 hF => ?_)
    refine Ev_p 1 (c' := (58, [some (.ref a0), some (.int x1), some (.int x2)], [.ref a0])) rfl ?_
    refine Ez_gf (M := zM227) (ci := 11) (f := 56) rfl rfl h0 rfl hF (fun v7 hF => ?_)
    refine Ev_p 1 (c' := (63, [some (.ref a0), some (.int x1), some (.int x2)], [.int 26, .int v7])) rfl ?_
    refine Ez_if (M := zM227) (b := 26 < v7) rfl rfl hF (fun _ hF => ?_) (fun _ hF => ?_)
    · refine Ev_p 0 (c' := (90, [some (.ref a0), some (.int x1), some (.int x2)], [])) rfl ?_
      refine Ev_w (L' := [some (.ref a0), none, none]) (zle_c (zle_n (zle_n zle_0))) ?_
      exact zf227_90_ok hK h0 hF
    · refine Ev_p 1 (c' := (67, [some (.ref a0), some (.int x1), some (.int x2)], [.ref a0])) rfl ?_
      refine Ez_gr (M := zM227) (ci := 11) (f := 52) (t := 100) rfl rfl h0 rfl ?_
      refine Ev_p 1 (c' := (71, [some (.ref a0), some (.int x1), some (.int x2)], [.int 0, .ref (zrf a0 52)])) rfl ?_
      refine Ez_al (M := zM227) rfl (zty (ci := 11) (f := 52) (t := 100) h0 rfl) hF (fun v8 hF => ?_)
      refine Ev_p 1 (c' := (75, [some (.ref a0), some (.int x1), some (.int x2)], [.int 300, .int v8])) rfl ?_
      refine Ez_if (M := zM227) (b := 300 < v8) rfl rfl hF (fun _ hF => ?_) (fun _ hF => ?_)
      · refine Ev_p 0 (c' := (90, [some (.ref a0), some (.int x1), some (.int x2)], [])) rfl ?_
        refine Ev_w (L' := [some (.ref a0), none, none]) (zle_c (zle_n (zle_n zle_0))) ?_
        exact zf227_90_ok hK h0 hF
      · refine Ev_p 1 (c' := (79, [some (.ref a0), some (.int x1), some (.int x2)], [.ref a0])) rfl ?_
        refine Ez_gr (M := zM227) (ci := 11) (f := 52) (t := 100) rfl rfl h0 rfl ?_
        refine Ev_p 1 (c' := (83, [some (.ref a0), some (.int x1), some (.int x2)], [.int 1, .ref (zrf a0 52)])) rfl ?_
        refine Ez_al (M := zM227) rfl (zty (ci := 11) (f := 52) (t := 100) h0 rfl) hF (fun v9 hF => ?_)
        refine Ev_p 1 (c' := (87, [some (.ref a0), some (.int x1), some (.int x2)], [.int 300, .int v9])) rfl ?_
        refine Ez_if (M := zM227) (b := v9 ≤ 300) rfl rfl hF (fun _ hF => ?_) (fun _ hF => ?_)
        · refine Ev_p 3 (c' := (99, [some (.ref a0), some (.int x1), some (.int x2)], [.int x2, .int 0, .ref a0])) rfl ?_
          refine Ez_cv (M := zM227) (As := [.ref a0, .int 0, .int x2]) (st' := []) (am_site_v (y := 237) (k := 3) (ci := 11) rfl rfl (zrcv rfl h0 rfl)) (Nat.le_of_ble_eq_true rfl) (Nat.le_of_ble_eq_true rfl) rfl rfl (fun _ hF => zf237_ok hK h0 hF) hF (fun s11 hF => ?_)
          refine Ev_p 3 (c' := (105, [some (.ref a0), some (.int x1), some (.int x2)], [.int x2, .int 1, .ref a0])) rfl ?_
          refine Ez_cv (M := zM227) (As := [.ref a0, .int 1, .int x2]) (st' := []) (am_site_v (y := 237) (k := 3) (ci := 11) rfl rfl (zrcv rfl h0 rfl)) (Nat.le_of_ble_eq_true rfl) (Nat.le_of_ble_eq_true rfl) rfl rfl (fun _ hF => zf237_ok hK h0 hF) hF (fun s13 hF => ?_)
          refine Ev_p 2 (c' := (111, [some (.ref a0), some (.int x1), some (.int x2)], [.ref a0, .int 18])) rfl ?_
          refine Ez_gr (M := zM227) (ci := 11) (f := 54) (t := 100) rfl rfl h0 rfl ?_
          refine Ev_p 1 (c' := (115, [some (.ref a0), some (.int x1), some (.int x2)], [.int 0, .ref (zrf a0 54), .int 18])) rfl ?_
          refine Ez_al (M := zM227) rfl (zty (ci := 11) (f := 54) (t := 100) h0 rfl) hF (fun v14 hF => ?_)
          refine Ev_p 2 (c' := (118, [some (.ref a0), some (.int x1), some (.int x2)], [.ref a0, .int (18 + v14)])) rfl ?_
          refine Ez_gr (M := zM227) (ci := 11) (f := 54) (t := 100) rfl rfl h0 rfl ?_
          refine Ev_p 1 (c' := (122, [some (.ref a0), some (.int x1), some (.int x2)], [.int 1, .ref (zrf a0 54), .int (18 + v14)])) rfl ?_
          refine Ez_al (M := zM227) rfl (zty (ci := 11) (f := 54) (t := 100) h0 rfl) hF (fun v15 hF => ?_)
          refine Ev_p 2 (c' := (127, [some (.ref a0), some (.int x1), some (.int x2)], [.int 480, .int ((18 + v14) + v15)])) rfl ?_
          refine Ez_if (M := zM227) (b := ((18 + v14) + v15) ≤ 480) rfl rfl hF (fun _ hF => ?_) (fun _ hF => ?_)
          · refine Ev_p 2 (c' := (138, [some (.ref a0), some (.int x1), some (.int x2)], [.int 0, .ref a0])) rfl ?_
            refine Ez_pf (M := zM227) (ci := 11) (f := 2) rfl rfl h0 rfl hF (fun s16 hF => ?_)
            refine Ev_p 3 (c' := (144, [some (.ref a0), some (.int x1), some (.int x2)], [.int x2, .int 0, .ref a0])) rfl ?_
            refine Ez_cv (M := zM227) (As := [.ref a0, .int 0, .int x2]) (st' := []) (am_site_v (y := 240) (k := 3) (ci := 11) rfl rfl (zrcv rfl h0 rfl)) (Nat.le_of_ble_eq_true rfl) (Nat.le_of_ble_eq_true rfl) rfl rfl (fun _ hF => zf240_ok hK h0 hF) hF (fun s18 hF => ?_)
            refine Ev_p 3 (c' := (150, [some (.ref a0), some (.int x1), some (.int x2)], [.int x2, .int 1, .ref a0])) rfl ?_
            refine Ez_cv (M := zM227) (As := [.ref a0, .int 1, .int x2]) (st' := []) (am_site_v (y := 240) (k := 3) (ci := 11) rfl rfl (zrcv rfl h0 rfl)) (Nat.le_of_ble_eq_true rfl) (Nat.le_of_ble_eq_true rfl) rfl rfl (fun _ hF => zf240_ok hK h0 hF) hF (fun s20 hF => ?_)
            refine Ev_p 1 (c' := (154, [some (.ref a0), some (.int x1), some (.int x2)], [.ref a0])) rfl ?_
            refine Ez_gf (M := zM227) (ci := 11) (f := 2) rfl rfl h0 rfl hF (fun v21 hF => ?_)
            refine Ev_p 0 (c' := (157, [some (.ref a0), some (.int x1), some (.int x2)], [.int v21])) rfl ?_
            exact Ez_ri (M := zM227) rfl rfl hF
          · refine Ev_p 2 (c' := (132, [some (.ref a0), some (.int x1), some (.int x2)], [.int 3, .ref a0])) rfl ?_
            refine Ez_ci (M := zM227) (As := [.ref a0, .int 3]) (st' := []) (am_site_v (y := 207) (k := 2) (ci := 11) rfl rfl (zrcv rfl h0 rfl)) (Nat.le_of_ble_eq_true rfl) (Nat.le_of_ble_eq_true rfl) rfl rfl (fun _ _ hF => zf207_ok hK h0 hF) hF (fun v22 s23 hF => ?_)
            refine Ev_p 0 (c' := (135, [some (.ref a0), some (.int x1), some (.int x2)], [.int v22])) rfl ?_
            exact Ez_ri (M := zM227) rfl rfl hF
        · refine Ev_p 0 (c' := (90, [some (.ref a0), some (.int x1), some (.int x2)], [])) rfl ?_
          refine Ev_w (L' := [some (.ref a0), none, none]) (zle_c (zle_n (zle_n zle_0))) ?_
          exact zf227_90_ok hK h0 hF
  · refine Ev_p 1 (c' := (46, [some (.ref a0), some (.int x1), some (.int x2)], [.int 0])) rfl ?_
    exact Ez_ri (M := zM227) rfl rfl hF
noncomputable def zf227_21 (a0 : Nat)  (x1 : Int32) (x2 : Int32) (s : zS) : Option (Int32 × zS) :=
  zal s (zrf a0 22) x1 fun v1 =>
  if ¬ v1 = 0 then
    zf227_35 a0 x1 x2 0 s
  else
    zf227_35 a0 x1 x2 2 s
theorem zf227_21_ok {K : cx_K} (hK : Kok K) {lg : Nat → Int64} {v : Int32} {s' : zS} {a0 : Nat} (h0 : zsh a0 = 11)   {x1 : Int32} {x2 : Int32}  {s : zS} (hF : zf227_21 a0 x1 x2 s = some (v, s')) : Ev K zM227 (21, [some (.ref a0), some (.int x1), some (.int x2)], [.ref a0], zmk lg s) 0 (.inl (some (.int v))) (zmk lg s') 0 := by
  unfold zf227_21 at hF
  refine Ev_p 1 (c' := (22, [some (.ref a0), some (.int x1), some (.int x2)], [.ref a0, .ref a0])) rfl ?_
  refine Ez_gr (M := zM227) (ci := 11) (f := 22) (t := 100) rfl rfl h0 rfl ?_
  refine Ev_p 1 (c' := (26, [some (.ref a0), some (.int x1), some (.int x2)], [.int x1, .ref (zrf a0 22), .ref a0])) rfl ?_
  refine Ez_al (M := zM227) rfl (zty (ci := 11) (f := 22) (t := 100) h0 rfl) hF (fun v1 hF => ?_)
  refine Ev_p 0 (c' := (27, [some (.ref a0), some (.int x1), some (.int x2)], [.int v1, .ref a0])) rfl ?_
  refine Ez_if (M := zM227) (b := ¬ v1 = 0) rfl rfl hF (fun _ hF => ?_) (fun _ hF => ?_)
  · refine Ev_p 1 (c' := (35, [some (.ref a0), some (.int x1), some (.int x2)], [.int 0, .ref a0])) rfl ?_
    exact zf227_35_ok hK h0 hF
  · refine Ev_p 2 (c' := (35, [some (.ref a0), some (.int x1), some (.int x2)], [.int 2, .ref a0])) rfl ?_
    exact zf227_35_ok hK h0 hF
noncomputable def zf227 (a0 : Nat) (x1 : Int32) (x2 : Int32) (s : zS) : Option (Int32 × zS) :=
  zbi (zf202 x1 s) fun v1 s2 =>
  if v1 = 0 then
    zf227_35 a0 x1 x2 1 s2
  else
    if x2 = 0 then
      zf227_21 a0 x1 x2 s2
    else
      if x2 = 1 then
        zf227_21 a0 x1 x2 s2
      else
        zf227_35 a0 x1 x2 1 s2
theorem zf227_ok {K : cx_K} (hK : Kok K) {lg : Nat → Int64} {v : Int32} {s' : zS} {a0 : Nat} (h0 : zsh a0 = 11) {x1 : Int32} {x2 : Int32} {s : zS} (hF : zf227 a0 x1 x2 s = some (v, s')) : Ct K 227 [.ref a0, .int x1, .int x2] (zmk lg s) (.inl (some (.int v))) (zmk lg s') 0 := by
  unfold zf227 at hF
  refine Ct_of hK nd_ok227 (mL := 3) (rt := some .int) rfl rfl (Nat.le_of_ble_eq_true rfl) zlen_le ?_
  refine Ev_p 2 (c' := (2, [some (.ref a0), some (.int x1), some (.int x2)], [.int x1, .ref a0])) rfl ?_
  refine Ez_ci (M := zM227) (As := [.int x1]) (st' := [.ref a0]) (zsite_0 (y := 202) (k := 1) (ci := 11) rfl rfl) (Nat.le_of_ble_eq_true rfl) (Nat.le_of_ble_eq_true rfl) rfl rfl (fun _ _ hF => zf202_ok hK  hF) hF (fun v1 s2 hF => ?_)
  refine Ev_p 0 (c' := (5, [some (.ref a0), some (.int x1), some (.int x2)], [.int v1, .ref a0])) rfl ?_
  refine Ez_if (M := zM227) (b := v1 = 0) rfl rfl hF (fun _ hF => ?_) (fun _ hF => ?_)
  · refine Ev_p 2 (c' := (35, [some (.ref a0), some (.int x1), some (.int x2)], [.int 1, .ref a0])) rfl ?_
    exact zf227_35_ok hK h0 hF
  · refine Ev_p 1 (c' := (9, [some (.ref a0), some (.int x1), some (.int x2)], [.int x2, .ref a0])) rfl ?_
    refine Ez_if (M := zM227) (b := x2 = 0) rfl rfl hF (fun _ hF => ?_) (fun _ hF => ?_)
    · refine Ev_p 0 (c' := (21, [some (.ref a0), some (.int x1), some (.int x2)], [.ref a0])) rfl ?_
      exact zf227_21_ok hK h0 hF
    · refine Ev_p 2 (c' := (14, [some (.ref a0), some (.int x1), some (.int x2)], [.int 1, .int x2, .ref a0])) rfl ?_
      refine Ez_if (M := zM227) (b := x2 = 1) rfl rfl hF (fun _ hF => ?_) (fun _ hF => ?_)
      · refine Ev_p 0 (c' := (21, [some (.ref a0), some (.int x1), some (.int x2)], [.ref a0])) rfl ?_
        exact zf227_21_ok hK h0 hF
      · refine Ev_p 2 (c' := (35, [some (.ref a0), some (.int x1), some (.int x2)], [.int 1, .ref a0])) rfl ?_
        exact zf227_35_ok hK h0 hF

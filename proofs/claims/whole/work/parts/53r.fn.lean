/-! The methods as functions, and that the machine goes so (printed by wip/gen/fgen.py). -/
set_option maxRecDepth 100000
set_option linter.unusedVariables false
-- PaperParcelsModel.giveLook(II)V
abbrev zM192 : ev_M := (am_in nd_i192, am_fl nd_f11, am_ct nd_k11, am_sl nd_ml nd_s192, fun _ => none, none)
noncomputable def zf192_2 (a0 : Nat)  : Nat → Int32 → Int32 → Int32 → zS → Option (zS)
  | 0, _, _, _, _ => none
  | n + 1, x1, x2, x3, s =>
    if 3 ≤ x3 then
      some s
    else
      zbi (zf193 a0 x2 x3 s) fun v1 s2 =>
      zas s2 (zrf a0 25) ((3 * x1) + x3) v1 fun s3 =>
      zf192_2 a0 n x1 x2 (x3 + 1) s3
theorem zf192_2_ok {K : cx_K} (hK : Kok K) {lg : Nat → Int64} {s' : zS} {a0 : Nat} (h0 : zsh a0 = 11)   {n : Nat} : ∀ {x1 : Int32} {x2 : Int32} {x3 : Int32} {s : zS}, zf192_2 a0 n x1 x2 x3 s = some s' → Ev K zM192 (2, [some (.ref a0), some (.int x1), some (.int x2), some (.int x3)], [], zmk lg s) 0 (.inl none) (zmk lg s') 0 := by
  induction n with
  | zero => intro x1 x2 x3 s hF; rw [zf192_2] at hF; cases hF
  | succ n ih =>
    intro x1 x2 x3 s hF
    rw [zf192_2] at hF
    refine Ev_p 2 (c' := (4, [some (.ref a0), some (.int x1), some (.int x2), some (.int x3)], [.int 3, .int x3])) rfl ?_
    refine Ez_if (M := zM192) (b := 3 ≤ x3) rfl rfl hF (fun _ hF => ?_) (fun _ hF => ?_)
    · refine Ev_p 0 (c' := (29, [some (.ref a0), some (.int x1), some (.int x2), some (.int x3)], [])) rfl ?_
      exact Ez_rv (M := zM192) rfl rfl hF
    · refine Ev_p 1 (c' := (8, [some (.ref a0), some (.int x1), some (.int x2), some (.int x3)], [.ref a0])) rfl ?_
      refine Ez_gr (M := zM192) (ci := 11) (f := 25) (t := 100) rfl rfl h0 rfl ?_
      refine Ev_p 8 (c' := (19, [some (.ref a0), some (.int x1), some (.int x2), some (.int x3)], [.int x3, .int x2, .ref a0, .int ((3 * x1) + x3), .ref (zrf a0 25)])) rfl ?_
      refine Ez_ci (M := zM192) (As := [.ref a0, .int x2, .int x3]) (st' := [.int ((3 * x1) + x3), .ref (zrf a0 25)]) (am_site_v (y := 193) (k := 3) (ci := 11) rfl rfl (zrcv rfl h0 rfl)) (Nat.le_of_ble_eq_true rfl) (Nat.le_of_ble_eq_true rfl) rfl rfl (fun _ _ hF => zf193_ok hK h0 hF) hF (fun v1 s2 hF => ?_)
      refine Ev_p 0 (c' := (22, [some (.ref a0), some (.int x1), some (.int x2), some (.int x3)], [.int v1, .int ((3 * x1) + x3), .ref (zrf a0 25)])) rfl ?_
      refine Ez_as (M := zM192) rfl (zty (ci := 11) (f := 25) (t := 100) h0 rfl) hF (fun s3 hF => ?_)
      refine Ev_p 2 (c' := (2, [some (.ref a0), some (.int x1), some (.int x2), some (.int (x3 + 1))], [])) rfl ?_
      exact ih hF
noncomputable def zf192 (a0 : Nat) (x1 : Int32) (x2 : Int32) (s : zS) : Option (zS) :=
  zf192_2 a0 zfz x1 x2 0 s
theorem zf192_ok {K : cx_K} (hK : Kok K) {lg : Nat → Int64} {s' : zS} {a0 : Nat} (h0 : zsh a0 = 11) {x1 : Int32} {x2 : Int32} {s : zS} (hF : zf192 a0 x1 x2 s = some s') : Ct K 192 [.ref a0, .int x1, .int x2] (zmk lg s) (.inl none) (zmk lg s') 0 := by
  unfold zf192 at hF
  refine Ct_of hK nd_ok192 (mL := 4) (rt := none) rfl rfl (Nat.le_of_ble_eq_true rfl) zlen_le ?_
  refine Ev_p 2 (c' := (2, [some (.ref a0), some (.int x1), some (.int x2), some (.int 0)], [])) rfl ?_
  exact zf192_2_ok hK h0 hF
-- PaperParcelsModel.paragraphOf(I)I
abbrev zM195 : ev_M := (am_in nd_i195, am_fl nd_f11, am_ct nd_k11, am_sl nd_ml nd_s195, fun _ => none, some .int)
noncomputable def zf195_2 (a0 : Nat)  : Nat → Int32 → zS → Option (Int32 × zS)
  | 0, _, _ => none
  | n + 1, x2, s =>
    zal s (zrf a0 10) (30 + x2) fun v1 =>
    if ¬ v1 = 120 then
      some (x2, s)
    else
      zal s (zrf a0 12) (30 + x2) fun v2 =>
      zf195_2 a0 n v2 s
theorem zf195_2_ok {K : cx_K} (hK : Kok K) {lg : Nat → Int64} {v : Int32} {s' : zS} {a0 : Nat} (h0 : zsh a0 = 11)   {n : Nat} : ∀ {x2 : Int32} {s : zS}, zf195_2 a0 n x2 s = some (v, s') → Ev K zM195 (2, [some (.ref a0), none, some (.int x2)], [], zmk lg s) 0 (.inl (some (.int v))) (zmk lg s') 0 := by
  induction n with
  | zero => intro x2 s hF; rw [zf195_2] at hF; cases hF
  | succ n ih =>
    intro x2 s hF
    rw [zf195_2] at hF
    refine Ev_p 1 (c' := (3, [some (.ref a0), none, some (.int x2)], [.ref a0])) rfl ?_
    refine Ez_gr (M := zM195) (ci := 11) (f := 10) (t := 100) rfl rfl h0 rfl ?_
    refine Ev_p 3 (c' := (10, [some (.ref a0), none, some (.int x2)], [.int (30 + x2), .ref (zrf a0 10)])) rfl ?_
    refine Ez_al (M := zM195) rfl (zty (ci := 11) (f := 10) (t := 100) h0 rfl) hF (fun v1 hF => ?_)
    refine Ev_p 1 (c' := (13, [some (.ref a0), none, some (.int x2)], [.int 120, .int v1])) rfl ?_
    refine Ez_if (M := zM195) (b := ¬ v1 = 120) rfl rfl hF (fun _ hF => ?_) (fun _ hF => ?_)
    · refine Ev_p 1 (c' := (30, [some (.ref a0), none, some (.int x2)], [.int x2])) rfl ?_
      exact Ez_ri (M := zM195) rfl rfl hF
    · refine Ev_p 1 (c' := (17, [some (.ref a0), none, some (.int x2)], [.ref a0])) rfl ?_
      refine Ez_gr (M := zM195) (ci := 11) (f := 12) (t := 100) rfl rfl h0 rfl ?_
      refine Ev_p 3 (c' := (24, [some (.ref a0), none, some (.int x2)], [.int (30 + x2), .ref (zrf a0 12)])) rfl ?_
      refine Ez_al (M := zM195) rfl (zty (ci := 11) (f := 12) (t := 100) h0 rfl) hF (fun v2 hF => ?_)
      refine Ev_p 2 (c' := (2, [some (.ref a0), none, some (.int v2)], [])) rfl ?_
      exact ih hF
noncomputable def zf195 (a0 : Nat) (x1 : Int32) (s : zS) : Option (Int32 × zS) :=
  zf195_2 a0 zfz x1 s
theorem zf195_ok {K : cx_K} (hK : Kok K) {lg : Nat → Int64} {v : Int32} {s' : zS} {a0 : Nat} (h0 : zsh a0 = 11) {x1 : Int32} {s : zS} (hF : zf195 a0 x1 s = some (v, s')) : Ct K 195 [.ref a0, .int x1] (zmk lg s) (.inl (some (.int v))) (zmk lg s') 0 := by
  unfold zf195 at hF
  refine Ct_of hK nd_ok195 (mL := 3) (rt := some .int) rfl rfl (Nat.le_of_ble_eq_true rfl) zlen_le ?_
  refine Ev_p 2 (c' := (2, [some (.ref a0), some (.int x1), some (.int x1)], [])) rfl ?_
  refine Ev_w (L' := [some (.ref a0), none, some (.int x1)]) (zle_c (zle_n (zle_c zle_0))) ?_
  exact zf195_2_ok hK h0 hF
-- PaperParcelsModel.hasLook(II)Z
abbrev zM196 : ev_M := (am_in nd_i196, am_fl nd_f11, am_ct nd_k11, am_sl nd_ml nd_s196, fun _ => none, some .boolean)
noncomputable def zf196_5 (a0 : Nat)  : Nat → Int32 → Int32 → Int32 → Int32 → zS → Option (Int32 × zS)
  | 0, _, _, _, _, _ => none
  | n + 1, x1, x2, x3, x4, s =>
    if 3 ≤ x4 then
      zrb x3 s
    else
      if x3 = 0 then
        zf196_5 a0 n x1 x2 0 (x4 + 1) s
      else
        zal s (zrf a0 25) ((3 * x1) + x4) fun v1 =>
        zbi (zf193 a0 x2 x4 s) fun v2 s3 =>
        if ¬ v1 = v2 then
          zf196_5 a0 n x1 x2 0 (x4 + 1) s3
        else
          zf196_5 a0 n x1 x2 1 (x4 + 1) s3
theorem zf196_5_ok {K : cx_K} (hK : Kok K) {lg : Nat → Int64} {v : Int32} {s' : zS} {a0 : Nat} (h0 : zsh a0 = 11)   {n : Nat} : ∀ {x1 : Int32} {x2 : Int32} {x3 : Int32} {x4 : Int32} {s : zS}, zf196_5 a0 n x1 x2 x3 x4 s = some (v, s') → Ev K zM196 (5, [some (.ref a0), some (.int x1), some (.int x2), some (.int x3), some (.int x4)], [], zmk lg s) 0 (.inl (some (.int v))) (zmk lg s') 0 := by
  induction n with
  | zero => intro x1 x2 x3 x4 s hF; rw [zf196_5] at hF; cases hF
  | succ n ih =>
    intro x1 x2 x3 x4 s hF
    rw [zf196_5] at hF
    refine Ev_p 2 (c' := (8, [some (.ref a0), some (.int x1), some (.int x2), some (.int x3), some (.int x4)], [.int 3, .int x4])) rfl ?_
    refine Ez_if (M := zM196) (b := 3 ≤ x4) rfl rfl hF (fun _ hF => ?_) (fun _ hF => ?_)
    · refine Ev_p 1 (c' := (49, [some (.ref a0), some (.int x1), some (.int x2), some (.int x3), some (.int x4)], [.int x3])) rfl ?_
      exact Ez_rb (M := zM196) rfl rfl hF
    · refine Ev_p 1 (c' := (12, [some (.ref a0), some (.int x1), some (.int x2), some (.int x3), some (.int x4)], [.int x3])) rfl ?_
      refine Ez_if (M := zM196) (b := x3 = 0) rfl rfl hF (fun _ hF => ?_) (fun _ hF => ?_)
      · refine Ev_p 4 (c' := (5, [some (.ref a0), some (.int x1), some (.int x2), some (.int 0), some (.int (x4 + 1))], [])) rfl ?_
        exact ih hF
      · refine Ev_p 1 (c' := (16, [some (.ref a0), some (.int x1), some (.int x2), some (.int x3), some (.int x4)], [.ref a0])) rfl ?_
        refine Ez_gr (M := zM196) (ci := 11) (f := 25) (t := 100) rfl rfl h0 rfl ?_
        refine Ev_p 5 (c' := (25, [some (.ref a0), some (.int x1), some (.int x2), some (.int x3), some (.int x4)], [.int ((3 * x1) + x4), .ref (zrf a0 25)])) rfl ?_
        refine Ez_al (M := zM196) rfl (zty (ci := 11) (f := 25) (t := 100) h0 rfl) hF (fun v1 hF => ?_)
        refine Ev_p 3 (c' := (30, [some (.ref a0), some (.int x1), some (.int x2), some (.int x3), some (.int x4)], [.int x4, .int x2, .ref a0, .int v1])) rfl ?_
        refine Ez_ci (M := zM196) (As := [.ref a0, .int x2, .int x4]) (st' := [.int v1]) (am_site_v (y := 193) (k := 3) (ci := 11) rfl rfl (zrcv rfl h0 rfl)) (Nat.le_of_ble_eq_true rfl) (Nat.le_of_ble_eq_true rfl) rfl rfl (fun _ _ hF => zf193_ok hK h0 hF) hF (fun v2 s3 hF => ?_)
        refine Ev_p 0 (c' := (33, [some (.ref a0), some (.int x1), some (.int x2), some (.int x3), some (.int x4)], [.int v2, .int v1])) rfl ?_
        refine Ez_if (M := zM196) (b := ¬ v1 = v2) rfl rfl hF (fun _ hF => ?_) (fun _ hF => ?_)
        · refine Ev_p 4 (c' := (5, [some (.ref a0), some (.int x1), some (.int x2), some (.int 0), some (.int (x4 + 1))], [])) rfl ?_
          exact ih hF
        · refine Ev_p 5 (c' := (5, [some (.ref a0), some (.int x1), some (.int x2), some (.int 1), some (.int (x4 + 1))], [])) rfl ?_
          exact ih hF
noncomputable def zf196 (a0 : Nat) (x1 : Int32) (x2 : Int32) (s : zS) : Option (Int32 × zS) :=
  zf196_5 a0 zfz x1 x2 1 0 s
theorem zf196_ok {K : cx_K} (hK : Kok K) {lg : Nat → Int64} {v : Int32} {s' : zS} {a0 : Nat} (h0 : zsh a0 = 11) {x1 : Int32} {x2 : Int32} {s : zS} (hF : zf196 a0 x1 x2 s = some (v, s')) : Ct K 196 [.ref a0, .int x1, .int x2] (zmk lg s) (.inl (some (.int v))) (zmk lg s') 0 := by
  unfold zf196 at hF
  refine Ct_of hK nd_ok196 (mL := 5) (rt := some .boolean) rfl rfl (Nat.le_of_ble_eq_true rfl) zlen_le ?_
  refine Ev_p 4 (c' := (5, [some (.ref a0), some (.int x1), some (.int x2), some (.int 1), some (.int 0)], [])) rfl ?_
  exact zf196_5_ok hK h0 hF
-- PaperParcelsModel.addLetter(II)V
abbrev zM197 : ev_M := (am_in nd_i197, am_fl nd_f11, am_ct nd_k11, am_sl nd_ml nd_s197, fun _ => none, none)
noncomputable def zf197 (a0 : Nat) (x1 : Int32) (x2 : Int32) (s : zS) : Option (zS) :=
  zal s (zrf a0 28) x1 fun v1 =>
  zas s (zrf a0 29) ((700 * x1) + v1) x2 fun s2 =>
  zal s2 (zrf a0 28) x1 fun v3 =>
  zas s2 (zrf a0 28) x1 (v3 + 1) fun s4 =>
  zal s4 (zrf a0 22) x1 fun v5 =>
  zal s4 (zrf a0 27) (((100 * x1) + v5) - 1) fun v6 =>
  zas s4 (zrf a0 27) (((100 * x1) + v5) - 1) (v6 + 1) fun s7 =>
  some s7
theorem zf197_ok {K : cx_K} (hK : Kok K) {lg : Nat → Int64} {s' : zS} {a0 : Nat} (h0 : zsh a0 = 11) {x1 : Int32} {x2 : Int32} {s : zS} (hF : zf197 a0 x1 x2 s = some s') : Ct K 197 [.ref a0, .int x1, .int x2] (zmk lg s) (.inl none) (zmk lg s') 0 := by
  unfold zf197 at hF
  refine Ct_of hK nd_ok197 (mL := 3) (rt := none) rfl rfl (Nat.le_of_ble_eq_true rfl) zlen_le ?_
  refine Ev_p 1 (c' := (1, [some (.ref a0), some (.int x1), some (.int x2)], [.ref a0])) rfl ?_
  refine Ez_gr (M := zM197) (ci := 11) (f := 29) (t := 100) rfl rfl h0 rfl ?_
  refine Ev_p 4 (c' := (10, [some (.ref a0), some (.int x1), some (.int x2)], [.ref a0, .int (700 * x1), .ref (zrf a0 29)])) rfl ?_
  refine Ez_gr (M := zM197) (ci := 11) (f := 28) (t := 100) rfl rfl h0 rfl ?_
  refine Ev_p 1 (c' := (14, [some (.ref a0), some (.int x1), some (.int x2)], [.int x1, .ref (zrf a0 28), .int (700 * x1), .ref (zrf a0 29)])) rfl ?_
  refine Ez_al (M := zM197) rfl (zty (ci := 11) (f := 28) (t := 100) h0 rfl) hF (fun v1 hF => ?_)
  refine Ev_p 2 (c' := (17, [some (.ref a0), some (.int x1), some (.int x2)], [.int x2, .int ((700 * x1) + v1), .ref (zrf a0 29)])) rfl ?_
  refine Ez_as (M := zM197) rfl (zty (ci := 11) (f := 29) (t := 100) h0 rfl) hF (fun s2 hF => ?_)
  refine Ev_p 1 (c' := (19, [some (.ref a0), some (.int x1), some (.int x2)], [.ref a0])) rfl ?_
  refine Ez_gr (M := zM197) (ci := 11) (f := 28) (t := 100) rfl rfl h0 rfl ?_
  refine Ev_p 2 (c' := (24, [some (.ref a0), some (.int x1), some (.int x2)], [.int x1, .ref (zrf a0 28), .int x1, .ref (zrf a0 28)])) rfl ?_
  refine Ez_al (M := zM197) rfl (zty (ci := 11) (f := 28) (t := 100) h0 rfl) hF (fun v3 hF => ?_)
  refine Ev_p 2 (c' := (27, [some (.ref a0), some (.int x1), some (.int x2)], [.int (v3 + 1), .int x1, .ref (zrf a0 28)])) rfl ?_
  refine Ez_as (M := zM197) rfl (zty (ci := 11) (f := 28) (t := 100) h0 rfl) hF (fun s4 hF => ?_)
  refine Ev_p 1 (c' := (29, [some (.ref a0), some (.int x1), some (.int x2)], [.ref a0])) rfl ?_
  refine Ez_gr (M := zM197) (ci := 11) (f := 27) (t := 100) rfl rfl h0 rfl ?_
  refine Ev_p 4 (c' := (37, [some (.ref a0), some (.int x1), some (.int x2)], [.ref a0, .int (100 * x1), .ref (zrf a0 27)])) rfl ?_
  refine Ez_gr (M := zM197) (ci := 11) (f := 22) (t := 100) rfl rfl h0 rfl ?_
  refine Ev_p 1 (c' := (41, [some (.ref a0), some (.int x1), some (.int x2)], [.int x1, .ref (zrf a0 22), .int (100 * x1), .ref (zrf a0 27)])) rfl ?_
  refine Ez_al (M := zM197) rfl (zty (ci := 11) (f := 22) (t := 100) h0 rfl) hF (fun v5 hF => ?_)
  refine Ev_p 4 (c' := (46, [some (.ref a0), some (.int x1), some (.int x2)], [.int (((100 * x1) + v5) - 1), .ref (zrf a0 27), .int (((100 * x1) + v5) - 1), .ref (zrf a0 27)])) rfl ?_
  refine Ez_al (M := zM197) rfl (zty (ci := 11) (f := 27) (t := 100) h0 rfl) hF (fun v6 hF => ?_)
  refine Ev_p 2 (c' := (49, [some (.ref a0), some (.int x1), some (.int x2)], [.int (v6 + 1), .int (((100 * x1) + v5) - 1), .ref (zrf a0 27)])) rfl ?_
  refine Ez_as (M := zM197) rfl (zty (ci := 11) (f := 27) (t := 100) h0 rfl) hF (fun s7 hF => ?_)
  refine Ev_p 0 (c' := (50, [some (.ref a0), some (.int x1), some (.int x2)], [])) rfl ?_
  exact Ez_rv (M := zM197) rfl rfl hF
-- PaperParcelsModel.formParagraph(I)V
abbrev zM191 : ev_M := (am_in nd_i191, am_fl nd_f11, am_ct nd_k11, am_sl nd_ml nd_s191, fun _ => none, none)
noncomputable def zf191_113 (a0 : Nat) (k21 : Int32 → Int32 → Int32 → zS → Option (zS)) (x1 : Int32) (x2 : Int32) (x3 : Int32) (s : zS) : Option (zS) :=
  zal s (zrf a0 7) (300 + x3) fun v1 =>
  zbv (zf197 a0 3 v1 s) fun s3 =>
  k21 x1 x2 (x3 + 1) s3
theorem zf191_113_ok {K : cx_K} (hK : Kok K) {lg : Nat → Int64} {s' : zS} {a0 : Nat} (h0 : zsh a0 = 11) {k21 : Int32 → Int32 → Int32 → zS → Option (zS)} (hk21 : ∀ x1 x2 x3 s, k21 x1 x2 x3 s = some s' → Ev K zM191 (21, [some (.ref a0), some (.int x1), some (.int x2), some (.int x3), none, none], [], zmk lg s) 0 (.inl none) (zmk lg s') 0) {x1 : Int32} {x2 : Int32} {x3 : Int32}  {s : zS} (hF : zf191_113 a0 k21 x1 x2 x3 s = some s') : Ev K zM191 (113, [some (.ref a0), some (.int x1), some (.int x2), some (.int x3), none, none], [], zmk lg s) 0 (.inl none) (zmk lg s') 0 := by
  unfold zf191_113 at hF
  refine Ev_p 3 (c' := (116, [some (.ref a0), some (.int x1), some (.int x2), some (.int x3), none, none], [.ref a0, .int 3, .ref a0])) rfl ?_
  refine Ez_gr (M := zM191) (ci := 11) (f := 7) (t := 100) rfl rfl h0 rfl ?_
  refine Ev_p 3 (c' := (124, [some (.ref a0), some (.int x1), some (.int x2), some (.int x3), none, none], [.int (300 + x3), .ref (zrf a0 7), .int 3, .ref a0])) rfl ?_
  refine Ez_al (M := zM191) rfl (zty (ci := 11) (f := 7) (t := 100) h0 rfl) hF (fun v1 hF => ?_)
  refine Ev_p 0 (c' := (125, [some (.ref a0), some (.int x1), some (.int x2), some (.int x3), none, none], [.int v1, .int 3, .ref a0])) rfl ?_
  refine Ez_cv (M := zM191) (As := [.ref a0, .int 3, .int v1]) (st' := []) (am_site_v (y := 197) (k := 3) (ci := 11) rfl rfl (zrcv rfl h0 rfl)) (Nat.le_of_ble_eq_true rfl) (Nat.le_of_ble_eq_true rfl) rfl rfl (fun _ hF => zf197_ok hK h0 hF) hF (fun s3 hF => ?_)
  refine Ev_p 2 (c' := (21, [some (.ref a0), some (.int x1), some (.int x2), some (.int (x3 + 1)), none, none], [])) rfl ?_
  exact hk21 _ _ _ _ hF
noncomputable def zf191_94 (a0 : Nat) (k21 : Int32 → Int32 → Int32 → zS → Option (zS)) (x1 : Int32) (x2 : Int32) (x3 : Int32) (x4 : Int32) (x5 : Int32) (s : zS) : Option (zS) :=
  zbv (zf190 a0 3 2 (x2 - 1) s) fun s2 =>
  zbv (zf192 a0 (x5 + 1) x4 s2) fun s4 =>
  zf191_113 a0 k21 x1 x2 x3 s4
theorem zf191_94_ok {K : cx_K} (hK : Kok K) {lg : Nat → Int64} {s' : zS} {a0 : Nat} (h0 : zsh a0 = 11) {k21 : Int32 → Int32 → Int32 → zS → Option (zS)} (hk21 : ∀ x1 x2 x3 s, k21 x1 x2 x3 s = some s' → Ev K zM191 (21, [some (.ref a0), some (.int x1), some (.int x2), some (.int x3), none, none], [], zmk lg s) 0 (.inl none) (zmk lg s') 0) {x1 : Int32} {x2 : Int32} {x3 : Int32} {x4 : Int32} {x5 : Int32}  {s : zS} (hF : zf191_94 a0 k21 x1 x2 x3 x4 x5 s = some s') : Ev K zM191 (94, [some (.ref a0), some (.int x1), some (.int x2), some (.int x3), some (.int x4), some (.int x5)], [], zmk lg s) 0 (.inl none) (zmk lg s') 0 := by
  unfold zf191_94 at hF
  refine Ev_p 6 (c' := (100, [some (.ref a0), some (.int x1), some (.int x2), some (.int x3), some (.int x4), some (.int x5)], [.int (x2 - 1), .int 2, .int 3, .ref a0])) rfl ?_
  refine Ez_cv (M := zM191) (As := [.ref a0, .int 3, .int 2, .int (x2 - 1)]) (st' := []) (am_site_v (y := 190) (k := 4) (ci := 11) rfl rfl (zrcv rfl h0 rfl)) (Nat.le_of_ble_eq_true rfl) (Nat.le_of_ble_eq_true rfl) rfl rfl (fun _ hF => zf190_ok hK h0 hF) hF (fun s2 hF => ?_)
  refine Ev_p 5 (c' := (110, [some (.ref a0), some (.int x1), some (.int x2), some (.int x3), some (.int x4), some (.int x5)], [.int x4, .int (x5 + 1), .ref a0])) rfl ?_
  refine Ez_cv (M := zM191) (As := [.ref a0, .int (x5 + 1), .int x4]) (st' := []) (am_site_v (y := 192) (k := 3) (ci := 11) rfl rfl (zrcv rfl h0 rfl)) (Nat.le_of_ble_eq_true rfl) (Nat.le_of_ble_eq_true rfl) rfl rfl (fun _ hF => zf192_ok hK h0 hF) hF (fun s4 hF => ?_)
  refine Ev_p 0 (c' := (113, [some (.ref a0), some (.int x1), some (.int x2), some (.int x3), some (.int x4), some (.int x5)], [])) rfl ?_
  refine Ev_w (L' := [some (.ref a0), some (.int x1), some (.int x2), some (.int x3), none, none]) (zle_c (zle_c (zle_c (zle_c (zle_n (zle_n zle_0)))))) ?_
  exact zf191_113_ok hK h0 hk21 hF
noncomputable def zf191_21 (a0 : Nat)  : Nat → Int32 → Int32 → Int32 → zS → Option (zS)
  | 0, _, _, _, _ => none
  | n + 1, x1, x2, x3, s =>
    zal s (zrf a0 8) 1 fun v1 =>
    if v1 ≤ x3 then
      some s
    else
      zal s (zrf a0 13) (300 + x3) fun v2 =>
      if v2 < 0 then
        zf191_21 a0 n x1 x2 (x3 + 1) s
      else
        zbi (zf195 a0 v2 s) fun v3 s4 =>
        if ¬ v3 = x1 then
          zf191_21 a0 n x1 x2 (x3 + 1) s4
        else
          zal s4 (zrf a0 22) 3 fun v5 =>
          zal s4 (zrf a0 23) ((300 + v5) - 1) fun v6 =>
          if ¬ v6 = 2 then
            zf191_94 a0 (zf191_21 a0 n) x1 x2 x3 v2 ((300 + v5) - 1) s4
          else
            zbi (zf196 a0 ((300 + v5) - 1) v2 s4) fun v7 s8 =>
            if ¬ v7 = 0 then
              zf191_113 a0 (zf191_21 a0 n) x1 x2 x3 s8
            else
              zf191_94 a0 (zf191_21 a0 n) x1 x2 x3 v2 ((300 + v5) - 1) s8
theorem zf191_21_ok {K : cx_K} (hK : Kok K) {lg : Nat → Int64} {s' : zS} {a0 : Nat} (h0 : zsh a0 = 11)   {n : Nat} : ∀ {x1 : Int32} {x2 : Int32} {x3 : Int32} {s : zS}, zf191_21 a0 n x1 x2 x3 s = some s' → Ev K zM191 (21, [some (.ref a0), some (.int x1), some (.int x2), some (.int x3), none, none], [], zmk lg s) 0 (.inl none) (zmk lg s') 0 := by
  induction n with
  | zero => intro x1 x2 x3 s hF; rw [zf191_21] at hF; cases hF
  | succ n ih =>
    intro x1 x2 x3 s hF
    rw [zf191_21] at hF
    refine Ev_p 2 (c' := (23, [some (.ref a0), some (.int x1), some (.int x2), some (.int x3), none, none], [.ref a0, .int x3])) rfl ?_
    refine Ez_gr (M := zM191) (ci := 11) (f := 8) (t := 100) rfl rfl h0 rfl ?_
    refine Ev_p 1 (c' := (27, [some (.ref a0), some (.int x1), some (.int x2), some (.int x3), none, none], [.int 1, .ref (zrf a0 8), .int x3])) rfl ?_
    refine Ez_al (M := zM191) rfl (zty (ci := 11) (f := 8) (t := 100) h0 rfl) hF (fun v1 hF => ?_)
    refine Ev_p 0 (c' := (28, [some (.ref a0), some (.int x1), some (.int x2), some (.int x3), none, none], [.int v1, .int x3])) rfl ?_
    refine Ez_if (M := zM191) (b := v1 ≤ x3) rfl rfl hF (fun _ hF => ?_) (fun _ hF => ?_)
    · refine Ev_p 0 (c' := (134, [some (.ref a0), some (.int x1), some (.int x2), some (.int x3), none, none], [])) rfl ?_
      exact Ez_rv (M := zM191) rfl rfl hF
    · refine Ev_p 1 (c' := (32, [some (.ref a0), some (.int x1), some (.int x2), some (.int x3), none, none], [.ref a0])) rfl ?_
      refine Ez_gr (M := zM191) (ci := 11) (f := 13) (t := 100) rfl rfl h0 rfl ?_
      refine Ev_p 3 (c' := (40, [some (.ref a0), some (.int x1), some (.int x2), some (.int x3), none, none], [.int (300 + x3), .ref (zrf a0 13)])) rfl ?_
      refine Ez_al (M := zM191) rfl (zty (ci := 11) (f := 13) (t := 100) h0 rfl) hF (fun v2 hF => ?_)
      refine Ev_p 2 (c' := (45, [some (.ref a0), some (.int x1), some (.int x2), some (.int x3), some (.int v2), none], [.int v2])) rfl ?_
      refine Ez_if (M := zM191) (b := v2 < 0) rfl rfl hF (fun _ hF => ?_) (fun _ hF => ?_)
      · refine Ev_p 2 (c' := (21, [some (.ref a0), some (.int x1), some (.int x2), some (.int (x3 + 1)), some (.int v2), none], [])) rfl ?_
        refine Ev_w (L' := [some (.ref a0), some (.int x1), some (.int x2), some (.int (x3 + 1)), none, none]) (zle_c (zle_c (zle_c (zle_c (zle_n (zle_c zle_0)))))) ?_
        exact ih hF
      · refine Ev_p 2 (c' := (51, [some (.ref a0), some (.int x1), some (.int x2), some (.int x3), some (.int v2), none], [.int v2, .ref a0])) rfl ?_
        refine Ez_ci (M := zM191) (As := [.ref a0, .int v2]) (st' := []) (am_site_v (y := 195) (k := 2) (ci := 11) rfl rfl (zrcv rfl h0 rfl)) (Nat.le_of_ble_eq_true rfl) (Nat.le_of_ble_eq_true rfl) rfl rfl (fun _ _ hF => zf195_ok hK h0 hF) hF (fun v3 s4 hF => ?_)
        refine Ev_p 1 (c' := (55, [some (.ref a0), some (.int x1), some (.int x2), some (.int x3), some (.int v2), none], [.int x1, .int v3])) rfl ?_
        refine Ez_if (M := zM191) (b := ¬ v3 = x1) rfl rfl hF (fun _ hF => ?_) (fun _ hF => ?_)
        · refine Ev_p 2 (c' := (21, [some (.ref a0), some (.int x1), some (.int x2), some (.int (x3 + 1)), some (.int v2), none], [])) rfl ?_
          refine Ev_w (L' := [some (.ref a0), some (.int x1), some (.int x2), some (.int (x3 + 1)), none, none]) (zle_c (zle_c (zle_c (zle_c (zle_n (zle_c zle_0)))))) ?_
          exact ih hF
        · refine Ev_p 2 (c' := (62, [some (.ref a0), some (.int x1), some (.int x2), some (.int x3), some (.int v2), none], [.ref a0, .int 300])) rfl ?_
          refine Ez_gr (M := zM191) (ci := 11) (f := 22) (t := 100) rfl rfl h0 rfl ?_
          refine Ev_p 1 (c' := (66, [some (.ref a0), some (.int x1), some (.int x2), some (.int x3), some (.int v2), none], [.int 3, .ref (zrf a0 22), .int 300])) rfl ?_
          refine Ez_al (M := zM191) rfl (zty (ci := 11) (f := 22) (t := 100) h0 rfl) hF (fun v5 hF => ?_)
          refine Ev_p 5 (c' := (73, [some (.ref a0), some (.int x1), some (.int x2), some (.int x3), some (.int v2), some (.int ((300 + v5) - 1))], [.ref a0])) rfl ?_
          refine Ez_gr (M := zM191) (ci := 11) (f := 23) (t := 100) rfl rfl h0 rfl ?_
          refine Ev_p 1 (c' := (78, [some (.ref a0), some (.int x1), some (.int x2), some (.int x3), some (.int v2), some (.int ((300 + v5) - 1))], [.int ((300 + v5) - 1), .ref (zrf a0 23)])) rfl ?_
          refine Ez_al (M := zM191) rfl (zty (ci := 11) (f := 23) (t := 100) h0 rfl) hF (fun v6 hF => ?_)
          refine Ev_p 1 (c' := (80, [some (.ref a0), some (.int x1), some (.int x2), some (.int x3), some (.int v2), some (.int ((300 + v5) - 1))], [.int 2, .int v6])) rfl ?_
          refine Ez_if (M := zM191) (b := ¬ v6 = 2) rfl rfl hF (fun _ hF => ?_) (fun _ hF => ?_)
          · refine Ev_p 0 (c' := (94, [some (.ref a0), some (.int x1), some (.int x2), some (.int x3), some (.int v2), some (.int ((300 + v5) - 1))], [])) rfl ?_
            exact zf191_94_ok hK h0 (fun _ _ _ _ hF => ih hF) hF
          · refine Ev_p 3 (c' := (88, [some (.ref a0), some (.int x1), some (.int x2), some (.int x3), some (.int v2), some (.int ((300 + v5) - 1))], [.int v2, .int ((300 + v5) - 1), .ref a0])) rfl ?_
            refine Ez_ci (M := zM191) (As := [.ref a0, .int ((300 + v5) - 1), .int v2]) (st' := []) (am_site_v (y := 196) (k := 3) (ci := 11) rfl rfl (zrcv rfl h0 rfl)) (Nat.le_of_ble_eq_true rfl) (Nat.le_of_ble_eq_true rfl) rfl rfl (fun _ _ hF => zf196_ok hK h0 hF) hF (fun v7 s8 hF => ?_)
            refine Ev_p 0 (c' := (91, [some (.ref a0), some (.int x1), some (.int x2), some (.int x3), some (.int v2), some (.int ((300 + v5) - 1))], [.int v7])) rfl ?_
            refine Ez_if (M := zM191) (b := ¬ v7 = 0) rfl rfl hF (fun _ hF => ?_) (fun _ hF => ?_)
            · refine Ev_p 0 (c' := (113, [some (.ref a0), some (.int x1), some (.int x2), some (.int x3), some (.int v2), some (.int ((300 + v5) - 1))], [])) rfl ?_
              refine Ev_w (L' := [some (.ref a0), some (.int x1), some (.int x2), some (.int x3), none, none]) (zle_c (zle_c (zle_c (zle_c (zle_n (zle_n zle_0)))))) ?_
              exact zf191_113_ok hK h0 (fun _ _ _ _ hF => ih hF) hF
            · refine Ev_p 0 (c' := (94, [some (.ref a0), some (.int x1), some (.int x2), some (.int x3), some (.int v2), some (.int ((300 + v5) - 1))], [])) rfl ?_
              exact zf191_94_ok hK h0 (fun _ _ _ _ hF => ih hF) hF
noncomputable def zf191 (a0 : Nat) (x1 : Int32) (s : zS) : Option (zS) :=
  zal s (zrf a0 22) 3 fun v1 =>
  zbv (zf192 a0 ((300 + v1) - 1) x1 s) fun s3 =>
  zf191_21 a0 zfz x1 v1 0 s3
theorem zf191_ok {K : cx_K} (hK : Kok K) {lg : Nat → Int64} {s' : zS} {a0 : Nat} (h0 : zsh a0 = 11) {x1 : Int32} {s : zS} (hF : zf191 a0 x1 s = some s') : Ct K 191 [.ref a0, .int x1] (zmk lg s) (.inl none) (zmk lg s') 0 := by
  unfold zf191 at hF
  refine Ct_of hK nd_ok191 (mL := 6) (rt := none) rfl rfl (Nat.le_of_ble_eq_true rfl) zlen_le ?_
  refine Ev_p 1 (c' := (1, [some (.ref a0), some (.int x1), none, none, none, none], [.ref a0])) rfl ?_
  refine Ez_gr (M := zM191) (ci := 11) (f := 22) (t := 100) rfl rfl h0 rfl ?_
  refine Ev_p 1 (c' := (5, [some (.ref a0), some (.int x1), none, none, none, none], [.int 3, .ref (zrf a0 22)])) rfl ?_
  refine Ez_al (M := zM191) rfl (zty (ci := 11) (f := 22) (t := 100) h0 rfl) hF (fun v1 hF => ?_)
  refine Ev_p 8 (c' := (16, [some (.ref a0), some (.int x1), some (.int v1), none, none, none], [.int x1, .int ((300 + v1) - 1), .ref a0])) rfl ?_
  refine Ez_cv (M := zM191) (As := [.ref a0, .int ((300 + v1) - 1), .int x1]) (st' := []) (am_site_v (y := 192) (k := 3) (ci := 11) rfl rfl (zrcv rfl h0 rfl)) (Nat.le_of_ble_eq_true rfl) (Nat.le_of_ble_eq_true rfl) rfl rfl (fun _ hF => zf192_ok hK h0 hF) hF (fun s3 hF => ?_)
  refine Ev_p 2 (c' := (21, [some (.ref a0), some (.int x1), some (.int v1), some (.int 0), none, none], [])) rfl ?_
  exact zf191_21_ok hK h0 hF
-- PaperParcelsModel.form()V
abbrev zM189 : ev_M := (am_in nd_i189, am_fl nd_f11, am_ct nd_k11, am_sl nd_ml nd_s189, fun _ => none, none)
noncomputable def zf189_118 (a0 : Nat) (k16 : Int32 → zS → Option (zS)) (x1 : Int32) (x2 : Int32) (x3 : Int32) (t0 : Int32) (t1 : Int32) (s : zS) : Option (zS) :=
  zbv (zf190 a0 t1 t0 x3 s) fun s2 =>
  if ¬ x2 = 112 then
    k16 (x1 + 1) s2
  else
    zbv (zf191 a0 x1 s2) fun s4 =>
    k16 (x1 + 1) s4
theorem zf189_118_ok {K : cx_K} (hK : Kok K) {lg : Nat → Int64} {s' : zS} {a0 : Nat} (h0 : zsh a0 = 11) {k16 : Int32 → zS → Option (zS)} (hk16 : ∀ x1 s, k16 x1 s = some s' → Ev K zM189 (16, [some (.ref a0), some (.int x1), none, none], [], zmk lg s) 0 (.inl none) (zmk lg s') 0) {x1 : Int32} {x2 : Int32} {x3 : Int32} {t0 : Int32} {t1 : Int32}  {s : zS} (hF : zf189_118 a0 k16 x1 x2 x3 t0 t1 s = some s') : Ev K zM189 (118, [some (.ref a0), some (.int x1), some (.int x2), some (.int x3)], [.int t0, .int t1, .ref a0], zmk lg s) 0 (.inl none) (zmk lg s') 0 := by
  unfold zf189_118 at hF
  refine Ev_p 1 (c' := (119, [some (.ref a0), some (.int x1), some (.int x2), some (.int x3)], [.int x3, .int t0, .int t1, .ref a0])) rfl ?_
  refine Ez_cv (M := zM189) (As := [.ref a0, .int t1, .int t0, .int x3]) (st' := []) (am_site_v (y := 190) (k := 4) (ci := 11) rfl rfl (zrcv rfl h0 rfl)) (Nat.le_of_ble_eq_true rfl) (Nat.le_of_ble_eq_true rfl) rfl rfl (fun _ hF => zf190_ok hK h0 hF) hF (fun s2 hF => ?_)
  refine Ev_p 2 (c' := (125, [some (.ref a0), some (.int x1), some (.int x2), some (.int x3)], [.int 112, .int x2])) rfl ?_
  refine Ez_if (M := zM189) (b := ¬ x2 = 112) rfl rfl hF (fun _ hF => ?_) (fun _ hF => ?_)
  · refine Ev_p 2 (c' := (16, [some (.ref a0), some (.int (x1 + 1)), some (.int x2), some (.int x3)], [])) rfl ?_
    refine Ev_w (L' := [some (.ref a0), some (.int (x1 + 1)), none, none]) (zle_c (zle_c (zle_n (zle_n zle_0)))) ?_
    exact hk16 _ _ hF
  · refine Ev_p 2 (c' := (130, [some (.ref a0), some (.int x1), some (.int x2), some (.int x3)], [.int x1, .ref a0])) rfl ?_
    refine Ez_cv (M := zM189) (As := [.ref a0, .int x1]) (st' := []) (am_site_v (y := 191) (k := 2) (ci := 11) rfl rfl (zrcv rfl h0 rfl)) (Nat.le_of_ble_eq_true rfl) (Nat.le_of_ble_eq_true rfl) rfl rfl (fun _ hF => zf191_ok hK h0 hF) hF (fun s4 hF => ?_)
    refine Ev_p 2 (c' := (16, [some (.ref a0), some (.int (x1 + 1)), some (.int x2), some (.int x3)], [])) rfl ?_
    refine Ev_w (L' := [some (.ref a0), some (.int (x1 + 1)), none, none]) (zle_c (zle_c (zle_n (zle_n zle_0)))) ?_
    exact hk16 _ _ hF
noncomputable def zf189_84 (a0 : Nat) (k16 : Int32 → zS → Option (zS)) (x1 : Int32) (x2 : Int32) (t0 : Int32) (s : zS) : Option (zS) :=
  if ¬ x2 = 100 then
    if ¬ x2 = 112 then
      if ¬ x2 = 108 then
        zf189_118 a0 k16 x1 x2 t0 4 3 s
      else
        zf189_118 a0 k16 x1 x2 t0 3 3 s
    else
      zf189_118 a0 k16 x1 x2 t0 1 3 s
  else
    zf189_118 a0 k16 x1 x2 t0 0 3 s
theorem zf189_84_ok {K : cx_K} (hK : Kok K) {lg : Nat → Int64} {s' : zS} {a0 : Nat} (h0 : zsh a0 = 11) {k16 : Int32 → zS → Option (zS)} (hk16 : ∀ x1 s, k16 x1 s = some s' → Ev K zM189 (16, [some (.ref a0), some (.int x1), none, none], [], zmk lg s) 0 (.inl none) (zmk lg s') 0) {x1 : Int32} {x2 : Int32} {t0 : Int32}  {s : zS} (hF : zf189_84 a0 k16 x1 x2 t0 s = some s') : Ev K zM189 (84, [some (.ref a0), some (.int x1), some (.int x2), none], [.int t0], zmk lg s) 0 (.inl none) (zmk lg s') 0 := by
  unfold zf189_84 at hF
  refine Ev_p 5 (c' := (90, [some (.ref a0), some (.int x1), some (.int x2), some (.int t0)], [.int 100, .int x2, .int 3, .ref a0])) rfl ?_
  refine Ez_if (M := zM189) (b := ¬ x2 = 100) rfl rfl hF (fun _ hF => ?_) (fun _ hF => ?_)
  · refine Ev_p 2 (c' := (100, [some (.ref a0), some (.int x1), some (.int x2), some (.int t0)], [.int 112, .int x2, .int 3, .ref a0])) rfl ?_
    refine Ez_if (M := zM189) (b := ¬ x2 = 112) rfl rfl hF (fun _ hF => ?_) (fun _ hF => ?_)
    · refine Ev_p 2 (c' := (110, [some (.ref a0), some (.int x1), some (.int x2), some (.int t0)], [.int 108, .int x2, .int 3, .ref a0])) rfl ?_
      refine Ez_if (M := zM189) (b := ¬ x2 = 108) rfl rfl hF (fun _ hF => ?_) (fun _ hF => ?_)
      · refine Ev_p 1 (c' := (118, [some (.ref a0), some (.int x1), some (.int x2), some (.int t0)], [.int 4, .int 3, .ref a0])) rfl ?_
        exact zf189_118_ok hK h0 hk16 hF
      · refine Ev_p 2 (c' := (118, [some (.ref a0), some (.int x1), some (.int x2), some (.int t0)], [.int 3, .int 3, .ref a0])) rfl ?_
        exact zf189_118_ok hK h0 hk16 hF
    · refine Ev_p 2 (c' := (118, [some (.ref a0), some (.int x1), some (.int x2), some (.int t0)], [.int 1, .int 3, .ref a0])) rfl ?_
      exact zf189_118_ok hK h0 hk16 hF
  · refine Ev_p 2 (c' := (118, [some (.ref a0), some (.int x1), some (.int x2), some (.int t0)], [.int 0, .int 3, .ref a0])) rfl ?_
    exact zf189_118_ok hK h0 hk16 hF
noncomputable def zf189_16 (a0 : Nat)  : Nat → Int32 → zS → Option (zS)
  | 0, _, _ => none
  | n + 1, x1, s =>
    zal s (zrf a0 9) 1 fun v1 =>
    if v1 ≤ x1 then
      some s
    else
      zal s (zrf a0 10) (30 + x1) fun v2 =>
      if v2 = 120 then
        zf189_16 a0 n (x1 + 1) s
      else
        zal s (zrf a0 22) 3 fun v3 =>
        zas s (zrf a0 30) x1 v3 fun s4 =>
        zal s4 (zrf a0 12) (30 + x1) fun v5 =>
        if 0 ≤ v5 then
          zal s4 (zrf a0 12) (30 + x1) fun v6 =>
          zal s4 (zrf a0 30) v6 fun v7 =>
          zf189_84 a0 (zf189_16 a0 n) x1 v2 v7 s4
        else
          zf189_84 a0 (zf189_16 a0 n) x1 v2 (-1) s4
theorem zf189_16_ok {K : cx_K} (hK : Kok K) {lg : Nat → Int64} {s' : zS} {a0 : Nat} (h0 : zsh a0 = 11)   {n : Nat} : ∀ {x1 : Int32} {s : zS}, zf189_16 a0 n x1 s = some s' → Ev K zM189 (16, [some (.ref a0), some (.int x1), none, none], [], zmk lg s) 0 (.inl none) (zmk lg s') 0 := by
  induction n with
  | zero => intro x1 s hF; rw [zf189_16] at hF; cases hF
  | succ n ih =>
    intro x1 s hF
    rw [zf189_16] at hF
    refine Ev_p 2 (c' := (18, [some (.ref a0), some (.int x1), none, none], [.ref a0, .int x1])) rfl ?_
    refine Ez_gr (M := zM189) (ci := 11) (f := 9) (t := 100) rfl rfl h0 rfl ?_
    refine Ev_p 1 (c' := (22, [some (.ref a0), some (.int x1), none, none], [.int 1, .ref (zrf a0 9), .int x1])) rfl ?_
    refine Ez_al (M := zM189) rfl (zty (ci := 11) (f := 9) (t := 100) h0 rfl) hF (fun v1 hF => ?_)
    refine Ev_p 0 (c' := (23, [some (.ref a0), some (.int x1), none, none], [.int v1, .int x1])) rfl ?_
    refine Ez_if (M := zM189) (b := v1 ≤ x1) rfl rfl hF (fun _ hF => ?_) (fun _ hF => ?_)
    · refine Ev_p 0 (c' := (139, [some (.ref a0), some (.int x1), none, none], [])) rfl ?_
      exact Ez_rv (M := zM189) rfl rfl hF
    · refine Ev_p 1 (c' := (27, [some (.ref a0), some (.int x1), none, none], [.ref a0])) rfl ?_
      refine Ez_gr (M := zM189) (ci := 11) (f := 10) (t := 100) rfl rfl h0 rfl ?_
      refine Ev_p 3 (c' := (34, [some (.ref a0), some (.int x1), none, none], [.int (30 + x1), .ref (zrf a0 10)])) rfl ?_
      refine Ez_al (M := zM189) rfl (zty (ci := 11) (f := 10) (t := 100) h0 rfl) hF (fun v2 hF => ?_)
      refine Ev_p 3 (c' := (39, [some (.ref a0), some (.int x1), some (.int v2), none], [.int 120, .int v2])) rfl ?_
      refine Ez_if (M := zM189) (b := v2 = 120) rfl rfl hF (fun _ hF => ?_) (fun _ hF => ?_)
      · refine Ev_p 2 (c' := (16, [some (.ref a0), some (.int (x1 + 1)), some (.int v2), none], [])) rfl ?_
        refine Ev_w (L' := [some (.ref a0), some (.int (x1 + 1)), none, none]) (zle_c (zle_c (zle_n (zle_c zle_0)))) ?_
        exact ih hF
      · refine Ev_p 1 (c' := (43, [some (.ref a0), some (.int x1), some (.int v2), none], [.ref a0])) rfl ?_
        refine Ez_gr (M := zM189) (ci := 11) (f := 30) (t := 100) rfl rfl h0 rfl ?_
        refine Ev_p 2 (c' := (48, [some (.ref a0), some (.int x1), some (.int v2), none], [.ref a0, .int x1, .ref (zrf a0 30)])) rfl ?_
        refine Ez_gr (M := zM189) (ci := 11) (f := 22) (t := 100) rfl rfl h0 rfl ?_
        refine Ev_p 1 (c' := (52, [some (.ref a0), some (.int x1), some (.int v2), none], [.int 3, .ref (zrf a0 22), .int x1, .ref (zrf a0 30)])) rfl ?_
        refine Ez_al (M := zM189) rfl (zty (ci := 11) (f := 22) (t := 100) h0 rfl) hF (fun v3 hF => ?_)
        refine Ev_p 0 (c' := (53, [some (.ref a0), some (.int x1), some (.int v2), none], [.int v3, .int x1, .ref (zrf a0 30)])) rfl ?_
        refine Ez_as (M := zM189) rfl (zty (ci := 11) (f := 30) (t := 100) h0 rfl) hF (fun s4 hF => ?_)
        refine Ev_p 1 (c' := (55, [some (.ref a0), some (.int x1), some (.int v2), none], [.ref a0])) rfl ?_
        refine Ez_gr (M := zM189) (ci := 11) (f := 12) (t := 100) rfl rfl h0 rfl ?_
        refine Ev_p 3 (c' := (62, [some (.ref a0), some (.int x1), some (.int v2), none], [.int (30 + x1), .ref (zrf a0 12)])) rfl ?_
        refine Ez_al (M := zM189) rfl (zty (ci := 11) (f := 12) (t := 100) h0 rfl) hF (fun v5 hF => ?_)
        refine Ev_p 0 (c' := (63, [some (.ref a0), some (.int x1), some (.int v2), none], [.int v5])) rfl ?_
        refine Ez_if (M := zM189) (b := 0 ≤ v5) rfl rfl hF (fun _ hF => ?_) (fun _ hF => ?_)
        · refine Ev_p 1 (c' := (71, [some (.ref a0), some (.int x1), some (.int v2), none], [.ref a0])) rfl ?_
          refine Ez_gr (M := zM189) (ci := 11) (f := 30) (t := 100) rfl rfl h0 rfl ?_
          refine Ev_p 1 (c' := (75, [some (.ref a0), some (.int x1), some (.int v2), none], [.ref a0, .ref (zrf a0 30)])) rfl ?_
          refine Ez_gr (M := zM189) (ci := 11) (f := 12) (t := 100) rfl rfl h0 rfl ?_
          refine Ev_p 3 (c' := (82, [some (.ref a0), some (.int x1), some (.int v2), none], [.int (30 + x1), .ref (zrf a0 12), .ref (zrf a0 30)])) rfl ?_
          refine Ez_al (M := zM189) rfl (zty (ci := 11) (f := 12) (t := 100) h0 rfl) hF (fun v6 hF => ?_)
          refine Ev_p 0 (c' := (83, [some (.ref a0), some (.int x1), some (.int v2), none], [.int v6, .ref (zrf a0 30)])) rfl ?_
          refine Ez_al (M := zM189) rfl (zty (ci := 11) (f := 30) (t := 100) h0 rfl) hF (fun v7 hF => ?_)
          refine Ev_p 0 (c' := (84, [some (.ref a0), some (.int x1), some (.int v2), none], [.int v7])) rfl ?_
          exact zf189_84_ok hK h0 (fun _ _ hF => ih hF) hF
        · refine Ev_p 2 (c' := (84, [some (.ref a0), some (.int x1), some (.int v2), none], [.int (-1)])) rfl ?_
          exact zf189_84_ok hK h0 (fun _ _ hF => ih hF) hF
noncomputable def zf189 (a0 : Nat) (s : zS) : Option (zS) :=
  zas s (zrf a0 22) 3 0 fun s1 =>
  zas s1 (zrf a0 28) 3 0 fun s2 =>
  zf189_16 a0 zfz 0 s2
theorem zf189_ok {K : cx_K} (hK : Kok K) {lg : Nat → Int64} {s' : zS} {a0 : Nat} (h0 : zsh a0 = 11)  {s : zS} (hF : zf189 a0 s = some s') : Ct K 189 [.ref a0] (zmk lg s) (.inl none) (zmk lg s') 0 := by
  unfold zf189 at hF
  refine Ct_of hK nd_ok189 (mL := 4) (rt := none) rfl rfl (Nat.le_of_ble_eq_true rfl) zlen_le ?_
  refine Ev_p 1 (c' := (1, [some (.ref a0), none, none, none], [.ref a0])) rfl ?_
  refine Ez_gr (M := zM189) (ci := 11) (f := 22) (t := 100) rfl rfl h0 rfl ?_
  refine Ev_p 2 (c' := (6, [some (.ref a0), none, none, none], [.int 0, .int 3, .ref (zrf a0 22)])) rfl ?_
  refine Ez_as (M := zM189) rfl (zty (ci := 11) (f := 22) (t := 100) h0 rfl) hF (fun s1 hF => ?_)
  refine Ev_p 1 (c' := (8, [some (.ref a0), none, none, none], [.ref a0])) rfl ?_
  refine Ez_gr (M := zM189) (ci := 11) (f := 28) (t := 100) rfl rfl h0 rfl ?_
  refine Ev_p 2 (c' := (13, [some (.ref a0), none, none, none], [.int 0, .int 3, .ref (zrf a0 28)])) rfl ?_
  refine Ez_as (M := zM189) rfl (zty (ci := 11) (f := 28) (t := 100) h0 rfl) hF (fun s2 hF => ?_)
  refine Ev_p 2 (c' := (16, [some (.ref a0), some (.int 0), none, none], [])) rfl ?_
  exact zf189_16_ok hK h0 hF
-- PaperParcelsModel.documentFault()I
abbrev zM173 : ev_M := (am_in nd_i173, am_fl nd_f11, am_ct nd_k11, am_sl nd_ml nd_s173, fun _ => none, some .int)
noncomputable def zf173_58 (a0 : Nat)  (x1 : Int32) (s : zS) : Option (Int32 × zS) :=
  if ¬ x1 = 0 then
    some (x1, s)
  else
    zbv (zf189 a0 s) fun s2 =>
    zal s2 (zrf a0 22) 3 fun v3 =>
    if v3 ≤ 40 then
      some (0, s2)
    else
      zbi (zf158 a0 7 0 s2) fun v4 s5 =>
      some (v4, s5)
theorem zf173_58_ok {K : cx_K} (hK : Kok K) {lg : Nat → Int64} {v : Int32} {s' : zS} {a0 : Nat} (h0 : zsh a0 = 11)   {x1 : Int32}  {s : zS} (hF : zf173_58 a0 x1 s = some (v, s')) : Ev K zM173 (58, [some (.ref a0), some (.int x1), none], [], zmk lg s) 0 (.inl (some (.int v))) (zmk lg s') 0 := by
  unfold zf173_58 at hF
  refine Ev_p 1 (c' := (59, [some (.ref a0), some (.int x1), none], [.int x1])) rfl ?_
  refine Ez_if (M := zM173) (b := ¬ x1 = 0) rfl rfl hF (fun _ hF => ?_) (fun _ hF => ?_)
  · refine Ev_p 1 (c' := (90, [some (.ref a0), some (.int x1), none], [.int x1])) rfl ?_
    exact Ez_ri (M := zM173) rfl rfl hF
  · refine Ev_p 1 (c' := (63, [some (.ref a0), some (.int x1), none], [.ref a0])) rfl ?_
    refine Ez_cv (M := zM173) (As := [.ref a0]) (st' := []) (am_site_v (y := 189) (k := 1) (ci := 11) rfl rfl (zrcv rfl h0 rfl)) (Nat.le_of_ble_eq_true rfl) (Nat.le_of_ble_eq_true rfl) rfl rfl (fun _ hF => zf189_ok hK h0 hF) hF (fun s2 hF => ?_)
    refine Ev_p 1 (c' := (67, [some (.ref a0), some (.int x1), none], [.ref a0])) rfl ?_
    refine Ez_gr (M := zM173) (ci := 11) (f := 22) (t := 100) rfl rfl h0 rfl ?_
    refine Ev_p 1 (c' := (71, [some (.ref a0), some (.int x1), none], [.int 3, .ref (zrf a0 22)])) rfl ?_
    refine Ez_al (M := zM173) rfl (zty (ci := 11) (f := 22) (t := 100) h0 rfl) hF (fun v3 hF => ?_)
    refine Ev_p 1 (c' := (74, [some (.ref a0), some (.int x1), none], [.int 40, .int v3])) rfl ?_
    refine Ez_if (M := zM173) (b := v3 ≤ 40) rfl rfl hF (fun _ hF => ?_) (fun _ hF => ?_)
    · refine Ev_p 3 (c' := (90, [some (.ref a0), some (.int 0), none], [.int 0])) rfl ?_
      exact Ez_ri (M := zM173) rfl rfl hF
    · refine Ev_p 3 (c' := (81, [some (.ref a0), some (.int x1), none], [.int 0, .int 7, .ref a0])) rfl ?_
      refine Ez_ci (M := zM173) (As := [.ref a0, .int 7, .int 0]) (st' := []) (am_site_v (y := 158) (k := 3) (ci := 11) rfl rfl (zrcv rfl h0 rfl)) (Nat.le_of_ble_eq_true rfl) (Nat.le_of_ble_eq_true rfl) rfl rfl (fun _ _ hF => zf158_ok hK h0 hF) hF (fun v4 s5 hF => ?_)
      refine Ev_p 3 (c' := (90, [some (.ref a0), some (.int v4), none], [.int v4])) rfl ?_
      exact Ez_ri (M := zM173) rfl rfl hF
noncomputable def zf173_41 (a0 : Nat)  (t0 : Int32) (s : zS) : Option (Int32 × zS) :=
  if t0 < 0 then
    zf173_58 a0 0 s
  else
    zbi (zf158 a0 6 t0 s) fun v1 s2 =>
    zf173_58 a0 v1 s2
theorem zf173_41_ok {K : cx_K} (hK : Kok K) {lg : Nat → Int64} {v : Int32} {s' : zS} {a0 : Nat} (h0 : zsh a0 = 11)   {t0 : Int32}  {s : zS} (hF : zf173_41 a0 t0 s = some (v, s')) : Ev K zM173 (41, [some (.ref a0), none, none], [.int t0], zmk lg s) 0 (.inl (some (.int v))) (zmk lg s') 0 := by
  unfold zf173_41 at hF
  refine Ev_p 2 (c' := (43, [some (.ref a0), none, some (.int t0)], [.int t0])) rfl ?_
  refine Ez_if (M := zM173) (b := t0 < 0) rfl rfl hF (fun _ hF => ?_) (fun _ hF => ?_)
  · refine Ev_p 2 (c' := (58, [some (.ref a0), some (.int 0), some (.int t0)], [])) rfl ?_
    refine Ev_w (L' := [some (.ref a0), some (.int 0), none]) (zle_c (zle_c (zle_n zle_0))) ?_
    exact zf173_58_ok hK h0 hF
  · refine Ev_p 3 (c' := (50, [some (.ref a0), none, some (.int t0)], [.int t0, .int 6, .ref a0])) rfl ?_
    refine Ez_ci (M := zM173) (As := [.ref a0, .int 6, .int t0]) (st' := []) (am_site_v (y := 158) (k := 3) (ci := 11) rfl rfl (zrcv rfl h0 rfl)) (Nat.le_of_ble_eq_true rfl) (Nat.le_of_ble_eq_true rfl) rfl rfl (fun _ _ hF => zf158_ok hK h0 hF) hF (fun v1 s2 hF => ?_)
    refine Ev_p 2 (c' := (58, [some (.ref a0), some (.int v1), some (.int t0)], [])) rfl ?_
    refine Ev_w (L' := [some (.ref a0), some (.int v1), none]) (zle_c (zle_c (zle_n zle_0))) ?_
    exact zf173_58_ok hK h0 hF
noncomputable def zf173_19 (a0 : Nat)  (t0 : Int32) (s : zS) : Option (Int32 × zS) :=
  if ¬ t0 = 0 then
    zf173_58 a0 t0 s
  else
    zbi (zf184 a0 s) fun v1 s2 =>
    if 0 ≤ v1 then
      zf173_41 a0 v1 s2
    else
      zbi (zf188 a0 s2) fun v3 s4 =>
      zf173_41 a0 v3 s4
theorem zf173_19_ok {K : cx_K} (hK : Kok K) {lg : Nat → Int64} {v : Int32} {s' : zS} {a0 : Nat} (h0 : zsh a0 = 11)   {t0 : Int32}  {s : zS} (hF : zf173_19 a0 t0 s = some (v, s')) : Ev K zM173 (19, [some (.ref a0), none, none], [.int t0], zmk lg s) 0 (.inl (some (.int v))) (zmk lg s') 0 := by
  unfold zf173_19 at hF
  refine Ev_p 2 (c' := (21, [some (.ref a0), some (.int t0), none], [.int t0])) rfl ?_
  refine Ez_if (M := zM173) (b := ¬ t0 = 0) rfl rfl hF (fun _ hF => ?_) (fun _ hF => ?_)
  · refine Ev_p 0 (c' := (58, [some (.ref a0), some (.int t0), none], [])) rfl ?_
    exact zf173_58_ok hK h0 hF
  · refine Ev_p 1 (c' := (25, [some (.ref a0), some (.int t0), none], [.ref a0])) rfl ?_
    refine Ez_ci (M := zM173) (As := [.ref a0]) (st' := []) (am_site_v (y := 184) (k := 1) (ci := 11) rfl rfl (zrcv rfl h0 rfl)) (Nat.le_of_ble_eq_true rfl) (Nat.le_of_ble_eq_true rfl) rfl rfl (fun _ _ hF => zf184_ok hK h0 hF) hF (fun v1 s2 hF => ?_)
    refine Ev_p 2 (c' := (30, [some (.ref a0), some (.int t0), some (.int v1)], [.int v1])) rfl ?_
    refine Ez_if (M := zM173) (b := 0 ≤ v1) rfl rfl hF (fun _ hF => ?_) (fun _ hF => ?_)
    · refine Ev_p 1 (c' := (41, [some (.ref a0), some (.int t0), some (.int v1)], [.int v1])) rfl ?_
      refine Ev_w (L' := [some (.ref a0), none, none]) (zle_c (zle_n (zle_n zle_0))) ?_
      exact zf173_41_ok hK h0 hF
    · refine Ev_p 1 (c' := (34, [some (.ref a0), some (.int t0), some (.int v1)], [.ref a0])) rfl ?_
      refine Ez_ci (M := zM173) (As := [.ref a0]) (st' := []) (am_site_v (y := 188) (k := 1) (ci := 11) rfl rfl (zrcv rfl h0 rfl)) (Nat.le_of_ble_eq_true rfl) (Nat.le_of_ble_eq_true rfl) rfl rfl (fun _ _ hF => zf188_ok hK h0 hF) hF (fun v3 s4 hF => ?_)
      refine Ev_p 1 (c' := (41, [some (.ref a0), some (.int t0), some (.int v1)], [.int v3])) rfl ?_
      refine Ev_w (L' := [some (.ref a0), none, none]) (zle_c (zle_n (zle_n zle_0))) ?_
      exact zf173_41_ok hK h0 hF
noncomputable def zf173 (a0 : Nat) (s : zS) : Option (Int32 × zS) :=
  zbi (zf174 a0 0 s) fun v1 s2 =>
  if ¬ v1 = 0 then
    zf173_19 a0 v1 s2
  else
    zbi (zf174 a0 1 s2) fun v3 s4 =>
    zf173_19 a0 v3 s4
theorem zf173_ok {K : cx_K} (hK : Kok K) {lg : Nat → Int64} {v : Int32} {s' : zS} {a0 : Nat} (h0 : zsh a0 = 11)  {s : zS} (hF : zf173 a0 s = some (v, s')) : Ct K 173 [.ref a0] (zmk lg s) (.inl (some (.int v))) (zmk lg s') 0 := by
  unfold zf173 at hF
  refine Ct_of hK nd_ok173 (mL := 3) (rt := some .int) rfl rfl (Nat.le_of_ble_eq_true rfl) zlen_le ?_
  refine Ev_p 2 (c' := (2, [some (.ref a0), none, none], [.int 0, .ref a0])) rfl ?_
  refine Ez_ci (M := zM173) (As := [.ref a0, .int 0]) (st' := []) (am_site_v (y := 174) (k := 2) (ci := 11) rfl rfl (zrcv rfl h0 rfl)) (Nat.le_of_ble_eq_true rfl) (Nat.le_of_ble_eq_true rfl) rfl rfl (fun _ _ hF => zf174_ok hK h0 hF) hF (fun v1 s2 hF => ?_)
  refine Ev_p 2 (c' := (7, [some (.ref a0), some (.int v1), none], [.int v1])) rfl ?_
  refine Ez_if (M := zM173) (b := ¬ v1 = 0) rfl rfl hF (fun _ hF => ?_) (fun _ hF => ?_)
  · refine Ev_p 1 (c' := (19, [some (.ref a0), some (.int v1), none], [.int v1])) rfl ?_
    refine Ev_w (L' := [some (.ref a0), none, none]) (zle_c (zle_n (zle_c zle_0))) ?_
    exact zf173_19_ok hK h0 hF
  · refine Ev_p 2 (c' := (12, [some (.ref a0), some (.int v1), none], [.int 1, .ref a0])) rfl ?_
    refine Ez_ci (M := zM173) (As := [.ref a0, .int 1]) (st' := []) (am_site_v (y := 174) (k := 2) (ci := 11) rfl rfl (zrcv rfl h0 rfl)) (Nat.le_of_ble_eq_true rfl) (Nat.le_of_ble_eq_true rfl) rfl rfl (fun _ _ hF => zf174_ok hK h0 hF) hF (fun v3 s4 hF => ?_)
    refine Ev_p 1 (c' := (19, [some (.ref a0), some (.int v1), none], [.int v3])) rfl ?_
    refine Ev_w (L' := [some (.ref a0), none, none]) (zle_c (zle_n (zle_c zle_0))) ?_
    exact zf173_19_ok hK h0 hF

/-! The methods as functions, and that the machine goes so (printed by wip/gen/fgen.py). -/
set_option maxRecDepth 100000
set_option linter.unusedVariables false
-- PaperParcelsModel.sameLetters(II)Z
abbrev zM216 : ev_M := (am_in nd_i216, am_fl nd_f11, am_ct nd_k11, am_sl nd_ml nd_s216, fun _ => none, some .boolean)
noncomputable def zf216_27 (a0 : Nat)  : Nat → Int32 → Int32 → Int32 → Int32 → zS → Option (Int32 × zS)
  | 0, _, _, _, _, _ => none
  | n + 1, x1, x2, x3, x4, s =>
    zal s (zrf a0 27) x1 fun v1 =>
    if v1 ≤ x4 then
      zrb x3 s
    else
      if x3 = 0 then
        zrb x3 s
      else
        zal s (zrf a0 26) x1 fun v2 =>
        zal s (zrf a0 29) (v2 + x4) fun v3 =>
        zal s (zrf a0 26) (100 + x2) fun v4 =>
        zal s (zrf a0 29) ((700 + v4) + x4) fun v5 =>
        if ¬ v3 = v5 then
          zf216_27 a0 n x1 x2 0 (x4 + 1) s
        else
          zf216_27 a0 n x1 x2 1 (x4 + 1) s
theorem zf216_27_ok {K : cx_K} (hK : Kok K) {lg : Nat → Int64} {v : Int32} {s' : zS} {a0 : Nat} (h0 : zsh a0 = 11)   {n : Nat} : ∀ {x1 : Int32} {x2 : Int32} {x3 : Int32} {x4 : Int32} {s : zS}, zf216_27 a0 n x1 x2 x3 x4 s = some (v, s') → Ev K zM216 (27, [some (.ref a0), some (.int x1), some (.int x2), some (.int x3), some (.int x4)], [], zmk lg s) 0 (.inl (some (.int v))) (zmk lg s') 0 := by
  induction n with
  | zero => intro x1 x2 x3 x4 s hF; rw [zf216_27] at hF; cases hF
  | succ n ih =>
    intro x1 x2 x3 x4 s hF
    rw [zf216_27] at hF
    refine Ev_p 2 (c' := (30, [some (.ref a0), some (.int x1), some (.int x2), some (.int x3), some (.int x4)], [.ref a0, .int x4])) rfl ?_
    refine Ez_gr (M := zM216) (ci := 11) (f := 27) (t := 100) rfl rfl h0 rfl ?_
    refine Ev_p 1 (c' := (34, [some (.ref a0), some (.int x1), some (.int x2), some (.int x3), some (.int x4)], [.int x1, .ref (zrf a0 27), .int x4])) rfl ?_
    refine Ez_al (M := zM216) rfl (zty (ci := 11) (f := 27) (t := 100) h0 rfl) hF (fun v1 hF => ?_)
    refine Ev_p 0 (c' := (35, [some (.ref a0), some (.int x1), some (.int x2), some (.int x3), some (.int x4)], [.int v1, .int x4])) rfl ?_
    refine Ez_if (M := zM216) (b := v1 ≤ x4) rfl rfl hF (fun _ hF => ?_) (fun _ hF => ?_)
    · refine Ev_p 1 (c' := (93, [some (.ref a0), some (.int x1), some (.int x2), some (.int x3), some (.int x4)], [.int x3])) rfl ?_
      exact Ez_rb (M := zM216) rfl rfl hF
    · refine Ev_p 1 (c' := (39, [some (.ref a0), some (.int x1), some (.int x2), some (.int x3), some (.int x4)], [.int x3])) rfl ?_
      refine Ez_if (M := zM216) (b := x3 = 0) rfl rfl hF (fun _ hF => ?_) (fun _ hF => ?_)
      · refine Ev_p 1 (c' := (93, [some (.ref a0), some (.int x1), some (.int x2), some (.int x3), some (.int x4)], [.int x3])) rfl ?_
        exact Ez_rb (M := zM216) rfl rfl hF
      · refine Ev_p 1 (c' := (43, [some (.ref a0), some (.int x1), some (.int x2), some (.int x3), some (.int x4)], [.ref a0])) rfl ?_
        refine Ez_gr (M := zM216) (ci := 11) (f := 29) (t := 100) rfl rfl h0 rfl ?_
        refine Ev_p 1 (c' := (47, [some (.ref a0), some (.int x1), some (.int x2), some (.int x3), some (.int x4)], [.ref a0, .ref (zrf a0 29)])) rfl ?_
        refine Ez_gr (M := zM216) (ci := 11) (f := 26) (t := 100) rfl rfl h0 rfl ?_
        refine Ev_p 1 (c' := (51, [some (.ref a0), some (.int x1), some (.int x2), some (.int x3), some (.int x4)], [.int x1, .ref (zrf a0 26), .ref (zrf a0 29)])) rfl ?_
        refine Ez_al (M := zM216) rfl (zty (ci := 11) (f := 26) (t := 100) h0 rfl) hF (fun v2 hF => ?_)
        refine Ev_p 2 (c' := (55, [some (.ref a0), some (.int x1), some (.int x2), some (.int x3), some (.int x4)], [.int (v2 + x4), .ref (zrf a0 29)])) rfl ?_
        refine Ez_al (M := zM216) rfl (zty (ci := 11) (f := 29) (t := 100) h0 rfl) hF (fun v3 hF => ?_)
        refine Ev_p 1 (c' := (57, [some (.ref a0), some (.int x1), some (.int x2), some (.int x3), some (.int x4)], [.ref a0, .int v3])) rfl ?_
        refine Ez_gr (M := zM216) (ci := 11) (f := 29) (t := 100) rfl rfl h0 rfl ?_
        refine Ev_p 2 (c' := (64, [some (.ref a0), some (.int x1), some (.int x2), some (.int x3), some (.int x4)], [.ref a0, .int 700, .ref (zrf a0 29), .int v3])) rfl ?_
        refine Ez_gr (M := zM216) (ci := 11) (f := 26) (t := 100) rfl rfl h0 rfl ?_
        refine Ev_p 3 (c' := (71, [some (.ref a0), some (.int x1), some (.int x2), some (.int x3), some (.int x4)], [.int (100 + x2), .ref (zrf a0 26), .int 700, .ref (zrf a0 29), .int v3])) rfl ?_
        refine Ez_al (M := zM216) rfl (zty (ci := 11) (f := 26) (t := 100) h0 rfl) hF (fun v4 hF => ?_)
        refine Ev_p 3 (c' := (76, [some (.ref a0), some (.int x1), some (.int x2), some (.int x3), some (.int x4)], [.int ((700 + v4) + x4), .ref (zrf a0 29), .int v3])) rfl ?_
        refine Ez_al (M := zM216) rfl (zty (ci := 11) (f := 29) (t := 100) h0 rfl) hF (fun v5 hF => ?_)
        refine Ev_p 0 (c' := (77, [some (.ref a0), some (.int x1), some (.int x2), some (.int x3), some (.int x4)], [.int v5, .int v3])) rfl ?_
        refine Ez_if (M := zM216) (b := ¬ v3 = v5) rfl rfl hF (fun _ hF => ?_) (fun _ hF => ?_)
        · refine Ev_p 4 (c' := (27, [some (.ref a0), some (.int x1), some (.int x2), some (.int 0), some (.int (x4 + 1))], [])) rfl ?_
          exact ih hF
        · refine Ev_p 5 (c' := (27, [some (.ref a0), some (.int x1), some (.int x2), some (.int 1), some (.int (x4 + 1))], [])) rfl ?_
          exact ih hF
noncomputable def zf216 (a0 : Nat) (x1 : Int32) (x2 : Int32) (s : zS) : Option (Int32 × zS) :=
  zal s (zrf a0 27) x1 fun v1 =>
  zal s (zrf a0 27) (100 + x2) fun v2 =>
  if ¬ v1 = v2 then
    zf216_27 a0 zfz x1 x2 0 0 s
  else
    zf216_27 a0 zfz x1 x2 1 0 s
theorem zf216_ok {K : cx_K} (hK : Kok K) {lg : Nat → Int64} {v : Int32} {s' : zS} {a0 : Nat} (h0 : zsh a0 = 11) {x1 : Int32} {x2 : Int32} {s : zS} (hF : zf216 a0 x1 x2 s = some (v, s')) : Ct K 216 [.ref a0, .int x1, .int x2] (zmk lg s) (.inl (some (.int v))) (zmk lg s') 0 := by
  unfold zf216 at hF
  refine Ct_of hK nd_ok216 (mL := 5) (rt := some .boolean) rfl rfl (Nat.le_of_ble_eq_true rfl) zlen_le ?_
  refine Ev_p 1 (c' := (1, [some (.ref a0), some (.int x1), some (.int x2), none, none], [.ref a0])) rfl ?_
  refine Ez_gr (M := zM216) (ci := 11) (f := 27) (t := 100) rfl rfl h0 rfl ?_
  refine Ev_p 1 (c' := (5, [some (.ref a0), some (.int x1), some (.int x2), none, none], [.int x1, .ref (zrf a0 27)])) rfl ?_
  refine Ez_al (M := zM216) rfl (zty (ci := 11) (f := 27) (t := 100) h0 rfl) hF (fun v1 hF => ?_)
  refine Ev_p 1 (c' := (7, [some (.ref a0), some (.int x1), some (.int x2), none, none], [.ref a0, .int v1])) rfl ?_
  refine Ez_gr (M := zM216) (ci := 11) (f := 27) (t := 100) rfl rfl h0 rfl ?_
  refine Ev_p 3 (c' := (14, [some (.ref a0), some (.int x1), some (.int x2), none, none], [.int (100 + x2), .ref (zrf a0 27), .int v1])) rfl ?_
  refine Ez_al (M := zM216) rfl (zty (ci := 11) (f := 27) (t := 100) h0 rfl) hF (fun v2 hF => ?_)
  refine Ev_p 0 (c' := (15, [some (.ref a0), some (.int x1), some (.int x2), none, none], [.int v2, .int v1])) rfl ?_
  refine Ez_if (M := zM216) (b := ¬ v1 = v2) rfl rfl hF (fun _ hF => ?_) (fun _ hF => ?_)
  · refine Ev_p 4 (c' := (27, [some (.ref a0), some (.int x1), some (.int x2), some (.int 0), some (.int 0)], [])) rfl ?_
    exact zf216_27_ok hK h0 hF
  · refine Ev_p 5 (c' := (27, [some (.ref a0), some (.int x1), some (.int x2), some (.int 1), some (.int 0)], [])) rfl ?_
    exact zf216_27_ok hK h0 hF
-- PaperParcelsModel.change(II)I
abbrev zM215 : ev_M := (am_in nd_i215, am_fl nd_f11, am_ct nd_k11, am_sl nd_ml nd_s215, fun _ => none, some .int)
noncomputable def zf215_16 (a0 : Nat)  : Nat → Int32 → Int32 → Int32 → Int32 → zS → Option (Int32 × zS)
  | 0, _, _, _, _, _ => none
  | n + 1, x1, x2, x3, x4, s =>
    if 3 ≤ x4 then
      if x3 = 0 then
        some (1, s)
      else
        some (0, s)
    else
      if x3 = 0 then
        zf215_16 a0 n x1 x2 0 (x4 + 1) s
      else
        zal s (zrf a0 25) ((3 * x1) + x4) fun v1 =>
        zal s (zrf a0 25) ((300 + (3 * x2)) + x4) fun v2 =>
        if ¬ v1 = v2 then
          zf215_16 a0 n x1 x2 0 (x4 + 1) s
        else
          zf215_16 a0 n x1 x2 1 (x4 + 1) s
theorem zf215_16_ok {K : cx_K} (hK : Kok K) {lg : Nat → Int64} {v : Int32} {s' : zS} {a0 : Nat} (h0 : zsh a0 = 11)   {n : Nat} : ∀ {x1 : Int32} {x2 : Int32} {x3 : Int32} {x4 : Int32} {s : zS}, zf215_16 a0 n x1 x2 x3 x4 s = some (v, s') → Ev K zM215 (16, [some (.ref a0), some (.int x1), some (.int x2), some (.int x3), some (.int x4)], [], zmk lg s) 0 (.inl (some (.int v))) (zmk lg s') 0 := by
  induction n with
  | zero => intro x1 x2 x3 x4 s hF; rw [zf215_16] at hF; cases hF
  | succ n ih =>
    intro x1 x2 x3 x4 s hF
    rw [zf215_16] at hF
    refine Ev_p 2 (c' := (19, [some (.ref a0), some (.int x1), some (.int x2), some (.int x3), some (.int x4)], [.int 3, .int x4])) rfl ?_
    refine Ez_if (M := zM215) (b := 3 ≤ x4) rfl rfl hF (fun _ hF => ?_) (fun _ hF => ?_)
    · refine Ev_p 1 (c' := (68, [some (.ref a0), some (.int x1), some (.int x2), some (.int x3), some (.int x4)], [.int x3])) rfl ?_
      refine Ez_if (M := zM215) (b := x3 = 0) rfl rfl hF (fun _ hF => ?_) (fun _ hF => ?_)
      · refine Ev_p 1 (c' := (76, [some (.ref a0), some (.int x1), some (.int x2), some (.int x3), some (.int x4)], [.int 1])) rfl ?_
        exact Ez_ri (M := zM215) rfl rfl hF
      · refine Ev_p 2 (c' := (76, [some (.ref a0), some (.int x1), some (.int x2), some (.int x3), some (.int x4)], [.int 0])) rfl ?_
        exact Ez_ri (M := zM215) rfl rfl hF
    · refine Ev_p 1 (c' := (23, [some (.ref a0), some (.int x1), some (.int x2), some (.int x3), some (.int x4)], [.int x3])) rfl ?_
      refine Ez_if (M := zM215) (b := x3 = 0) rfl rfl hF (fun _ hF => ?_) (fun _ hF => ?_)
      · refine Ev_p 4 (c' := (16, [some (.ref a0), some (.int x1), some (.int x2), some (.int 0), some (.int (x4 + 1))], [])) rfl ?_
        exact ih hF
      · refine Ev_p 1 (c' := (27, [some (.ref a0), some (.int x1), some (.int x2), some (.int x3), some (.int x4)], [.ref a0])) rfl ?_
        refine Ez_gr (M := zM215) (ci := 11) (f := 25) (t := 100) rfl rfl h0 rfl ?_
        refine Ev_p 5 (c' := (36, [some (.ref a0), some (.int x1), some (.int x2), some (.int x3), some (.int x4)], [.int ((3 * x1) + x4), .ref (zrf a0 25)])) rfl ?_
        refine Ez_al (M := zM215) rfl (zty (ci := 11) (f := 25) (t := 100) h0 rfl) hF (fun v1 hF => ?_)
        refine Ev_p 1 (c' := (38, [some (.ref a0), some (.int x1), some (.int x2), some (.int x3), some (.int x4)], [.ref a0, .int v1])) rfl ?_
        refine Ez_gr (M := zM215) (ci := 11) (f := 25) (t := 100) rfl rfl h0 rfl ?_
        refine Ev_p 7 (c' := (51, [some (.ref a0), some (.int x1), some (.int x2), some (.int x3), some (.int x4)], [.int ((300 + (3 * x2)) + x4), .ref (zrf a0 25), .int v1])) rfl ?_
        refine Ez_al (M := zM215) rfl (zty (ci := 11) (f := 25) (t := 100) h0 rfl) hF (fun v2 hF => ?_)
        refine Ev_p 0 (c' := (52, [some (.ref a0), some (.int x1), some (.int x2), some (.int x3), some (.int x4)], [.int v2, .int v1])) rfl ?_
        refine Ez_if (M := zM215) (b := ¬ v1 = v2) rfl rfl hF (fun _ hF => ?_) (fun _ hF => ?_)
        · refine Ev_p 4 (c' := (16, [some (.ref a0), some (.int x1), some (.int x2), some (.int 0), some (.int (x4 + 1))], [])) rfl ?_
          exact ih hF
        · refine Ev_p 5 (c' := (16, [some (.ref a0), some (.int x1), some (.int x2), some (.int 1), some (.int (x4 + 1))], [])) rfl ?_
          exact ih hF
noncomputable def zf215 (a0 : Nat) (x1 : Int32) (x2 : Int32) (s : zS) : Option (Int32 × zS) :=
  zbi (zf216 a0 x1 x2 s) fun v1 s2 =>
  if ¬ v1 = 0 then
    zf215_16 a0 zfz x1 x2 1 0 s2
  else
    some (2, s2)
theorem zf215_ok {K : cx_K} (hK : Kok K) {lg : Nat → Int64} {v : Int32} {s' : zS} {a0 : Nat} (h0 : zsh a0 = 11) {x1 : Int32} {x2 : Int32} {s : zS} (hF : zf215 a0 x1 x2 s = some (v, s')) : Ct K 215 [.ref a0, .int x1, .int x2] (zmk lg s) (.inl (some (.int v))) (zmk lg s') 0 := by
  unfold zf215 at hF
  refine Ct_of hK nd_ok215 (mL := 5) (rt := some .int) rfl rfl (Nat.le_of_ble_eq_true rfl) zlen_le ?_
  refine Ev_p 3 (c' := (3, [some (.ref a0), some (.int x1), some (.int x2), none, none], [.int x2, .int x1, .ref a0])) rfl ?_
  refine Ez_ci (M := zM215) (As := [.ref a0, .int x1, .int x2]) (st' := []) (am_site_v (y := 216) (k := 3) (ci := 11) rfl rfl (zrcv rfl h0 rfl)) (Nat.le_of_ble_eq_true rfl) (Nat.le_of_ble_eq_true rfl) rfl rfl (fun _ _ hF => zf216_ok hK h0 hF) hF (fun v1 s2 hF => ?_)
  refine Ev_p 0 (c' := (6, [some (.ref a0), some (.int x1), some (.int x2), none, none], [.int v1])) rfl ?_
  refine Ez_if (M := zM215) (b := ¬ v1 = 0) rfl rfl hF (fun _ hF => ?_) (fun _ hF => ?_)
  · refine Ev_p 4 (c' := (16, [some (.ref a0), some (.int x1), some (.int x2), some (.int 1), some (.int 0)], [])) rfl ?_
    exact zf215_16_ok hK h0 hF
  · refine Ev_p 1 (c' := (10, [some (.ref a0), some (.int x1), some (.int x2), none, none], [.int 2])) rfl ?_
    exact Ez_ri (M := zM215) rfl rfl hF
-- PaperParcelsModel.costs()V
abbrev zM212 : ev_M := (am_in nd_i212, am_fl nd_f11, am_ct nd_k11, am_sl nd_ml nd_s212, fun _ => none, none)
noncomputable def zf212_22 (a0 : Nat) (k9 : Int32 → zS → Option (zS)) : Nat → Int32 → Int32 → zS → Option (zS)
  | 0, _, _, _ => none
  | n + 1, x1, x2, s =>
    if x2 < 0 then
      k9 (x1 + (-1)) s
    else
      zal s (zrf a0 23) x1 fun v1 =>
      zal s (zrf a0 23) (100 + x2) fun v2 =>
      if ¬ v1 = v2 then
        zf212_22 a0 k9 n x1 (x2 + (-1)) s
      else
        zbv (zf213 a0 x1 x2 s) fun s4 =>
        zbi (zf215 a0 x1 x2 s4) fun v5 s6 =>
        zal s6 (zrf a0 43) 0 fun v7 =>
        zas s6 (zrf a0 38) ((40 * x1) + x2) (v5 + v7) fun s8 =>
        zf212_22 a0 k9 n x1 (x2 + (-1)) s8
theorem zf212_22_ok {K : cx_K} (hK : Kok K) {lg : Nat → Int64} {s' : zS} {a0 : Nat} (h0 : zsh a0 = 11) {k9 : Int32 → zS → Option (zS)} (hk9 : ∀ x1 s, k9 x1 s = some s' → Ev K zM212 (9, [some (.ref a0), some (.int x1), none], [], zmk lg s) 0 (.inl none) (zmk lg s') 0) {n : Nat} : ∀ {x1 : Int32} {x2 : Int32} {s : zS}, zf212_22 a0 k9 n x1 x2 s = some s' → Ev K zM212 (22, [some (.ref a0), some (.int x1), some (.int x2)], [], zmk lg s) 0 (.inl none) (zmk lg s') 0 := by
  induction n with
  | zero => intro x1 x2 s hF; rw [zf212_22] at hF; cases hF
  | succ n ih =>
    intro x1 x2 s hF
    rw [zf212_22] at hF
    refine Ev_p 1 (c' := (23, [some (.ref a0), some (.int x1), some (.int x2)], [.int x2])) rfl ?_
    refine Ez_if (M := zM212) (b := x2 < 0) rfl rfl hF (fun _ hF => ?_) (fun _ hF => ?_)
    · refine Ev_p 2 (c' := (9, [some (.ref a0), some (.int (x1 + (-1))), some (.int x2)], [])) rfl ?_
      refine Ev_w (L' := [some (.ref a0), some (.int (x1 + (-1))), none]) (zle_c (zle_c (zle_n zle_0))) ?_
      exact hk9 _ _ hF
    · refine Ev_p 1 (c' := (27, [some (.ref a0), some (.int x1), some (.int x2)], [.ref a0])) rfl ?_
      refine Ez_gr (M := zM212) (ci := 11) (f := 23) (t := 100) rfl rfl h0 rfl ?_
      refine Ev_p 1 (c' := (31, [some (.ref a0), some (.int x1), some (.int x2)], [.int x1, .ref (zrf a0 23)])) rfl ?_
      refine Ez_al (M := zM212) rfl (zty (ci := 11) (f := 23) (t := 100) h0 rfl) hF (fun v1 hF => ?_)
      refine Ev_p 1 (c' := (33, [some (.ref a0), some (.int x1), some (.int x2)], [.ref a0, .int v1])) rfl ?_
      refine Ez_gr (M := zM212) (ci := 11) (f := 23) (t := 100) rfl rfl h0 rfl ?_
      refine Ev_p 3 (c' := (40, [some (.ref a0), some (.int x1), some (.int x2)], [.int (100 + x2), .ref (zrf a0 23), .int v1])) rfl ?_
      refine Ez_al (M := zM212) rfl (zty (ci := 11) (f := 23) (t := 100) h0 rfl) hF (fun v2 hF => ?_)
      refine Ev_p 0 (c' := (41, [some (.ref a0), some (.int x1), some (.int x2)], [.int v2, .int v1])) rfl ?_
      refine Ez_if (M := zM212) (b := ¬ v1 = v2) rfl rfl hF (fun _ hF => ?_) (fun _ hF => ?_)
      · refine Ev_p 2 (c' := (22, [some (.ref a0), some (.int x1), some (.int (x2 + (-1)))], [])) rfl ?_
        exact ih hF
      · refine Ev_p 3 (c' := (47, [some (.ref a0), some (.int x1), some (.int x2)], [.int x2, .int x1, .ref a0])) rfl ?_
        refine Ez_cv (M := zM212) (As := [.ref a0, .int x1, .int x2]) (st' := []) (am_site_v (y := 213) (k := 3) (ci := 11) rfl rfl (zrcv rfl h0 rfl)) (Nat.le_of_ble_eq_true rfl) (Nat.le_of_ble_eq_true rfl) rfl rfl (fun _ hF => zf213_ok hK h0 hF) hF (fun s4 hF => ?_)
        refine Ev_p 1 (c' := (51, [some (.ref a0), some (.int x1), some (.int x2)], [.ref a0])) rfl ?_
        refine Ez_gr (M := zM212) (ci := 11) (f := 38) (t := 100) rfl rfl h0 rfl ?_
        refine Ev_p 8 (c' := (63, [some (.ref a0), some (.int x1), some (.int x2)], [.int x2, .int x1, .ref a0, .int ((40 * x1) + x2), .ref (zrf a0 38)])) rfl ?_
        refine Ez_ci (M := zM212) (As := [.ref a0, .int x1, .int x2]) (st' := [.int ((40 * x1) + x2), .ref (zrf a0 38)]) (am_site_v (y := 215) (k := 3) (ci := 11) rfl rfl (zrcv rfl h0 rfl)) (Nat.le_of_ble_eq_true rfl) (Nat.le_of_ble_eq_true rfl) rfl rfl (fun _ _ hF => zf215_ok hK h0 hF) hF (fun v5 s6 hF => ?_)
        refine Ev_p 1 (c' := (67, [some (.ref a0), some (.int x1), some (.int x2)], [.ref a0, .int v5, .int ((40 * x1) + x2), .ref (zrf a0 38)])) rfl ?_
        refine Ez_gr (M := zM212) (ci := 11) (f := 43) (t := 100) rfl rfl h0 rfl ?_
        refine Ev_p 1 (c' := (71, [some (.ref a0), some (.int x1), some (.int x2)], [.int 0, .ref (zrf a0 43), .int v5, .int ((40 * x1) + x2), .ref (zrf a0 38)])) rfl ?_
        refine Ez_al (M := zM212) rfl (zty (ci := 11) (f := 43) (t := 100) h0 rfl) hF (fun v7 hF => ?_)
        refine Ev_p 1 (c' := (73, [some (.ref a0), some (.int x1), some (.int x2)], [.int (v5 + v7), .int ((40 * x1) + x2), .ref (zrf a0 38)])) rfl ?_
        refine Ez_as (M := zM212) rfl (zty (ci := 11) (f := 38) (t := 100) h0 rfl) hF (fun s8 hF => ?_)
        refine Ev_p 2 (c' := (22, [some (.ref a0), some (.int x1), some (.int (x2 + (-1)))], [])) rfl ?_
        exact ih hF
noncomputable def zf212_9 (a0 : Nat)  : Nat → Int32 → zS → Option (zS)
  | 0, _, _ => none
  | n + 1, x1, s =>
    if x1 < 0 then
      some s
    else
      zal s (zrf a0 22) 1 fun v1 =>
      zf212_22 a0 (zf212_9 a0 n) zfz x1 (v1 - 1) s
theorem zf212_9_ok {K : cx_K} (hK : Kok K) {lg : Nat → Int64} {s' : zS} {a0 : Nat} (h0 : zsh a0 = 11)   {n : Nat} : ∀ {x1 : Int32} {s : zS}, zf212_9 a0 n x1 s = some s' → Ev K zM212 (9, [some (.ref a0), some (.int x1), none], [], zmk lg s) 0 (.inl none) (zmk lg s') 0 := by
  induction n with
  | zero => intro x1 s hF; rw [zf212_9] at hF; cases hF
  | succ n ih =>
    intro x1 s hF
    rw [zf212_9] at hF
    refine Ev_p 1 (c' := (10, [some (.ref a0), some (.int x1), none], [.int x1])) rfl ?_
    refine Ez_if (M := zM212) (b := x1 < 0) rfl rfl hF (fun _ hF => ?_) (fun _ hF => ?_)
    · refine Ev_p 0 (c' := (86, [some (.ref a0), some (.int x1), none], [])) rfl ?_
      exact Ez_rv (M := zM212) rfl rfl hF
    · refine Ev_p 1 (c' := (14, [some (.ref a0), some (.int x1), none], [.ref a0])) rfl ?_
      refine Ez_gr (M := zM212) (ci := 11) (f := 22) (t := 100) rfl rfl h0 rfl ?_
      refine Ev_p 1 (c' := (18, [some (.ref a0), some (.int x1), none], [.int 1, .ref (zrf a0 22)])) rfl ?_
      refine Ez_al (M := zM212) rfl (zty (ci := 11) (f := 22) (t := 100) h0 rfl) hF (fun v1 hF => ?_)
      refine Ev_p 3 (c' := (22, [some (.ref a0), some (.int x1), some (.int (v1 - 1))], [])) rfl ?_
      exact zf212_22_ok hK h0 (fun _ _ hF => ih hF) hF
noncomputable def zf212 (a0 : Nat) (s : zS) : Option (zS) :=
  zal s (zrf a0 22) 0 fun v1 =>
  zf212_9 a0 zfz (v1 - 1) s
theorem zf212_ok {K : cx_K} (hK : Kok K) {lg : Nat → Int64} {s' : zS} {a0 : Nat} (h0 : zsh a0 = 11)  {s : zS} (hF : zf212 a0 s = some s') : Ct K 212 [.ref a0] (zmk lg s) (.inl none) (zmk lg s') 0 := by
  unfold zf212 at hF
  refine Ct_of hK nd_ok212 (mL := 3) (rt := none) rfl rfl (Nat.le_of_ble_eq_true rfl) zlen_le ?_
  refine Ev_p 1 (c' := (1, [some (.ref a0), none, none], [.ref a0])) rfl ?_
  refine Ez_gr (M := zM212) (ci := 11) (f := 22) (t := 100) rfl rfl h0 rfl ?_
  refine Ev_p 1 (c' := (5, [some (.ref a0), none, none], [.int 0, .ref (zrf a0 22)])) rfl ?_
  refine Ez_al (M := zM212) rfl (zty (ci := 11) (f := 22) (t := 100) h0 rfl) hF (fun v1 hF => ?_)
  refine Ev_p 3 (c' := (9, [some (.ref a0), some (.int (v1 - 1)), none], [])) rfl ?_
  exact zf212_9_ok hK h0 hF
-- PaperParcelsModel.addStep(IIII)V
abbrev zM218 : ev_M := (am_in nd_i218, am_fl nd_f11, am_ct nd_k11, am_sl nd_ml nd_s218, fun _ => none, none)
noncomputable def zf218 (a0 : Nat) (x1 : Int32) (x2 : Int32) (x3 : Int32) (x4 : Int32) (s : zS) : Option (zS) :=
  zgf s a0 32 fun v1 =>
  zas s (zrf a0 33) v1 x1 fun s2 =>
  zgf s2 a0 32 fun v3 =>
  zas s2 (zrf a0 34) v3 x2 fun s4 =>
  zgf s4 a0 32 fun v5 =>
  zas s4 (zrf a0 35) v5 x3 fun s6 =>
  zgf s6 a0 32 fun v7 =>
  zas s6 (zrf a0 36) v7 x4 fun s8 =>
  zgf s8 a0 32 fun v9 =>
  zpf s8 a0 32 (v9 + 1) fun s10 =>
  some s10
theorem zf218_ok {K : cx_K} (hK : Kok K) {lg : Nat → Int64} {s' : zS} {a0 : Nat} (h0 : zsh a0 = 11) {x1 : Int32} {x2 : Int32} {x3 : Int32} {x4 : Int32} {s : zS} (hF : zf218 a0 x1 x2 x3 x4 s = some s') : Ct K 218 [.ref a0, .int x1, .int x2, .int x3, .int x4] (zmk lg s) (.inl none) (zmk lg s') 0 := by
  unfold zf218 at hF
  refine Ct_of hK nd_ok218 (mL := 5) (rt := none) rfl rfl (Nat.le_of_ble_eq_true rfl) zlen_le ?_
  refine Ev_p 1 (c' := (1, [some (.ref a0), some (.int x1), some (.int x2), some (.int x3), some (.int x4)], [.ref a0])) rfl ?_
  refine Ez_gr (M := zM218) (ci := 11) (f := 33) (t := 100) rfl rfl h0 rfl ?_
  refine Ev_p 1 (c' := (5, [some (.ref a0), some (.int x1), some (.int x2), some (.int x3), some (.int x4)], [.ref a0, .ref (zrf a0 33)])) rfl ?_
  refine Ez_gf (M := zM218) (ci := 11) (f := 32) rfl rfl h0 rfl hF (fun v1 hF => ?_)
  refine Ev_p 1 (c' := (9, [some (.ref a0), some (.int x1), some (.int x2), some (.int x3), some (.int x4)], [.int x1, .int v1, .ref (zrf a0 33)])) rfl ?_
  refine Ez_as (M := zM218) rfl (zty (ci := 11) (f := 33) (t := 100) h0 rfl) hF (fun s2 hF => ?_)
  refine Ev_p 1 (c' := (11, [some (.ref a0), some (.int x1), some (.int x2), some (.int x3), some (.int x4)], [.ref a0])) rfl ?_
  refine Ez_gr (M := zM218) (ci := 11) (f := 34) (t := 100) rfl rfl h0 rfl ?_
  refine Ev_p 1 (c' := (15, [some (.ref a0), some (.int x1), some (.int x2), some (.int x3), some (.int x4)], [.ref a0, .ref (zrf a0 34)])) rfl ?_
  refine Ez_gf (M := zM218) (ci := 11) (f := 32) rfl rfl h0 rfl hF (fun v3 hF => ?_)
  refine Ev_p 1 (c' := (19, [some (.ref a0), some (.int x1), some (.int x2), some (.int x3), some (.int x4)], [.int x2, .int v3, .ref (zrf a0 34)])) rfl ?_
  refine Ez_as (M := zM218) rfl (zty (ci := 11) (f := 34) (t := 100) h0 rfl) hF (fun s4 hF => ?_)
  refine Ev_p 1 (c' := (21, [some (.ref a0), some (.int x1), some (.int x2), some (.int x3), some (.int x4)], [.ref a0])) rfl ?_
  refine Ez_gr (M := zM218) (ci := 11) (f := 35) (t := 100) rfl rfl h0 rfl ?_
  refine Ev_p 1 (c' := (25, [some (.ref a0), some (.int x1), some (.int x2), some (.int x3), some (.int x4)], [.ref a0, .ref (zrf a0 35)])) rfl ?_
  refine Ez_gf (M := zM218) (ci := 11) (f := 32) rfl rfl h0 rfl hF (fun v5 hF => ?_)
  refine Ev_p 1 (c' := (29, [some (.ref a0), some (.int x1), some (.int x2), some (.int x3), some (.int x4)], [.int x3, .int v5, .ref (zrf a0 35)])) rfl ?_
  refine Ez_as (M := zM218) rfl (zty (ci := 11) (f := 35) (t := 100) h0 rfl) hF (fun s6 hF => ?_)
  refine Ev_p 1 (c' := (31, [some (.ref a0), some (.int x1), some (.int x2), some (.int x3), some (.int x4)], [.ref a0])) rfl ?_
  refine Ez_gr (M := zM218) (ci := 11) (f := 36) (t := 100) rfl rfl h0 rfl ?_
  refine Ev_p 1 (c' := (35, [some (.ref a0), some (.int x1), some (.int x2), some (.int x3), some (.int x4)], [.ref a0, .ref (zrf a0 36)])) rfl ?_
  refine Ez_gf (M := zM218) (ci := 11) (f := 32) rfl rfl h0 rfl hF (fun v7 hF => ?_)
  refine Ev_p 1 (c' := (40, [some (.ref a0), some (.int x1), some (.int x2), some (.int x3), some (.int x4)], [.int x4, .int v7, .ref (zrf a0 36)])) rfl ?_
  refine Ez_as (M := zM218) rfl (zty (ci := 11) (f := 36) (t := 100) h0 rfl) hF (fun s8 hF => ?_)
  refine Ev_p 2 (c' := (43, [some (.ref a0), some (.int x1), some (.int x2), some (.int x3), some (.int x4)], [.ref a0, .ref a0])) rfl ?_
  refine Ez_gf (M := zM218) (ci := 11) (f := 32) rfl rfl h0 rfl hF (fun v9 hF => ?_)
  refine Ev_p 2 (c' := (48, [some (.ref a0), some (.int x1), some (.int x2), some (.int x3), some (.int x4)], [.int (v9 + 1), .ref a0])) rfl ?_
  refine Ez_pf (M := zM218) (ci := 11) (f := 32) rfl rfl h0 rfl hF (fun s10 hF => ?_)
  refine Ev_p 0 (c' := (51, [some (.ref a0), some (.int x1), some (.int x2), some (.int x3), some (.int x4)], [])) rfl ?_
  exact Ez_rv (M := zM218) rfl rfl hF
-- PaperParcelsModel.beginPair(III)V
abbrev zM217 : ev_M := (am_in nd_i217, am_fl nd_f11, am_ct nd_k11, am_sl nd_ml nd_s217, fun _ => none, none)
noncomputable def zf217 (a0 : Nat) (x1 : Int32) (x2 : Int32) (x3 : Int32) (s : zS) : Option (zS) :=
  zas s (zrf a0 44) x1 x2 fun s1 =>
  zas s1 (zrf a0 45) x1 x3 fun s2 =>
  zas s2 (zrf a0 46) x1 0 fun s3 =>
  zas s3 (zrf a0 47) x1 0 fun s4 =>
  zbi (zf215 a0 x2 x3 s4) fun v5 s6 =>
  if v5 ≤ 0 then
    some s6
  else
    zbv (zf218 a0 x2 x3 (-1) (-1) s6) fun s8 =>
    some s8
theorem zf217_ok {K : cx_K} (hK : Kok K) {lg : Nat → Int64} {s' : zS} {a0 : Nat} (h0 : zsh a0 = 11) {x1 : Int32} {x2 : Int32} {x3 : Int32} {s : zS} (hF : zf217 a0 x1 x2 x3 s = some s') : Ct K 217 [.ref a0, .int x1, .int x2, .int x3] (zmk lg s) (.inl none) (zmk lg s') 0 := by
  unfold zf217 at hF
  refine Ct_of hK nd_ok217 (mL := 4) (rt := none) rfl rfl (Nat.le_of_ble_eq_true rfl) zlen_le ?_
  refine Ev_p 1 (c' := (1, [some (.ref a0), some (.int x1), some (.int x2), some (.int x3)], [.ref a0])) rfl ?_
  refine Ez_gr (M := zM217) (ci := 11) (f := 44) (t := 100) rfl rfl h0 rfl ?_
  refine Ev_p 2 (c' := (6, [some (.ref a0), some (.int x1), some (.int x2), some (.int x3)], [.int x2, .int x1, .ref (zrf a0 44)])) rfl ?_
  refine Ez_as (M := zM217) rfl (zty (ci := 11) (f := 44) (t := 100) h0 rfl) hF (fun s1 hF => ?_)
  refine Ev_p 1 (c' := (8, [some (.ref a0), some (.int x1), some (.int x2), some (.int x3)], [.ref a0])) rfl ?_
  refine Ez_gr (M := zM217) (ci := 11) (f := 45) (t := 100) rfl rfl h0 rfl ?_
  refine Ev_p 2 (c' := (13, [some (.ref a0), some (.int x1), some (.int x2), some (.int x3)], [.int x3, .int x1, .ref (zrf a0 45)])) rfl ?_
  refine Ez_as (M := zM217) rfl (zty (ci := 11) (f := 45) (t := 100) h0 rfl) hF (fun s2 hF => ?_)
  refine Ev_p 1 (c' := (15, [some (.ref a0), some (.int x1), some (.int x2), some (.int x3)], [.ref a0])) rfl ?_
  refine Ez_gr (M := zM217) (ci := 11) (f := 46) (t := 100) rfl rfl h0 rfl ?_
  refine Ev_p 2 (c' := (20, [some (.ref a0), some (.int x1), some (.int x2), some (.int x3)], [.int 0, .int x1, .ref (zrf a0 46)])) rfl ?_
  refine Ez_as (M := zM217) rfl (zty (ci := 11) (f := 46) (t := 100) h0 rfl) hF (fun s3 hF => ?_)
  refine Ev_p 1 (c' := (22, [some (.ref a0), some (.int x1), some (.int x2), some (.int x3)], [.ref a0])) rfl ?_
  refine Ez_gr (M := zM217) (ci := 11) (f := 47) (t := 100) rfl rfl h0 rfl ?_
  refine Ev_p 2 (c' := (27, [some (.ref a0), some (.int x1), some (.int x2), some (.int x3)], [.int 0, .int x1, .ref (zrf a0 47)])) rfl ?_
  refine Ez_as (M := zM217) rfl (zty (ci := 11) (f := 47) (t := 100) h0 rfl) hF (fun s4 hF => ?_)
  refine Ev_p 3 (c' := (31, [some (.ref a0), some (.int x1), some (.int x2), some (.int x3)], [.int x3, .int x2, .ref a0])) rfl ?_
  refine Ez_ci (M := zM217) (As := [.ref a0, .int x2, .int x3]) (st' := []) (am_site_v (y := 215) (k := 3) (ci := 11) rfl rfl (zrcv rfl h0 rfl)) (Nat.le_of_ble_eq_true rfl) (Nat.le_of_ble_eq_true rfl) rfl rfl (fun _ _ hF => zf215_ok hK h0 hF) hF (fun v5 s6 hF => ?_)
  refine Ev_p 0 (c' := (34, [some (.ref a0), some (.int x1), some (.int x2), some (.int x3)], [.int v5])) rfl ?_
  refine Ez_if (M := zM217) (b := v5 ≤ 0) rfl rfl hF (fun _ hF => ?_) (fun _ hF => ?_)
  · refine Ev_p 0 (c' := (45, [some (.ref a0), some (.int x1), some (.int x2), some (.int x3)], [])) rfl ?_
    exact Ez_rv (M := zM217) rfl rfl hF
  · refine Ev_p 5 (c' := (42, [some (.ref a0), some (.int x1), some (.int x2), some (.int x3)], [.int (-1), .int (-1), .int x3, .int x2, .ref a0])) rfl ?_
    refine Ez_cv (M := zM217) (As := [.ref a0, .int x2, .int x3, .int (-1), .int (-1)]) (st' := []) (am_site_v (y := 218) (k := 5) (ci := 11) rfl rfl (zrcv rfl h0 rfl)) (Nat.le_of_ble_eq_true rfl) (Nat.le_of_ble_eq_true rfl) rfl rfl (fun _ hF => zf218_ok hK h0 hF) hF (fun s8 hF => ?_)
    refine Ev_p 0 (c' := (45, [some (.ref a0), some (.int x1), some (.int x2), some (.int x3)], [])) rfl ?_
    exact Ez_rv (M := zM217) rfl rfl hF
-- PaperParcelsModel.goOn(I)Z
abbrev zM219 : ev_M := (am_in nd_i219, am_fl nd_f11, am_ct nd_k11, am_sl nd_ml nd_s219, fun _ => none, some .boolean)
noncomputable def zf219_247 (a0 : Nat) (k33 : Int32 → Int32 → Int32 → Int32 → zS → Option (Int32 × zS)) (x1 : Int32) (x2 : Int32) (x3 : Int32) (x4 : Int32) (t0 : Int32) (t1 : Int32) (t2 : Int32) (t3 : Int32) (s : zS) : Option (Int32 × zS) :=
  zbv (zf218 a0 t3 t2 t1 t0 s) fun s2 =>
  k33 x1 x2 x3 (x4 + 1) s2
theorem zf219_247_ok {K : cx_K} (hK : Kok K) {lg : Nat → Int64} {v : Int32} {s' : zS} {a0 : Nat} (h0 : zsh a0 = 11) {k33 : Int32 → Int32 → Int32 → Int32 → zS → Option (Int32 × zS)} (hk33 : ∀ x1 x2 x3 x4 s, k33 x1 x2 x3 x4 s = some (v, s') → Ev K zM219 (33, [some (.ref a0), some (.int x1), some (.int x2), some (.int x3), some (.int x4), none], [], zmk lg s) 0 (.inl (some (.int v))) (zmk lg s') 0) {x1 : Int32} {x2 : Int32} {x3 : Int32} {x4 : Int32} {t0 : Int32} {t1 : Int32} {t2 : Int32} {t3 : Int32}  {s : zS} (hF : zf219_247 a0 k33 x1 x2 x3 x4 t0 t1 t2 t3 s = some (v, s')) : Ev K zM219 (247, [some (.ref a0), some (.int x1), some (.int x2), some (.int x3), some (.int x4), none], [.int t0, .int t1, .int t2, .int t3, .ref a0], zmk lg s) 0 (.inl (some (.int v))) (zmk lg s') 0 := by
  unfold zf219_247 at hF
  refine Ev_p 0 (c' := (247, [some (.ref a0), some (.int x1), some (.int x2), some (.int x3), some (.int x4), none], [.int t0, .int t1, .int t2, .int t3, .ref a0])) rfl ?_
  refine Ez_cv (M := zM219) (As := [.ref a0, .int t3, .int t2, .int t1, .int t0]) (st' := []) (am_site_v (y := 218) (k := 5) (ci := 11) rfl rfl (zrcv rfl h0 rfl)) (Nat.le_of_ble_eq_true rfl) (Nat.le_of_ble_eq_true rfl) rfl rfl (fun _ hF => zf218_ok hK h0 hF) hF (fun s2 hF => ?_)
  refine Ev_p 2 (c' := (33, [some (.ref a0), some (.int x1), some (.int x2), some (.int x3), some (.int (x4 + 1)), none], [])) rfl ?_
  exact hk33 _ _ _ _ _ hF
noncomputable def zf219_219 (a0 : Nat) (k33 : Int32 → Int32 → Int32 → Int32 → zS → Option (Int32 × zS)) (x1 : Int32) (x2 : Int32) (x3 : Int32) (x4 : Int32) (s : zS) : Option (Int32 × zS) :=
  zal s (zrf a0 40) x4 fun v1 =>
  zgf s a0 41 fun v2 =>
  if v2 ≤ x3 then
    zf219_247 a0 k33 x1 x2 x3 x4 (-1) x2 v1 (-1) s
  else
    zal s (zrf a0 39) x3 fun v3 =>
    zf219_247 a0 k33 x1 x2 x3 x4 v3 x2 v1 (-1) s
theorem zf219_219_ok {K : cx_K} (hK : Kok K) {lg : Nat → Int64} {v : Int32} {s' : zS} {a0 : Nat} (h0 : zsh a0 = 11) {k33 : Int32 → Int32 → Int32 → Int32 → zS → Option (Int32 × zS)} (hk33 : ∀ x1 x2 x3 x4 s, k33 x1 x2 x3 x4 s = some (v, s') → Ev K zM219 (33, [some (.ref a0), some (.int x1), some (.int x2), some (.int x3), some (.int x4), none], [], zmk lg s) 0 (.inl (some (.int v))) (zmk lg s') 0) {x1 : Int32} {x2 : Int32} {x3 : Int32} {x4 : Int32}  {s : zS} (hF : zf219_219 a0 k33 x1 x2 x3 x4 s = some (v, s')) : Ev K zM219 (219, [some (.ref a0), some (.int x1), some (.int x2), some (.int x3), some (.int x4), none], [], zmk lg s) 0 (.inl (some (.int v))) (zmk lg s') 0 := by
  unfold zf219_219 at hF
  refine Ev_p 3 (c' := (222, [some (.ref a0), some (.int x1), some (.int x2), some (.int x3), some (.int x4), none], [.ref a0, .int (-1), .ref a0])) rfl ?_
  refine Ez_gr (M := zM219) (ci := 11) (f := 40) (t := 100) rfl rfl h0 rfl ?_
  refine Ev_p 1 (c' := (227, [some (.ref a0), some (.int x1), some (.int x2), some (.int x3), some (.int x4), none], [.int x4, .ref (zrf a0 40), .int (-1), .ref a0])) rfl ?_
  refine Ez_al (M := zM219) rfl (zty (ci := 11) (f := 40) (t := 100) h0 rfl) hF (fun v1 hF => ?_)
  refine Ev_p 3 (c' := (231, [some (.ref a0), some (.int x1), some (.int x2), some (.int x3), some (.int x4), none], [.ref a0, .int x3, .int x2, .int v1, .int (-1), .ref a0])) rfl ?_
  refine Ez_gf (M := zM219) (ci := 11) (f := 41) rfl rfl h0 rfl hF (fun v2 hF => ?_)
  refine Ev_p 0 (c' := (234, [some (.ref a0), some (.int x1), some (.int x2), some (.int x3), some (.int x4), none], [.int v2, .int x3, .int x2, .int v1, .int (-1), .ref a0])) rfl ?_
  refine Ez_if (M := zM219) (b := v2 ≤ x3) rfl rfl hF (fun _ hF => ?_) (fun _ hF => ?_)
  · refine Ev_p 1 (c' := (247, [some (.ref a0), some (.int x1), some (.int x2), some (.int x3), some (.int x4), none], [.int (-1), .int x2, .int v1, .int (-1), .ref a0])) rfl ?_
    exact zf219_247_ok hK h0 hk33 hF
  · refine Ev_p 1 (c' := (238, [some (.ref a0), some (.int x1), some (.int x2), some (.int x3), some (.int x4), none], [.ref a0, .int x2, .int v1, .int (-1), .ref a0])) rfl ?_
    refine Ez_gr (M := zM219) (ci := 11) (f := 39) (t := 100) rfl rfl h0 rfl ?_
    refine Ev_p 1 (c' := (242, [some (.ref a0), some (.int x1), some (.int x2), some (.int x3), some (.int x4), none], [.int x3, .ref (zrf a0 39), .int x2, .int v1, .int (-1), .ref a0])) rfl ?_
    refine Ez_al (M := zM219) rfl (zty (ci := 11) (f := 39) (t := 100) h0 rfl) hF (fun v3 hF => ?_)
    refine Ev_p 1 (c' := (247, [some (.ref a0), some (.int x1), some (.int x2), some (.int x3), some (.int x4), none], [.int v3, .int x2, .int v1, .int (-1), .ref a0])) rfl ?_
    exact zf219_247_ok hK h0 hk33 hF
noncomputable def zf219_160 (a0 : Nat) (k33 : Int32 → Int32 → Int32 → Int32 → zS → Option (Int32 × zS)) (x1 : Int32) (x2 : Int32) (x3 : Int32) (x4 : Int32) (x5 : Int32) (s : zS) : Option (Int32 × zS) :=
  zgf s a0 41 fun v1 =>
  if v1 ≤ x3 then
    zf219_219 a0 k33 x1 x2 x3 x4 s
  else
    zal s (zrf a0 39) x3 fun v2 =>
    zal s (zrf a0 37) v2 fun v3 =>
    zal s (zrf a0 43) (((41 * x3) + 41) + x4) fun v4 =>
    if ¬ (v3 + v4) = x5 then
      zf219_219 a0 k33 x1 x2 x3 x4 s
    else
      zal s (zrf a0 39) x3 fun v5 =>
      zbv (zf218 a0 v5 (-1) (-1) (-1) s) fun s7 =>
      k33 x1 x2 (x3 + 1) x4 s7
theorem zf219_160_ok {K : cx_K} (hK : Kok K) {lg : Nat → Int64} {v : Int32} {s' : zS} {a0 : Nat} (h0 : zsh a0 = 11) {k33 : Int32 → Int32 → Int32 → Int32 → zS → Option (Int32 × zS)} (hk33 : ∀ x1 x2 x3 x4 s, k33 x1 x2 x3 x4 s = some (v, s') → Ev K zM219 (33, [some (.ref a0), some (.int x1), some (.int x2), some (.int x3), some (.int x4), none], [], zmk lg s) 0 (.inl (some (.int v))) (zmk lg s') 0) {x1 : Int32} {x2 : Int32} {x3 : Int32} {x4 : Int32} {x5 : Int32}  {s : zS} (hF : zf219_160 a0 k33 x1 x2 x3 x4 x5 s = some (v, s')) : Ev K zM219 (160, [some (.ref a0), some (.int x1), some (.int x2), some (.int x3), some (.int x4), some (.int x5)], [], zmk lg s) 0 (.inl (some (.int v))) (zmk lg s') 0 := by
  unfold zf219_160 at hF
  refine Ev_p 2 (c' := (162, [some (.ref a0), some (.int x1), some (.int x2), some (.int x3), some (.int x4), some (.int x5)], [.ref a0, .int x3])) rfl ?_
  refine Ez_gf (M := zM219) (ci := 11) (f := 41) rfl rfl h0 rfl hF (fun v1 hF => ?_)
  refine Ev_p 0 (c' := (165, [some (.ref a0), some (.int x1), some (.int x2), some (.int x3), some (.int x4), some (.int x5)], [.int v1, .int x3])) rfl ?_
  refine Ez_if (M := zM219) (b := v1 ≤ x3) rfl rfl hF (fun _ hF => ?_) (fun _ hF => ?_)
  · refine Ev_p 0 (c' := (219, [some (.ref a0), some (.int x1), some (.int x2), some (.int x3), some (.int x4), some (.int x5)], [])) rfl ?_
    refine Ev_w (L' := [some (.ref a0), some (.int x1), some (.int x2), some (.int x3), some (.int x4), none]) (zle_c (zle_c (zle_c (zle_c (zle_c (zle_n zle_0)))))) ?_
    exact zf219_219_ok hK h0 hk33 hF
  · refine Ev_p 1 (c' := (169, [some (.ref a0), some (.int x1), some (.int x2), some (.int x3), some (.int x4), some (.int x5)], [.ref a0])) rfl ?_
    refine Ez_gr (M := zM219) (ci := 11) (f := 37) (t := 100) rfl rfl h0 rfl ?_
    refine Ev_p 1 (c' := (173, [some (.ref a0), some (.int x1), some (.int x2), some (.int x3), some (.int x4), some (.int x5)], [.ref a0, .ref (zrf a0 37)])) rfl ?_
    refine Ez_gr (M := zM219) (ci := 11) (f := 39) (t := 100) rfl rfl h0 rfl ?_
    refine Ev_p 1 (c' := (177, [some (.ref a0), some (.int x1), some (.int x2), some (.int x3), some (.int x4), some (.int x5)], [.int x3, .ref (zrf a0 39), .ref (zrf a0 37)])) rfl ?_
    refine Ez_al (M := zM219) rfl (zty (ci := 11) (f := 39) (t := 100) h0 rfl) hF (fun v2 hF => ?_)
    refine Ev_p 0 (c' := (178, [some (.ref a0), some (.int x1), some (.int x2), some (.int x3), some (.int x4), some (.int x5)], [.int v2, .ref (zrf a0 37)])) rfl ?_
    refine Ez_al (M := zM219) rfl (zty (ci := 11) (f := 37) (t := 100) h0 rfl) hF (fun v3 hF => ?_)
    refine Ev_p 1 (c' := (180, [some (.ref a0), some (.int x1), some (.int x2), some (.int x3), some (.int x4), some (.int x5)], [.ref a0, .int v3])) rfl ?_
    refine Ez_gr (M := zM219) (ci := 11) (f := 43) (t := 100) rfl rfl h0 rfl ?_
    refine Ev_p 7 (c' := (193, [some (.ref a0), some (.int x1), some (.int x2), some (.int x3), some (.int x4), some (.int x5)], [.int (((41 * x3) + 41) + x4), .ref (zrf a0 43), .int v3])) rfl ?_
    refine Ez_al (M := zM219) rfl (zty (ci := 11) (f := 43) (t := 100) h0 rfl) hF (fun v4 hF => ?_)
    refine Ev_p 2 (c' := (197, [some (.ref a0), some (.int x1), some (.int x2), some (.int x3), some (.int x4), some (.int x5)], [.int x5, .int (v3 + v4)])) rfl ?_
    refine Ez_if (M := zM219) (b := ¬ (v3 + v4) = x5) rfl rfl hF (fun _ hF => ?_) (fun _ hF => ?_)
    · refine Ev_p 0 (c' := (219, [some (.ref a0), some (.int x1), some (.int x2), some (.int x3), some (.int x4), some (.int x5)], [])) rfl ?_
      refine Ev_w (L' := [some (.ref a0), some (.int x1), some (.int x2), some (.int x3), some (.int x4), none]) (zle_c (zle_c (zle_c (zle_c (zle_c (zle_n zle_0)))))) ?_
      exact zf219_219_ok hK h0 hk33 hF
    · refine Ev_p 2 (c' := (202, [some (.ref a0), some (.int x1), some (.int x2), some (.int x3), some (.int x4), some (.int x5)], [.ref a0, .ref a0])) rfl ?_
      refine Ez_gr (M := zM219) (ci := 11) (f := 39) (t := 100) rfl rfl h0 rfl ?_
      refine Ev_p 1 (c' := (206, [some (.ref a0), some (.int x1), some (.int x2), some (.int x3), some (.int x4), some (.int x5)], [.int x3, .ref (zrf a0 39), .ref a0])) rfl ?_
      refine Ez_al (M := zM219) rfl (zty (ci := 11) (f := 39) (t := 100) h0 rfl) hF (fun v5 hF => ?_)
      refine Ev_p 3 (c' := (210, [some (.ref a0), some (.int x1), some (.int x2), some (.int x3), some (.int x4), some (.int x5)], [.int (-1), .int (-1), .int (-1), .int v5, .ref a0])) rfl ?_
      refine Ez_cv (M := zM219) (As := [.ref a0, .int v5, .int (-1), .int (-1), .int (-1)]) (st' := []) (am_site_v (y := 218) (k := 5) (ci := 11) rfl rfl (zrcv rfl h0 rfl)) (Nat.le_of_ble_eq_true rfl) (Nat.le_of_ble_eq_true rfl) rfl rfl (fun _ hF => zf218_ok hK h0 hF) hF (fun s7 hF => ?_)
      refine Ev_p 3 (c' := (33, [some (.ref a0), some (.int x1), some (.int x2), some (.int (x3 + 1)), some (.int x4), some (.int x5)], [])) rfl ?_
      refine Ev_w (L' := [some (.ref a0), some (.int x1), some (.int x2), some (.int (x3 + 1)), some (.int x4), none]) (zle_c (zle_c (zle_c (zle_c (zle_c (zle_n zle_0)))))) ?_
      exact hk33 _ _ _ _ _ hF
noncomputable def zf219_50 (a0 : Nat) (k33 : Int32 → Int32 → Int32 → Int32 → zS → Option (Int32 × zS)) (x1 : Int32) (x2 : Int32) (x3 : Int32) (x4 : Int32) (s : zS) : Option (Int32 × zS) :=
  zal s (zrf a0 43) ((41 * x3) + x4) fun v1 =>
  zbi (zf214 a0 x3 x4 s) fun v2 s3 =>
  if v2 = 0 then
    zf219_160 a0 k33 x1 x2 x3 x4 v1 s3
  else
    zal s3 (zrf a0 39) x3 fun v4 =>
    zal s3 (zrf a0 40) x4 fun v5 =>
    zal s3 (zrf a0 38) ((40 * v4) + v5) fun v6 =>
    zal s3 (zrf a0 43) ((((41 * x3) + 41) + x4) + 1) fun v7 =>
    if ¬ (v6 + v7) = v1 then
      zf219_160 a0 k33 x1 x2 x3 x4 v1 s3
    else
      zas s3 (zrf a0 46) x1 (x3 + 1) fun s8 =>
      zas s8 (zrf a0 47) x1 (x4 + 1) fun s9 =>
      zal s9 (zrf a0 39) x3 fun v10 =>
      zal s9 (zrf a0 40) x4 fun v11 =>
      zbv (zf217 a0 (x1 + 1) v10 v11 s9) fun s13 =>
      zrb 1 s13
theorem zf219_50_ok {K : cx_K} (hK : Kok K) {lg : Nat → Int64} {v : Int32} {s' : zS} {a0 : Nat} (h0 : zsh a0 = 11) {k33 : Int32 → Int32 → Int32 → Int32 → zS → Option (Int32 × zS)} (hk33 : ∀ x1 x2 x3 x4 s, k33 x1 x2 x3 x4 s = some (v, s') → Ev K zM219 (33, [some (.ref a0), some (.int x1), some (.int x2), some (.int x3), some (.int x4), none], [], zmk lg s) 0 (.inl (some (.int v))) (zmk lg s') 0) {x1 : Int32} {x2 : Int32} {x3 : Int32} {x4 : Int32}  {s : zS} (hF : zf219_50 a0 k33 x1 x2 x3 x4 s = some (v, s')) : Ev K zM219 (50, [some (.ref a0), some (.int x1), some (.int x2), some (.int x3), some (.int x4), none], [], zmk lg s) 0 (.inl (some (.int v))) (zmk lg s') 0 := by
  unfold zf219_50 at hF
  refine Ev_p 1 (c' := (51, [some (.ref a0), some (.int x1), some (.int x2), some (.int x3), some (.int x4), none], [.ref a0])) rfl ?_
  refine Ez_gr (M := zM219) (ci := 11) (f := 43) (t := 100) rfl rfl h0 rfl ?_
  refine Ev_p 5 (c' := (61, [some (.ref a0), some (.int x1), some (.int x2), some (.int x3), some (.int x4), none], [.int ((41 * x3) + x4), .ref (zrf a0 43)])) rfl ?_
  refine Ez_al (M := zM219) rfl (zty (ci := 11) (f := 43) (t := 100) h0 rfl) hF (fun v1 hF => ?_)
  refine Ev_p 4 (c' := (68, [some (.ref a0), some (.int x1), some (.int x2), some (.int x3), some (.int x4), some (.int v1)], [.int x4, .int x3, .ref a0])) rfl ?_
  refine Ez_ci (M := zM219) (As := [.ref a0, .int x3, .int x4]) (st' := []) (am_site_v (y := 214) (k := 3) (ci := 11) rfl rfl (zrcv rfl h0 rfl)) (Nat.le_of_ble_eq_true rfl) (Nat.le_of_ble_eq_true rfl) rfl rfl (fun _ _ hF => zf214_ok hK h0 hF) hF (fun v2 s3 hF => ?_)
  refine Ev_p 0 (c' := (71, [some (.ref a0), some (.int x1), some (.int x2), some (.int x3), some (.int x4), some (.int v1)], [.int v2])) rfl ?_
  refine Ez_if (M := zM219) (b := v2 = 0) rfl rfl hF (fun _ hF => ?_) (fun _ hF => ?_)
  · refine Ev_p 0 (c' := (160, [some (.ref a0), some (.int x1), some (.int x2), some (.int x3), some (.int x4), some (.int v1)], [])) rfl ?_
    exact zf219_160_ok hK h0 hk33 hF
  · refine Ev_p 1 (c' := (75, [some (.ref a0), some (.int x1), some (.int x2), some (.int x3), some (.int x4), some (.int v1)], [.ref a0])) rfl ?_
    refine Ez_gr (M := zM219) (ci := 11) (f := 38) (t := 100) rfl rfl h0 rfl ?_
    refine Ev_p 2 (c' := (81, [some (.ref a0), some (.int x1), some (.int x2), some (.int x3), some (.int x4), some (.int v1)], [.ref a0, .int 40, .ref (zrf a0 38)])) rfl ?_
    refine Ez_gr (M := zM219) (ci := 11) (f := 39) (t := 100) rfl rfl h0 rfl ?_
    refine Ev_p 1 (c' := (85, [some (.ref a0), some (.int x1), some (.int x2), some (.int x3), some (.int x4), some (.int v1)], [.int x3, .ref (zrf a0 39), .int 40, .ref (zrf a0 38)])) rfl ?_
    refine Ez_al (M := zM219) rfl (zty (ci := 11) (f := 39) (t := 100) h0 rfl) hF (fun v4 hF => ?_)
    refine Ev_p 2 (c' := (88, [some (.ref a0), some (.int x1), some (.int x2), some (.int x3), some (.int x4), some (.int v1)], [.ref a0, .int (40 * v4), .ref (zrf a0 38)])) rfl ?_
    refine Ez_gr (M := zM219) (ci := 11) (f := 40) (t := 100) rfl rfl h0 rfl ?_
    refine Ev_p 1 (c' := (93, [some (.ref a0), some (.int x1), some (.int x2), some (.int x3), some (.int x4), some (.int v1)], [.int x4, .ref (zrf a0 40), .int (40 * v4), .ref (zrf a0 38)])) rfl ?_
    refine Ez_al (M := zM219) rfl (zty (ci := 11) (f := 40) (t := 100) h0 rfl) hF (fun v5 hF => ?_)
    refine Ev_p 1 (c' := (95, [some (.ref a0), some (.int x1), some (.int x2), some (.int x3), some (.int x4), some (.int v1)], [.int ((40 * v4) + v5), .ref (zrf a0 38)])) rfl ?_
    refine Ez_al (M := zM219) rfl (zty (ci := 11) (f := 38) (t := 100) h0 rfl) hF (fun v6 hF => ?_)
    refine Ev_p 1 (c' := (97, [some (.ref a0), some (.int x1), some (.int x2), some (.int x3), some (.int x4), some (.int v1)], [.ref a0, .int v6])) rfl ?_
    refine Ez_gr (M := zM219) (ci := 11) (f := 43) (t := 100) rfl rfl h0 rfl ?_
    refine Ev_p 9 (c' := (112, [some (.ref a0), some (.int x1), some (.int x2), some (.int x3), some (.int x4), some (.int v1)], [.int ((((41 * x3) + 41) + x4) + 1), .ref (zrf a0 43), .int v6])) rfl ?_
    refine Ez_al (M := zM219) rfl (zty (ci := 11) (f := 43) (t := 100) h0 rfl) hF (fun v7 hF => ?_)
    refine Ev_p 2 (c' := (116, [some (.ref a0), some (.int x1), some (.int x2), some (.int x3), some (.int x4), some (.int v1)], [.int v1, .int (v6 + v7)])) rfl ?_
    refine Ez_if (M := zM219) (b := ¬ (v6 + v7) = v1) rfl rfl hF (fun _ hF => ?_) (fun _ hF => ?_)
    · refine Ev_p 0 (c' := (160, [some (.ref a0), some (.int x1), some (.int x2), some (.int x3), some (.int x4), some (.int v1)], [])) rfl ?_
      exact zf219_160_ok hK h0 hk33 hF
    · refine Ev_p 1 (c' := (120, [some (.ref a0), some (.int x1), some (.int x2), some (.int x3), some (.int x4), some (.int v1)], [.ref a0])) rfl ?_
      refine Ez_gr (M := zM219) (ci := 11) (f := 46) (t := 100) rfl rfl h0 rfl ?_
      refine Ev_p 4 (c' := (127, [some (.ref a0), some (.int x1), some (.int x2), some (.int x3), some (.int x4), some (.int v1)], [.int (x3 + 1), .int x1, .ref (zrf a0 46)])) rfl ?_
      refine Ez_as (M := zM219) rfl (zty (ci := 11) (f := 46) (t := 100) h0 rfl) hF (fun s8 hF => ?_)
      refine Ev_p 1 (c' := (129, [some (.ref a0), some (.int x1), some (.int x2), some (.int x3), some (.int x4), some (.int v1)], [.ref a0])) rfl ?_
      refine Ez_gr (M := zM219) (ci := 11) (f := 47) (t := 100) rfl rfl h0 rfl ?_
      refine Ev_p 4 (c' := (137, [some (.ref a0), some (.int x1), some (.int x2), some (.int x3), some (.int x4), some (.int v1)], [.int (x4 + 1), .int x1, .ref (zrf a0 47)])) rfl ?_
      refine Ez_as (M := zM219) rfl (zty (ci := 11) (f := 47) (t := 100) h0 rfl) hF (fun s9 hF => ?_)
      refine Ev_p 5 (c' := (143, [some (.ref a0), some (.int x1), some (.int x2), some (.int x3), some (.int x4), some (.int v1)], [.ref a0, .int (x1 + 1), .ref a0])) rfl ?_
      refine Ez_gr (M := zM219) (ci := 11) (f := 39) (t := 100) rfl rfl h0 rfl ?_
      refine Ev_p 1 (c' := (147, [some (.ref a0), some (.int x1), some (.int x2), some (.int x3), some (.int x4), some (.int v1)], [.int x3, .ref (zrf a0 39), .int (x1 + 1), .ref a0])) rfl ?_
      refine Ez_al (M := zM219) rfl (zty (ci := 11) (f := 39) (t := 100) h0 rfl) hF (fun v10 hF => ?_)
      refine Ev_p 1 (c' := (149, [some (.ref a0), some (.int x1), some (.int x2), some (.int x3), some (.int x4), some (.int v1)], [.ref a0, .int v10, .int (x1 + 1), .ref a0])) rfl ?_
      refine Ez_gr (M := zM219) (ci := 11) (f := 40) (t := 100) rfl rfl h0 rfl ?_
      refine Ev_p 1 (c' := (154, [some (.ref a0), some (.int x1), some (.int x2), some (.int x3), some (.int x4), some (.int v1)], [.int x4, .ref (zrf a0 40), .int v10, .int (x1 + 1), .ref a0])) rfl ?_
      refine Ez_al (M := zM219) rfl (zty (ci := 11) (f := 40) (t := 100) h0 rfl) hF (fun v11 hF => ?_)
      refine Ev_p 0 (c' := (155, [some (.ref a0), some (.int x1), some (.int x2), some (.int x3), some (.int x4), some (.int v1)], [.int v11, .int v10, .int (x1 + 1), .ref a0])) rfl ?_
      refine Ez_cv (M := zM219) (As := [.ref a0, .int (x1 + 1), .int v10, .int v11]) (st' := []) (am_site_v (y := 217) (k := 4) (ci := 11) rfl rfl (zrcv rfl h0 rfl)) (Nat.le_of_ble_eq_true rfl) (Nat.le_of_ble_eq_true rfl) rfl rfl (fun _ hF => zf217_ok hK h0 hF) hF (fun s13 hF => ?_)
      refine Ev_p 1 (c' := (159, [some (.ref a0), some (.int x1), some (.int x2), some (.int x3), some (.int x4), some (.int v1)], [.int 1])) rfl ?_
      exact Ez_rb (M := zM219) rfl rfl hF
noncomputable def zf219_33 (a0 : Nat)  : Nat → Int32 → Int32 → Int32 → Int32 → zS → Option (Int32 × zS)
  | 0, _, _, _, _, _ => none
  | n + 1, x1, x2, x3, x4, s =>
    zgf s a0 41 fun v1 =>
    if x3 < v1 then
      zf219_50 a0 (zf219_33 a0 n) x1 x2 x3 x4 s
    else
      zgf s a0 42 fun v2 =>
      if v2 ≤ x4 then
        zrb 0 s
      else
        zf219_50 a0 (zf219_33 a0 n) x1 x2 x3 x4 s
theorem zf219_33_ok {K : cx_K} (hK : Kok K) {lg : Nat → Int64} {v : Int32} {s' : zS} {a0 : Nat} (h0 : zsh a0 = 11)   {n : Nat} : ∀ {x1 : Int32} {x2 : Int32} {x3 : Int32} {x4 : Int32} {s : zS}, zf219_33 a0 n x1 x2 x3 x4 s = some (v, s') → Ev K zM219 (33, [some (.ref a0), some (.int x1), some (.int x2), some (.int x3), some (.int x4), none], [], zmk lg s) 0 (.inl (some (.int v))) (zmk lg s') 0 := by
  induction n with
  | zero => intro x1 x2 x3 x4 s hF; rw [zf219_33] at hF; cases hF
  | succ n ih =>
    intro x1 x2 x3 x4 s hF
    rw [zf219_33] at hF
    refine Ev_p 2 (c' := (35, [some (.ref a0), some (.int x1), some (.int x2), some (.int x3), some (.int x4), none], [.ref a0, .int x3])) rfl ?_
    refine Ez_gf (M := zM219) (ci := 11) (f := 41) rfl rfl h0 rfl hF (fun v1 hF => ?_)
    refine Ev_p 0 (c' := (38, [some (.ref a0), some (.int x1), some (.int x2), some (.int x3), some (.int x4), none], [.int v1, .int x3])) rfl ?_
    refine Ez_if (M := zM219) (b := x3 < v1) rfl rfl hF (fun _ hF => ?_) (fun _ hF => ?_)
    · refine Ev_p 0 (c' := (50, [some (.ref a0), some (.int x1), some (.int x2), some (.int x3), some (.int x4), none], [])) rfl ?_
      exact zf219_50_ok hK h0 (fun _ _ _ _ _ hF => ih hF) hF
    · refine Ev_p 2 (c' := (44, [some (.ref a0), some (.int x1), some (.int x2), some (.int x3), some (.int x4), none], [.ref a0, .int x4])) rfl ?_
      refine Ez_gf (M := zM219) (ci := 11) (f := 42) rfl rfl h0 rfl hF (fun v2 hF => ?_)
      refine Ev_p 0 (c' := (47, [some (.ref a0), some (.int x1), some (.int x2), some (.int x3), some (.int x4), none], [.int v2, .int x4])) rfl ?_
      refine Ez_if (M := zM219) (b := v2 ≤ x4) rfl rfl hF (fun _ hF => ?_) (fun _ hF => ?_)
      · refine Ev_p 1 (c' := (257, [some (.ref a0), some (.int x1), some (.int x2), some (.int x3), some (.int x4), none], [.int 0])) rfl ?_
        exact Ez_rb (M := zM219) rfl rfl hF
      · refine Ev_p 0 (c' := (50, [some (.ref a0), some (.int x1), some (.int x2), some (.int x3), some (.int x4), none], [])) rfl ?_
        exact zf219_50_ok hK h0 (fun _ _ _ _ _ hF => ih hF) hF
noncomputable def zf219 (a0 : Nat) (x1 : Int32) (s : zS) : Option (Int32 × zS) :=
  zal s (zrf a0 44) x1 fun v1 =>
  zal s (zrf a0 45) x1 fun v2 =>
  zbv (zf213 a0 v1 v2 s) fun s4 =>
  zal s4 (zrf a0 46) x1 fun v5 =>
  zal s4 (zrf a0 47) x1 fun v6 =>
  zf219_33 a0 zfz x1 v1 v5 v6 s4
theorem zf219_ok {K : cx_K} (hK : Kok K) {lg : Nat → Int64} {v : Int32} {s' : zS} {a0 : Nat} (h0 : zsh a0 = 11) {x1 : Int32} {s : zS} (hF : zf219 a0 x1 s = some (v, s')) : Ct K 219 [.ref a0, .int x1] (zmk lg s) (.inl (some (.int v))) (zmk lg s') 0 := by
  unfold zf219 at hF
  refine Ct_of hK nd_ok219 (mL := 6) (rt := some .boolean) rfl rfl (Nat.le_of_ble_eq_true rfl) zlen_le ?_
  refine Ev_p 1 (c' := (1, [some (.ref a0), some (.int x1), none, none, none, none], [.ref a0])) rfl ?_
  refine Ez_gr (M := zM219) (ci := 11) (f := 44) (t := 100) rfl rfl h0 rfl ?_
  refine Ev_p 1 (c' := (5, [some (.ref a0), some (.int x1), none, none, none, none], [.int x1, .ref (zrf a0 44)])) rfl ?_
  refine Ez_al (M := zM219) rfl (zty (ci := 11) (f := 44) (t := 100) h0 rfl) hF (fun v1 hF => ?_)
  refine Ev_p 4 (c' := (10, [some (.ref a0), some (.int x1), some (.int v1), none, none, none], [.ref a0, .int v1, .ref a0])) rfl ?_
  refine Ez_gr (M := zM219) (ci := 11) (f := 45) (t := 100) rfl rfl h0 rfl ?_
  refine Ev_p 1 (c' := (14, [some (.ref a0), some (.int x1), some (.int v1), none, none, none], [.int x1, .ref (zrf a0 45), .int v1, .ref a0])) rfl ?_
  refine Ez_al (M := zM219) rfl (zty (ci := 11) (f := 45) (t := 100) h0 rfl) hF (fun v2 hF => ?_)
  refine Ev_p 0 (c' := (15, [some (.ref a0), some (.int x1), some (.int v1), none, none, none], [.int v2, .int v1, .ref a0])) rfl ?_
  refine Ez_cv (M := zM219) (As := [.ref a0, .int v1, .int v2]) (st' := []) (am_site_v (y := 213) (k := 3) (ci := 11) rfl rfl (zrcv rfl h0 rfl)) (Nat.le_of_ble_eq_true rfl) (Nat.le_of_ble_eq_true rfl) rfl rfl (fun _ hF => zf213_ok hK h0 hF) hF (fun s4 hF => ?_)
  refine Ev_p 1 (c' := (19, [some (.ref a0), some (.int x1), some (.int v1), none, none, none], [.ref a0])) rfl ?_
  refine Ez_gr (M := zM219) (ci := 11) (f := 46) (t := 100) rfl rfl h0 rfl ?_
  refine Ev_p 1 (c' := (23, [some (.ref a0), some (.int x1), some (.int v1), none, none, none], [.int x1, .ref (zrf a0 46)])) rfl ?_
  refine Ez_al (M := zM219) rfl (zty (ci := 11) (f := 46) (t := 100) h0 rfl) hF (fun v5 hF => ?_)
  refine Ev_p 2 (c' := (26, [some (.ref a0), some (.int x1), some (.int v1), some (.int v5), none, none], [.ref a0])) rfl ?_
  refine Ez_gr (M := zM219) (ci := 11) (f := 47) (t := 100) rfl rfl h0 rfl ?_
  refine Ev_p 1 (c' := (30, [some (.ref a0), some (.int x1), some (.int v1), some (.int v5), none, none], [.int x1, .ref (zrf a0 47)])) rfl ?_
  refine Ez_al (M := zM219) rfl (zty (ci := 11) (f := 47) (t := 100) h0 rfl) hF (fun v6 hF => ?_)
  refine Ev_p 1 (c' := (33, [some (.ref a0), some (.int x1), some (.int v1), some (.int v5), some (.int v6), none], [])) rfl ?_
  exact zf219_33_ok hK h0 hF

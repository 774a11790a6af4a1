/-! The methods as functions, and that the machine goes so (printed by wip/gen/fgen.py). -/
set_option maxRecDepth 100000
set_option linter.unusedVariables false
-- PaperParcelsModel.weigh(I)V
abbrev zM211 : ev_M := (am_in nd_i211, am_fl nd_f11, am_ct nd_k11, am_sl nd_ml nd_s211, fun _ => none, none)
noncomputable def zf211_51 (a0 : Nat)  : Nat → Int32 → Int32 → zS → Option (zS)
  | 0, _, _, _ => none
  | n + 1, x1, x2, s =>
    if x2 ≤ 0 then
      some s
    else
      zal s (zrf a0 24) ((100 * x1) + x2) fun v1 =>
      zal s (zrf a0 37) ((100 * x1) + v1) fun v2 =>
      zal s (zrf a0 37) ((100 * x1) + x2) fun v3 =>
      zas s (zrf a0 37) ((100 * x1) + v1) (v2 + v3) fun s4 =>
      zf211_51 a0 n x1 (x2 + (-1)) s4
theorem zf211_51_ok {K : cx_K} (hK : Kok K) {lg : Nat → Int64} {s' : zS} {a0 : Nat} (h0 : zsh a0 = 11)   {n : Nat} : ∀ {x1 : Int32} {x2 : Int32} {s : zS}, zf211_51 a0 n x1 x2 s = some s' → Ev K zM211 (51, [some (.ref a0), some (.int x1), some (.int x2)], [], zmk lg s) 0 (.inl none) (zmk lg s') 0 := by
  induction n with
  | zero => intro x1 x2 s hF; rw [zf211_51] at hF; cases hF
  | succ n ih =>
    intro x1 x2 s hF
    rw [zf211_51] at hF
    refine Ev_p 1 (c' := (52, [some (.ref a0), some (.int x1), some (.int x2)], [.int x2])) rfl ?_
    refine Ez_if (M := zM211) (b := x2 ≤ 0) rfl rfl hF (fun _ hF => ?_) (fun _ hF => ?_)
    · refine Ev_p 0 (c' := (96, [some (.ref a0), some (.int x1), some (.int x2)], [])) rfl ?_
      exact Ez_rv (M := zM211) rfl rfl hF
    · refine Ev_p 1 (c' := (56, [some (.ref a0), some (.int x1), some (.int x2)], [.ref a0])) rfl ?_
      refine Ez_gr (M := zM211) (ci := 11) (f := 37) (t := 100) rfl rfl h0 rfl ?_
      refine Ev_p 4 (c' := (64, [some (.ref a0), some (.int x1), some (.int x2)], [.ref a0, .int (100 * x1), .ref (zrf a0 37)])) rfl ?_
      refine Ez_gr (M := zM211) (ci := 11) (f := 24) (t := 100) rfl rfl h0 rfl ?_
      refine Ev_p 5 (c' := (73, [some (.ref a0), some (.int x1), some (.int x2)], [.int ((100 * x1) + x2), .ref (zrf a0 24), .int (100 * x1), .ref (zrf a0 37)])) rfl ?_
      refine Ez_al (M := zM211) rfl (zty (ci := 11) (f := 24) (t := 100) h0 rfl) hF (fun v1 hF => ?_)
      refine Ev_p 2 (c' := (76, [some (.ref a0), some (.int x1), some (.int x2)], [.int ((100 * x1) + v1), .ref (zrf a0 37), .int ((100 * x1) + v1), .ref (zrf a0 37)])) rfl ?_
      refine Ez_al (M := zM211) rfl (zty (ci := 11) (f := 37) (t := 100) h0 rfl) hF (fun v2 hF => ?_)
      refine Ev_p 1 (c' := (78, [some (.ref a0), some (.int x1), some (.int x2)], [.ref a0, .int v2, .int ((100 * x1) + v1), .ref (zrf a0 37)])) rfl ?_
      refine Ez_gr (M := zM211) (ci := 11) (f := 37) (t := 100) rfl rfl h0 rfl ?_
      refine Ev_p 5 (c' := (87, [some (.ref a0), some (.int x1), some (.int x2)], [.int ((100 * x1) + x2), .ref (zrf a0 37), .int v2, .int ((100 * x1) + v1), .ref (zrf a0 37)])) rfl ?_
      refine Ez_al (M := zM211) rfl (zty (ci := 11) (f := 37) (t := 100) h0 rfl) hF (fun v3 hF => ?_)
      refine Ev_p 1 (c' := (89, [some (.ref a0), some (.int x1), some (.int x2)], [.int (v2 + v3), .int ((100 * x1) + v1), .ref (zrf a0 37)])) rfl ?_
      refine Ez_as (M := zM211) rfl (zty (ci := 11) (f := 37) (t := 100) h0 rfl) hF (fun s4 hF => ?_)
      refine Ev_p 2 (c' := (51, [some (.ref a0), some (.int x1), some (.int (x2 + (-1)))], [])) rfl ?_
      exact ih hF
noncomputable def zf211_2 (a0 : Nat)  : Nat → Int32 → Int32 → zS → Option (zS)
  | 0, _, _, _ => none
  | n + 1, x1, x2, s =>
    zal s (zrf a0 22) x1 fun v1 =>
    if v1 ≤ x2 then
      zal s (zrf a0 22) x1 fun v2 =>
      zf211_51 a0 zfz x1 (v2 - 1) s
    else
      zal s (zrf a0 27) ((100 * x1) + x2) fun v3 =>
      zas s (zrf a0 37) ((100 * x1) + x2) (1 + v3) fun s4 =>
      zf211_2 a0 n x1 (x2 + 1) s4
theorem zf211_2_ok {K : cx_K} (hK : Kok K) {lg : Nat → Int64} {s' : zS} {a0 : Nat} (h0 : zsh a0 = 11)   {n : Nat} : ∀ {x1 : Int32} {x2 : Int32} {s : zS}, zf211_2 a0 n x1 x2 s = some s' → Ev K zM211 (2, [some (.ref a0), some (.int x1), some (.int x2)], [], zmk lg s) 0 (.inl none) (zmk lg s') 0 := by
  induction n with
  | zero => intro x1 x2 s hF; rw [zf211_2] at hF; cases hF
  | succ n ih =>
    intro x1 x2 s hF
    rw [zf211_2] at hF
    refine Ev_p 2 (c' := (4, [some (.ref a0), some (.int x1), some (.int x2)], [.ref a0, .int x2])) rfl ?_
    refine Ez_gr (M := zM211) (ci := 11) (f := 22) (t := 100) rfl rfl h0 rfl ?_
    refine Ev_p 1 (c' := (8, [some (.ref a0), some (.int x1), some (.int x2)], [.int x1, .ref (zrf a0 22), .int x2])) rfl ?_
    refine Ez_al (M := zM211) rfl (zty (ci := 11) (f := 22) (t := 100) h0 rfl) hF (fun v1 hF => ?_)
    refine Ev_p 0 (c' := (9, [some (.ref a0), some (.int x1), some (.int x2)], [.int v1, .int x2])) rfl ?_
    refine Ez_if (M := zM211) (b := v1 ≤ x2) rfl rfl hF (fun _ hF => ?_) (fun _ hF => ?_)
    · refine Ev_p 1 (c' := (43, [some (.ref a0), some (.int x1), some (.int x2)], [.ref a0])) rfl ?_
      refine Ez_gr (M := zM211) (ci := 11) (f := 22) (t := 100) rfl rfl h0 rfl ?_
      refine Ev_p 1 (c' := (47, [some (.ref a0), some (.int x1), some (.int x2)], [.int x1, .ref (zrf a0 22)])) rfl ?_
      refine Ez_al (M := zM211) rfl (zty (ci := 11) (f := 22) (t := 100) h0 rfl) hF (fun v2 hF => ?_)
      refine Ev_p 3 (c' := (51, [some (.ref a0), some (.int x1), some (.int (v2 - 1))], [])) rfl ?_
      exact zf211_51_ok hK h0 hF
    · refine Ev_p 1 (c' := (13, [some (.ref a0), some (.int x1), some (.int x2)], [.ref a0])) rfl ?_
      refine Ez_gr (M := zM211) (ci := 11) (f := 37) (t := 100) rfl rfl h0 rfl ?_
      refine Ev_p 7 (c' := (24, [some (.ref a0), some (.int x1), some (.int x2)], [.ref a0, .int 1, .int ((100 * x1) + x2), .ref (zrf a0 37)])) rfl ?_
      refine Ez_gr (M := zM211) (ci := 11) (f := 27) (t := 100) rfl rfl h0 rfl ?_
      refine Ev_p 5 (c' := (33, [some (.ref a0), some (.int x1), some (.int x2)], [.int ((100 * x1) + x2), .ref (zrf a0 27), .int 1, .int ((100 * x1) + x2), .ref (zrf a0 37)])) rfl ?_
      refine Ez_al (M := zM211) rfl (zty (ci := 11) (f := 27) (t := 100) h0 rfl) hF (fun v3 hF => ?_)
      refine Ev_p 1 (c' := (35, [some (.ref a0), some (.int x1), some (.int x2)], [.int (1 + v3), .int ((100 * x1) + x2), .ref (zrf a0 37)])) rfl ?_
      refine Ez_as (M := zM211) rfl (zty (ci := 11) (f := 37) (t := 100) h0 rfl) hF (fun s4 hF => ?_)
      refine Ev_p 2 (c' := (2, [some (.ref a0), some (.int x1), some (.int (x2 + 1))], [])) rfl ?_
      exact ih hF
noncomputable def zf211 (a0 : Nat) (x1 : Int32) (s : zS) : Option (zS) :=
  zf211_2 a0 zfz x1 0 s
theorem zf211_ok {K : cx_K} (hK : Kok K) {lg : Nat → Int64} {s' : zS} {a0 : Nat} (h0 : zsh a0 = 11) {x1 : Int32} {s : zS} (hF : zf211 a0 x1 s = some s') : Ct K 211 [.ref a0, .int x1] (zmk lg s) (.inl none) (zmk lg s') 0 := by
  unfold zf211 at hF
  refine Ct_of hK nd_ok211 (mL := 3) (rt := none) rfl rfl (Nat.le_of_ble_eq_true rfl) zlen_le ?_
  refine Ev_p 2 (c' := (2, [some (.ref a0), some (.int x1), some (.int 0)], [])) rfl ?_
  exact zf211_2_ok hK h0 hF
-- PaperParcelsModel.isPair(II)Z
abbrev zM214 : ev_M := (am_in nd_i214, am_fl nd_f11, am_ct nd_k11, am_sl nd_ml nd_s214, fun _ => none, some .boolean)
noncomputable def zf214 (a0 : Nat) (x1 : Int32) (x2 : Int32) (s : zS) : Option (Int32 × zS) :=
  zgf s a0 41 fun v1 =>
  if v1 ≤ x1 then
    zrb 0 s
  else
    zgf s a0 42 fun v2 =>
    if v2 ≤ x2 then
      zrb 0 s
    else
      zal s (zrf a0 39) x1 fun v3 =>
      zal s (zrf a0 23) v3 fun v4 =>
      zal s (zrf a0 40) x2 fun v5 =>
      zal s (zrf a0 23) (100 + v5) fun v6 =>
      if ¬ v4 = v6 then
        zrb 0 s
      else
        zrb 1 s
theorem zf214_ok {K : cx_K} (hK : Kok K) {lg : Nat → Int64} {v : Int32} {s' : zS} {a0 : Nat} (h0 : zsh a0 = 11) {x1 : Int32} {x2 : Int32} {s : zS} (hF : zf214 a0 x1 x2 s = some (v, s')) : Ct K 214 [.ref a0, .int x1, .int x2] (zmk lg s) (.inl (some (.int v))) (zmk lg s') 0 := by
  unfold zf214 at hF
  refine Ct_of hK nd_ok214 (mL := 3) (rt := some .boolean) rfl rfl (Nat.le_of_ble_eq_true rfl) zlen_le ?_
  refine Ev_p 2 (c' := (2, [some (.ref a0), some (.int x1), some (.int x2)], [.ref a0, .int x1])) rfl ?_
  refine Ez_gf (M := zM214) (ci := 11) (f := 41) rfl rfl h0 rfl hF (fun v1 hF => ?_)
  refine Ev_p 0 (c' := (5, [some (.ref a0), some (.int x1), some (.int x2)], [.int v1, .int x1])) rfl ?_
  refine Ez_if (M := zM214) (b := v1 ≤ x1) rfl rfl hF (fun _ hF => ?_) (fun _ hF => ?_)
  · refine Ev_p 1 (c' := (49, [some (.ref a0), some (.int x1), some (.int x2)], [.int 0])) rfl ?_
    exact Ez_rb (M := zM214) rfl rfl hF
  · refine Ev_p 2 (c' := (10, [some (.ref a0), some (.int x1), some (.int x2)], [.ref a0, .int x2])) rfl ?_
    refine Ez_gf (M := zM214) (ci := 11) (f := 42) rfl rfl h0 rfl hF (fun v2 hF => ?_)
    refine Ev_p 0 (c' := (13, [some (.ref a0), some (.int x1), some (.int x2)], [.int v2, .int x2])) rfl ?_
    refine Ez_if (M := zM214) (b := v2 ≤ x2) rfl rfl hF (fun _ hF => ?_) (fun _ hF => ?_)
    · refine Ev_p 1 (c' := (49, [some (.ref a0), some (.int x1), some (.int x2)], [.int 0])) rfl ?_
      exact Ez_rb (M := zM214) rfl rfl hF
    · refine Ev_p 1 (c' := (17, [some (.ref a0), some (.int x1), some (.int x2)], [.ref a0])) rfl ?_
      refine Ez_gr (M := zM214) (ci := 11) (f := 23) (t := 100) rfl rfl h0 rfl ?_
      refine Ev_p 1 (c' := (21, [some (.ref a0), some (.int x1), some (.int x2)], [.ref a0, .ref (zrf a0 23)])) rfl ?_
      refine Ez_gr (M := zM214) (ci := 11) (f := 39) (t := 100) rfl rfl h0 rfl ?_
      refine Ev_p 1 (c' := (25, [some (.ref a0), some (.int x1), some (.int x2)], [.int x1, .ref (zrf a0 39), .ref (zrf a0 23)])) rfl ?_
      refine Ez_al (M := zM214) rfl (zty (ci := 11) (f := 39) (t := 100) h0 rfl) hF (fun v3 hF => ?_)
      refine Ev_p 0 (c' := (26, [some (.ref a0), some (.int x1), some (.int x2)], [.int v3, .ref (zrf a0 23)])) rfl ?_
      refine Ez_al (M := zM214) rfl (zty (ci := 11) (f := 23) (t := 100) h0 rfl) hF (fun v4 hF => ?_)
      refine Ev_p 1 (c' := (28, [some (.ref a0), some (.int x1), some (.int x2)], [.ref a0, .int v4])) rfl ?_
      refine Ez_gr (M := zM214) (ci := 11) (f := 23) (t := 100) rfl rfl h0 rfl ?_
      refine Ev_p 2 (c' := (34, [some (.ref a0), some (.int x1), some (.int x2)], [.ref a0, .int 100, .ref (zrf a0 23), .int v4])) rfl ?_
      refine Ez_gr (M := zM214) (ci := 11) (f := 40) (t := 100) rfl rfl h0 rfl ?_
      refine Ev_p 1 (c' := (38, [some (.ref a0), some (.int x1), some (.int x2)], [.int x2, .ref (zrf a0 40), .int 100, .ref (zrf a0 23), .int v4])) rfl ?_
      refine Ez_al (M := zM214) rfl (zty (ci := 11) (f := 40) (t := 100) h0 rfl) hF (fun v5 hF => ?_)
      refine Ev_p 1 (c' := (40, [some (.ref a0), some (.int x1), some (.int x2)], [.int (100 + v5), .ref (zrf a0 23), .int v4])) rfl ?_
      refine Ez_al (M := zM214) rfl (zty (ci := 11) (f := 23) (t := 100) h0 rfl) hF (fun v6 hF => ?_)
      refine Ev_p 0 (c' := (41, [some (.ref a0), some (.int x1), some (.int x2)], [.int v6, .int v4])) rfl ?_
      refine Ez_if (M := zM214) (b := ¬ v4 = v6) rfl rfl hF (fun _ hF => ?_) (fun _ hF => ?_)
      · refine Ev_p 1 (c' := (49, [some (.ref a0), some (.int x1), some (.int x2)], [.int 0])) rfl ?_
        exact Ez_rb (M := zM214) rfl rfl hF
      · refine Ev_p 2 (c' := (49, [some (.ref a0), some (.int x1), some (.int x2)], [.int 1])) rfl ?_
        exact Ez_rb (M := zM214) rfl rfl hF
-- PaperParcelsModel.lay(II)V
abbrev zM213 : ev_M := (am_in nd_i213, am_fl nd_f11, am_ct nd_k11, am_sl nd_ml nd_s213, fun _ => none, none)
noncomputable def zf213_350 (a0 : Nat) (k118 : Int32 → zS → Option (zS)) (k128 : Int32 → Int32 → zS → Option (zS)) (x3 : Int32) (x4 : Int32) (t0 : Int32) (s : zS) : Option (zS) :=
  zas s (zrf a0 43) ((41 * x3) + x4) t0 fun s1 =>
  k128 x3 (x4 + (-1)) s1
theorem zf213_350_ok {K : cx_K} (hK : Kok K) {lg : Nat → Int64} {s' : zS} {a0 : Nat} (h0 : zsh a0 = 11) {k118 : Int32 → zS → Option (zS)} {k128 : Int32 → Int32 → zS → Option (zS)} (hk118 : ∀ x3 s, k118 x3 s = some s' → Ev K zM213 (118, [some (.ref a0), none, none, some (.int x3), none, none, none, none, none], [], zmk lg s) 0 (.inl none) (zmk lg s') 0) (hk128 : ∀ x3 x4 s, k128 x3 x4 s = some s' → Ev K zM213 (128, [some (.ref a0), none, none, some (.int x3), some (.int x4), none, none, none, none], [], zmk lg s) 0 (.inl none) (zmk lg s') 0) {x3 : Int32} {x4 : Int32} {t0 : Int32}  {s : zS} (hF : zf213_350 a0 k118 k128 x3 x4 t0 s = some s') : Ev K zM213 (350, [some (.ref a0), none, none, some (.int x3), some (.int x4), none, none, none, none], [.int t0], zmk lg s) 0 (.inl none) (zmk lg s') 0 := by
  unfold zf213_350 at hF
  refine Ev_p 2 (c' := (353, [some (.ref a0), none, none, some (.int x3), some (.int x4), some (.int t0), none, none, none], [.ref a0])) rfl ?_
  refine Ez_gr (M := zM213) (ci := 11) (f := 43) (t := 100) rfl rfl h0 rfl ?_
  refine Ev_p 6 (c' := (365, [some (.ref a0), none, none, some (.int x3), some (.int x4), some (.int t0), none, none, none], [.int t0, .int ((41 * x3) + x4), .ref (zrf a0 43)])) rfl ?_
  refine Ez_as (M := zM213) rfl (zty (ci := 11) (f := 43) (t := 100) h0 rfl) hF (fun s1 hF => ?_)
  refine Ev_p 2 (c' := (128, [some (.ref a0), none, none, some (.int x3), some (.int (x4 + (-1))), some (.int t0), none, none, none], [])) rfl ?_
  refine Ev_w (L' := [some (.ref a0), none, none, some (.int x3), some (.int (x4 + (-1))), none, none, none, none]) (zle_c (zle_c (zle_c (zle_c (zle_c (zle_n (zle_c (zle_c (zle_c zle_0))))))))) ?_
  exact hk128 _ _ _ hF
noncomputable def zf213_334 (a0 : Nat) (k118 : Int32 → zS → Option (zS)) (k128 : Int32 → Int32 → zS → Option (zS)) (x3 : Int32) (x4 : Int32) (x5 : Int32) (t0 : Int32) (s : zS) : Option (zS) :=
  if x5 ≤ t0 then
    zf213_350 a0 k118 k128 x3 x4 x5 s
  else
    zf213_350 a0 k118 k128 x3 x4 t0 s
theorem zf213_334_ok {K : cx_K} (hK : Kok K) {lg : Nat → Int64} {s' : zS} {a0 : Nat} (h0 : zsh a0 = 11) {k118 : Int32 → zS → Option (zS)} {k128 : Int32 → Int32 → zS → Option (zS)} (hk118 : ∀ x3 s, k118 x3 s = some s' → Ev K zM213 (118, [some (.ref a0), none, none, some (.int x3), none, none, none, none, none], [], zmk lg s) 0 (.inl none) (zmk lg s') 0) (hk128 : ∀ x3 x4 s, k128 x3 x4 s = some s' → Ev K zM213 (128, [some (.ref a0), none, none, some (.int x3), some (.int x4), none, none, none, none], [], zmk lg s) 0 (.inl none) (zmk lg s') 0) {x3 : Int32} {x4 : Int32} {x5 : Int32} {t0 : Int32}  {s : zS} (hF : zf213_334 a0 k118 k128 x3 x4 x5 t0 s = some s') : Ev K zM213 (334, [some (.ref a0), none, none, some (.int x3), some (.int x4), some (.int x5), none, none, none], [.int t0], zmk lg s) 0 (.inl none) (zmk lg s') 0 := by
  unfold zf213_334 at hF
  refine Ev_p 3 (c' := (340, [some (.ref a0), none, none, some (.int x3), some (.int x4), some (.int x5), none, none, some (.int t0)], [.int x5, .int t0])) rfl ?_
  refine Ez_if (M := zM213) (b := x5 ≤ t0) rfl rfl hF (fun _ hF => ?_) (fun _ hF => ?_)
  · refine Ev_p 1 (c' := (350, [some (.ref a0), none, none, some (.int x3), some (.int x4), some (.int x5), none, none, some (.int t0)], [.int x5])) rfl ?_
    refine Ev_w (L' := [some (.ref a0), none, none, some (.int x3), some (.int x4), none, none, none, none]) (zle_c (zle_c (zle_c (zle_c (zle_c (zle_n (zle_c (zle_c (zle_n zle_0))))))))) ?_
    exact zf213_350_ok hK h0 hk118 hk128 hF
  · refine Ev_p 2 (c' := (350, [some (.ref a0), none, none, some (.int x3), some (.int x4), some (.int x5), none, none, some (.int t0)], [.int t0])) rfl ?_
    refine Ev_w (L' := [some (.ref a0), none, none, some (.int x3), some (.int x4), none, none, none, none]) (zle_c (zle_c (zle_c (zle_c (zle_c (zle_n (zle_c (zle_c (zle_n zle_0))))))))) ?_
    exact zf213_350_ok hK h0 hk118 hk128 hF
noncomputable def zf213_277 (a0 : Nat) (k118 : Int32 → zS → Option (zS)) (k128 : Int32 → Int32 → zS → Option (zS)) (x3 : Int32) (x4 : Int32) (t0 : Int32) (s : zS) : Option (zS) :=
  zbi (zf214 a0 x3 x4 s) fun v1 s2 =>
  if v1 = 0 then
    zf213_334 a0 k118 k128 x3 x4 t0 t0 s2
  else
    zal s2 (zrf a0 39) x3 fun v3 =>
    zal s2 (zrf a0 40) x4 fun v4 =>
    zal s2 (zrf a0 38) ((40 * v3) + v4) fun v5 =>
    zal s2 (zrf a0 43) ((((41 * x3) + 41) + x4) + 1) fun v6 =>
    zf213_334 a0 k118 k128 x3 x4 t0 (v5 + v6) s2
theorem zf213_277_ok {K : cx_K} (hK : Kok K) {lg : Nat → Int64} {s' : zS} {a0 : Nat} (h0 : zsh a0 = 11) {k118 : Int32 → zS → Option (zS)} {k128 : Int32 → Int32 → zS → Option (zS)} (hk118 : ∀ x3 s, k118 x3 s = some s' → Ev K zM213 (118, [some (.ref a0), none, none, some (.int x3), none, none, none, none, none], [], zmk lg s) 0 (.inl none) (zmk lg s') 0) (hk128 : ∀ x3 x4 s, k128 x3 x4 s = some s' → Ev K zM213 (128, [some (.ref a0), none, none, some (.int x3), some (.int x4), none, none, none, none], [], zmk lg s) 0 (.inl none) (zmk lg s') 0) {x3 : Int32} {x4 : Int32} {t0 : Int32}  {s : zS} (hF : zf213_277 a0 k118 k128 x3 x4 t0 s = some s') : Ev K zM213 (277, [some (.ref a0), none, none, some (.int x3), some (.int x4), none, none, none, none], [.int t0], zmk lg s) 0 (.inl none) (zmk lg s') 0 := by
  unfold zf213_277 at hF
  refine Ev_p 4 (c' := (283, [some (.ref a0), none, none, some (.int x3), some (.int x4), some (.int t0), none, none, none], [.int x4, .int x3, .ref a0])) rfl ?_
  refine Ez_ci (M := zM213) (As := [.ref a0, .int x3, .int x4]) (st' := []) (am_site_v (y := 214) (k := 3) (ci := 11) rfl rfl (zrcv rfl h0 rfl)) (Nat.le_of_ble_eq_true rfl) (Nat.le_of_ble_eq_true rfl) rfl rfl (fun _ _ hF => zf214_ok hK h0 hF) hF (fun v1 s2 hF => ?_)
  refine Ev_p 0 (c' := (286, [some (.ref a0), none, none, some (.int x3), some (.int x4), some (.int t0), none, none, none], [.int v1])) rfl ?_
  refine Ez_if (M := zM213) (b := v1 = 0) rfl rfl hF (fun _ hF => ?_) (fun _ hF => ?_)
  · refine Ev_p 1 (c' := (334, [some (.ref a0), none, none, some (.int x3), some (.int x4), some (.int t0), none, none, none], [.int t0])) rfl ?_
    exact zf213_334_ok hK h0 hk118 hk128 hF
  · refine Ev_p 1 (c' := (290, [some (.ref a0), none, none, some (.int x3), some (.int x4), some (.int t0), none, none, none], [.ref a0])) rfl ?_
    refine Ez_gr (M := zM213) (ci := 11) (f := 38) (t := 100) rfl rfl h0 rfl ?_
    refine Ev_p 2 (c' := (296, [some (.ref a0), none, none, some (.int x3), some (.int x4), some (.int t0), none, none, none], [.ref a0, .int 40, .ref (zrf a0 38)])) rfl ?_
    refine Ez_gr (M := zM213) (ci := 11) (f := 39) (t := 100) rfl rfl h0 rfl ?_
    refine Ev_p 1 (c' := (300, [some (.ref a0), none, none, some (.int x3), some (.int x4), some (.int t0), none, none, none], [.int x3, .ref (zrf a0 39), .int 40, .ref (zrf a0 38)])) rfl ?_
    refine Ez_al (M := zM213) rfl (zty (ci := 11) (f := 39) (t := 100) h0 rfl) hF (fun v3 hF => ?_)
    refine Ev_p 2 (c' := (303, [some (.ref a0), none, none, some (.int x3), some (.int x4), some (.int t0), none, none, none], [.ref a0, .int (40 * v3), .ref (zrf a0 38)])) rfl ?_
    refine Ez_gr (M := zM213) (ci := 11) (f := 40) (t := 100) rfl rfl h0 rfl ?_
    refine Ev_p 1 (c' := (308, [some (.ref a0), none, none, some (.int x3), some (.int x4), some (.int t0), none, none, none], [.int x4, .ref (zrf a0 40), .int (40 * v3), .ref (zrf a0 38)])) rfl ?_
    refine Ez_al (M := zM213) rfl (zty (ci := 11) (f := 40) (t := 100) h0 rfl) hF (fun v4 hF => ?_)
    refine Ev_p 1 (c' := (310, [some (.ref a0), none, none, some (.int x3), some (.int x4), some (.int t0), none, none, none], [.int ((40 * v3) + v4), .ref (zrf a0 38)])) rfl ?_
    refine Ez_al (M := zM213) rfl (zty (ci := 11) (f := 38) (t := 100) h0 rfl) hF (fun v5 hF => ?_)
    refine Ev_p 1 (c' := (312, [some (.ref a0), none, none, some (.int x3), some (.int x4), some (.int t0), none, none, none], [.ref a0, .int v5])) rfl ?_
    refine Ez_gr (M := zM213) (ci := 11) (f := 43) (t := 100) rfl rfl h0 rfl ?_
    refine Ev_p 9 (c' := (327, [some (.ref a0), none, none, some (.int x3), some (.int x4), some (.int t0), none, none, none], [.int ((((41 * x3) + 41) + x4) + 1), .ref (zrf a0 43), .int v5])) rfl ?_
    refine Ez_al (M := zM213) rfl (zty (ci := 11) (f := 43) (t := 100) h0 rfl) hF (fun v6 hF => ?_)
    refine Ev_p 2 (c' := (334, [some (.ref a0), none, none, some (.int x3), some (.int x4), some (.int t0), none, none, none], [.int (v5 + v6)])) rfl ?_
    exact zf213_334_ok hK h0 hk118 hk128 hF
noncomputable def zf213_261 (a0 : Nat) (k118 : Int32 → zS → Option (zS)) (k128 : Int32 → Int32 → zS → Option (zS)) (x3 : Int32) (x4 : Int32) (x5 : Int32) (t0 : Int32) (s : zS) : Option (zS) :=
  if x5 ≤ t0 then
    zf213_277 a0 k118 k128 x3 x4 x5 s
  else
    zf213_277 a0 k118 k128 x3 x4 t0 s
theorem zf213_261_ok {K : cx_K} (hK : Kok K) {lg : Nat → Int64} {s' : zS} {a0 : Nat} (h0 : zsh a0 = 11) {k118 : Int32 → zS → Option (zS)} {k128 : Int32 → Int32 → zS → Option (zS)} (hk118 : ∀ x3 s, k118 x3 s = some s' → Ev K zM213 (118, [some (.ref a0), none, none, some (.int x3), none, none, none, none, none], [], zmk lg s) 0 (.inl none) (zmk lg s') 0) (hk128 : ∀ x3 x4 s, k128 x3 x4 s = some s' → Ev K zM213 (128, [some (.ref a0), none, none, some (.int x3), some (.int x4), none, none, none, none], [], zmk lg s) 0 (.inl none) (zmk lg s') 0) {x3 : Int32} {x4 : Int32} {x5 : Int32} {t0 : Int32}  {s : zS} (hF : zf213_261 a0 k118 k128 x3 x4 x5 t0 s = some s') : Ev K zM213 (261, [some (.ref a0), none, none, some (.int x3), some (.int x4), some (.int x5), none, none, none], [.int t0], zmk lg s) 0 (.inl none) (zmk lg s') 0 := by
  unfold zf213_261 at hF
  refine Ev_p 3 (c' := (267, [some (.ref a0), none, none, some (.int x3), some (.int x4), some (.int x5), none, some (.int t0), none], [.int x5, .int t0])) rfl ?_
  refine Ez_if (M := zM213) (b := x5 ≤ t0) rfl rfl hF (fun _ hF => ?_) (fun _ hF => ?_)
  · refine Ev_p 1 (c' := (277, [some (.ref a0), none, none, some (.int x3), some (.int x4), some (.int x5), none, some (.int t0), none], [.int x5])) rfl ?_
    refine Ev_w (L' := [some (.ref a0), none, none, some (.int x3), some (.int x4), none, none, none, none]) (zle_c (zle_c (zle_c (zle_c (zle_c (zle_n (zle_c (zle_n (zle_c zle_0))))))))) ?_
    exact zf213_277_ok hK h0 hk118 hk128 hF
  · refine Ev_p 2 (c' := (277, [some (.ref a0), none, none, some (.int x3), some (.int x4), some (.int x5), none, some (.int t0), none], [.int t0])) rfl ?_
    refine Ev_w (L' := [some (.ref a0), none, none, some (.int x3), some (.int x4), none, none, none, none]) (zle_c (zle_c (zle_c (zle_c (zle_c (zle_n (zle_c (zle_n (zle_c zle_0))))))))) ?_
    exact zf213_277_ok hK h0 hk118 hk128 hF
noncomputable def zf213_215 (a0 : Nat) (k118 : Int32 → zS → Option (zS)) (k128 : Int32 → Int32 → zS → Option (zS)) (x3 : Int32) (x4 : Int32) (t0 : Int32) (s : zS) : Option (zS) :=
  zgf s a0 42 fun v1 =>
  if v1 ≤ x4 then
    zf213_261 a0 k118 k128 x3 x4 t0 t0 s
  else
    zal s (zrf a0 40) x4 fun v2 =>
    zal s (zrf a0 37) (100 + v2) fun v3 =>
    zal s (zrf a0 43) (((41 * x3) + x4) + 1) fun v4 =>
    zf213_261 a0 k118 k128 x3 x4 t0 (v3 + v4) s
theorem zf213_215_ok {K : cx_K} (hK : Kok K) {lg : Nat → Int64} {s' : zS} {a0 : Nat} (h0 : zsh a0 = 11) {k118 : Int32 → zS → Option (zS)} {k128 : Int32 → Int32 → zS → Option (zS)} (hk118 : ∀ x3 s, k118 x3 s = some s' → Ev K zM213 (118, [some (.ref a0), none, none, some (.int x3), none, none, none, none, none], [], zmk lg s) 0 (.inl none) (zmk lg s') 0) (hk128 : ∀ x3 x4 s, k128 x3 x4 s = some s' → Ev K zM213 (128, [some (.ref a0), none, none, some (.int x3), some (.int x4), none, none, none, none], [], zmk lg s) 0 (.inl none) (zmk lg s') 0) {x3 : Int32} {x4 : Int32} {t0 : Int32}  {s : zS} (hF : zf213_215 a0 k118 k128 x3 x4 t0 s = some s') : Ev K zM213 (215, [some (.ref a0), none, none, some (.int x3), some (.int x4), none, none, none, none], [.int t0], zmk lg s) 0 (.inl none) (zmk lg s') 0 := by
  unfold zf213_215 at hF
  refine Ev_p 3 (c' := (220, [some (.ref a0), none, none, some (.int x3), some (.int x4), some (.int t0), none, none, none], [.ref a0, .int x4])) rfl ?_
  refine Ez_gf (M := zM213) (ci := 11) (f := 42) rfl rfl h0 rfl hF (fun v1 hF => ?_)
  refine Ev_p 0 (c' := (223, [some (.ref a0), none, none, some (.int x3), some (.int x4), some (.int t0), none, none, none], [.int v1, .int x4])) rfl ?_
  refine Ez_if (M := zM213) (b := v1 ≤ x4) rfl rfl hF (fun _ hF => ?_) (fun _ hF => ?_)
  · refine Ev_p 1 (c' := (261, [some (.ref a0), none, none, some (.int x3), some (.int x4), some (.int t0), none, none, none], [.int t0])) rfl ?_
    exact zf213_261_ok hK h0 hk118 hk128 hF
  · refine Ev_p 1 (c' := (227, [some (.ref a0), none, none, some (.int x3), some (.int x4), some (.int t0), none, none, none], [.ref a0])) rfl ?_
    refine Ez_gr (M := zM213) (ci := 11) (f := 37) (t := 100) rfl rfl h0 rfl ?_
    refine Ev_p 2 (c' := (233, [some (.ref a0), none, none, some (.int x3), some (.int x4), some (.int t0), none, none, none], [.ref a0, .int 100, .ref (zrf a0 37)])) rfl ?_
    refine Ez_gr (M := zM213) (ci := 11) (f := 40) (t := 100) rfl rfl h0 rfl ?_
    refine Ev_p 1 (c' := (238, [some (.ref a0), none, none, some (.int x3), some (.int x4), some (.int t0), none, none, none], [.int x4, .ref (zrf a0 40), .int 100, .ref (zrf a0 37)])) rfl ?_
    refine Ez_al (M := zM213) rfl (zty (ci := 11) (f := 40) (t := 100) h0 rfl) hF (fun v2 hF => ?_)
    refine Ev_p 1 (c' := (240, [some (.ref a0), none, none, some (.int x3), some (.int x4), some (.int t0), none, none, none], [.int (100 + v2), .ref (zrf a0 37)])) rfl ?_
    refine Ez_al (M := zM213) rfl (zty (ci := 11) (f := 37) (t := 100) h0 rfl) hF (fun v3 hF => ?_)
    refine Ev_p 1 (c' := (242, [some (.ref a0), none, none, some (.int x3), some (.int x4), some (.int t0), none, none, none], [.ref a0, .int v3])) rfl ?_
    refine Ez_gr (M := zM213) (ci := 11) (f := 43) (t := 100) rfl rfl h0 rfl ?_
    refine Ev_p 7 (c' := (254, [some (.ref a0), none, none, some (.int x3), some (.int x4), some (.int t0), none, none, none], [.int (((41 * x3) + x4) + 1), .ref (zrf a0 43), .int v3])) rfl ?_
    refine Ez_al (M := zM213) rfl (zty (ci := 11) (f := 43) (t := 100) h0 rfl) hF (fun v4 hF => ?_)
    refine Ev_p 2 (c' := (261, [some (.ref a0), none, none, some (.int x3), some (.int x4), some (.int t0), none, none, none], [.int (v3 + v4)])) rfl ?_
    exact zf213_261_ok hK h0 hk118 hk128 hF
noncomputable def zf213_199 (a0 : Nat) (k118 : Int32 → zS → Option (zS)) (k128 : Int32 → Int32 → zS → Option (zS)) (x3 : Int32) (x4 : Int32) (x5 : Int32) (t0 : Int32) (s : zS) : Option (zS) :=
  if x5 ≤ t0 then
    zf213_215 a0 k118 k128 x3 x4 x5 s
  else
    zf213_215 a0 k118 k128 x3 x4 t0 s
theorem zf213_199_ok {K : cx_K} (hK : Kok K) {lg : Nat → Int64} {s' : zS} {a0 : Nat} (h0 : zsh a0 = 11) {k118 : Int32 → zS → Option (zS)} {k128 : Int32 → Int32 → zS → Option (zS)} (hk118 : ∀ x3 s, k118 x3 s = some s' → Ev K zM213 (118, [some (.ref a0), none, none, some (.int x3), none, none, none, none, none], [], zmk lg s) 0 (.inl none) (zmk lg s') 0) (hk128 : ∀ x3 x4 s, k128 x3 x4 s = some s' → Ev K zM213 (128, [some (.ref a0), none, none, some (.int x3), some (.int x4), none, none, none, none], [], zmk lg s) 0 (.inl none) (zmk lg s') 0) {x3 : Int32} {x4 : Int32} {x5 : Int32} {t0 : Int32}  {s : zS} (hF : zf213_199 a0 k118 k128 x3 x4 x5 t0 s = some s') : Ev K zM213 (199, [some (.ref a0), none, none, some (.int x3), some (.int x4), some (.int x5), none, none, none], [.int t0], zmk lg s) 0 (.inl none) (zmk lg s') 0 := by
  unfold zf213_199 at hF
  refine Ev_p 3 (c' := (205, [some (.ref a0), none, none, some (.int x3), some (.int x4), some (.int x5), some (.int t0), none, none], [.int x5, .int t0])) rfl ?_
  refine Ez_if (M := zM213) (b := x5 ≤ t0) rfl rfl hF (fun _ hF => ?_) (fun _ hF => ?_)
  · refine Ev_p 1 (c' := (215, [some (.ref a0), none, none, some (.int x3), some (.int x4), some (.int x5), some (.int t0), none, none], [.int x5])) rfl ?_
    refine Ev_w (L' := [some (.ref a0), none, none, some (.int x3), some (.int x4), none, none, none, none]) (zle_c (zle_c (zle_c (zle_c (zle_c (zle_n (zle_n (zle_c (zle_c zle_0))))))))) ?_
    exact zf213_215_ok hK h0 hk118 hk128 hF
  · refine Ev_p 2 (c' := (215, [some (.ref a0), none, none, some (.int x3), some (.int x4), some (.int x5), some (.int t0), none, none], [.int t0])) rfl ?_
    refine Ev_w (L' := [some (.ref a0), none, none, some (.int x3), some (.int x4), none, none, none, none]) (zle_c (zle_c (zle_c (zle_c (zle_c (zle_n (zle_n (zle_c (zle_c zle_0))))))))) ?_
    exact zf213_215_ok hK h0 hk118 hk128 hF
noncomputable def zf213_157 (a0 : Nat) (k118 : Int32 → zS → Option (zS)) (k128 : Int32 → Int32 → zS → Option (zS)) (x3 : Int32) (x4 : Int32) (t0 : Int32) (s : zS) : Option (zS) :=
  zgf s a0 41 fun v1 =>
  if v1 ≤ x3 then
    zf213_199 a0 k118 k128 x3 x4 t0 t0 s
  else
    zal s (zrf a0 39) x3 fun v2 =>
    zal s (zrf a0 37) v2 fun v3 =>
    zal s (zrf a0 43) (((41 * x3) + 41) + x4) fun v4 =>
    zf213_199 a0 k118 k128 x3 x4 t0 (v3 + v4) s
theorem zf213_157_ok {K : cx_K} (hK : Kok K) {lg : Nat → Int64} {s' : zS} {a0 : Nat} (h0 : zsh a0 = 11) {k118 : Int32 → zS → Option (zS)} {k128 : Int32 → Int32 → zS → Option (zS)} (hk118 : ∀ x3 s, k118 x3 s = some s' → Ev K zM213 (118, [some (.ref a0), none, none, some (.int x3), none, none, none, none, none], [], zmk lg s) 0 (.inl none) (zmk lg s') 0) (hk128 : ∀ x3 x4 s, k128 x3 x4 s = some s' → Ev K zM213 (128, [some (.ref a0), none, none, some (.int x3), some (.int x4), none, none, none, none], [], zmk lg s) 0 (.inl none) (zmk lg s') 0) {x3 : Int32} {x4 : Int32} {t0 : Int32}  {s : zS} (hF : zf213_157 a0 k118 k128 x3 x4 t0 s = some s') : Ev K zM213 (157, [some (.ref a0), none, none, some (.int x3), some (.int x4), none, none, none, none], [.int t0], zmk lg s) 0 (.inl none) (zmk lg s') 0 := by
  unfold zf213_157 at hF
  refine Ev_p 3 (c' := (161, [some (.ref a0), none, none, some (.int x3), some (.int x4), some (.int t0), none, none, none], [.ref a0, .int x3])) rfl ?_
  refine Ez_gf (M := zM213) (ci := 11) (f := 41) rfl rfl h0 rfl hF (fun v1 hF => ?_)
  refine Ev_p 0 (c' := (164, [some (.ref a0), none, none, some (.int x3), some (.int x4), some (.int t0), none, none, none], [.int v1, .int x3])) rfl ?_
  refine Ez_if (M := zM213) (b := v1 ≤ x3) rfl rfl hF (fun _ hF => ?_) (fun _ hF => ?_)
  · refine Ev_p 1 (c' := (199, [some (.ref a0), none, none, some (.int x3), some (.int x4), some (.int t0), none, none, none], [.int t0])) rfl ?_
    exact zf213_199_ok hK h0 hk118 hk128 hF
  · refine Ev_p 1 (c' := (168, [some (.ref a0), none, none, some (.int x3), some (.int x4), some (.int t0), none, none, none], [.ref a0])) rfl ?_
    refine Ez_gr (M := zM213) (ci := 11) (f := 37) (t := 100) rfl rfl h0 rfl ?_
    refine Ev_p 1 (c' := (172, [some (.ref a0), none, none, some (.int x3), some (.int x4), some (.int t0), none, none, none], [.ref a0, .ref (zrf a0 37)])) rfl ?_
    refine Ez_gr (M := zM213) (ci := 11) (f := 39) (t := 100) rfl rfl h0 rfl ?_
    refine Ev_p 1 (c' := (176, [some (.ref a0), none, none, some (.int x3), some (.int x4), some (.int t0), none, none, none], [.int x3, .ref (zrf a0 39), .ref (zrf a0 37)])) rfl ?_
    refine Ez_al (M := zM213) rfl (zty (ci := 11) (f := 39) (t := 100) h0 rfl) hF (fun v2 hF => ?_)
    refine Ev_p 0 (c' := (177, [some (.ref a0), none, none, some (.int x3), some (.int x4), some (.int t0), none, none, none], [.int v2, .ref (zrf a0 37)])) rfl ?_
    refine Ez_al (M := zM213) rfl (zty (ci := 11) (f := 37) (t := 100) h0 rfl) hF (fun v3 hF => ?_)
    refine Ev_p 1 (c' := (179, [some (.ref a0), none, none, some (.int x3), some (.int x4), some (.int t0), none, none, none], [.ref a0, .int v3])) rfl ?_
    refine Ez_gr (M := zM213) (ci := 11) (f := 43) (t := 100) rfl rfl h0 rfl ?_
    refine Ev_p 7 (c' := (192, [some (.ref a0), none, none, some (.int x3), some (.int x4), some (.int t0), none, none, none], [.int (((41 * x3) + 41) + x4), .ref (zrf a0 43), .int v3])) rfl ?_
    refine Ez_al (M := zM213) rfl (zty (ci := 11) (f := 43) (t := 100) h0 rfl) hF (fun v4 hF => ?_)
    refine Ev_p 2 (c' := (199, [some (.ref a0), none, none, some (.int x3), some (.int x4), some (.int t0), none, none, none], [.int (v3 + v4)])) rfl ?_
    exact zf213_199_ok hK h0 hk118 hk128 hF
noncomputable def zf213_128 (a0 : Nat) (k118 : Int32 → zS → Option (zS)) : Nat → Int32 → Int32 → zS → Option (zS)
  | 0, _, _, _ => none
  | n + 1, x3, x4, s =>
    if x4 < 0 then
      k118 (x3 + (-1)) s
    else
      zgf s a0 41 fun v1 =>
      if ¬ x3 = v1 then
        zf213_157 a0 k118 (zf213_128 a0 k118 n) x3 x4 1000000 s
      else
        zgf s a0 42 fun v2 =>
        if ¬ x4 = v2 then
          zf213_157 a0 k118 (zf213_128 a0 k118 n) x3 x4 1000000 s
        else
          zf213_157 a0 k118 (zf213_128 a0 k118 n) x3 x4 0 s
theorem zf213_128_ok {K : cx_K} (hK : Kok K) {lg : Nat → Int64} {s' : zS} {a0 : Nat} (h0 : zsh a0 = 11) {k118 : Int32 → zS → Option (zS)} (hk118 : ∀ x3 s, k118 x3 s = some s' → Ev K zM213 (118, [some (.ref a0), none, none, some (.int x3), none, none, none, none, none], [], zmk lg s) 0 (.inl none) (zmk lg s') 0) {n : Nat} : ∀ {x3 : Int32} {x4 : Int32} {s : zS}, zf213_128 a0 k118 n x3 x4 s = some s' → Ev K zM213 (128, [some (.ref a0), none, none, some (.int x3), some (.int x4), none, none, none, none], [], zmk lg s) 0 (.inl none) (zmk lg s') 0 := by
  induction n with
  | zero => intro x3 x4 s hF; rw [zf213_128] at hF; cases hF
  | succ n ih =>
    intro x3 x4 s hF
    rw [zf213_128] at hF
    refine Ev_p 1 (c' := (130, [some (.ref a0), none, none, some (.int x3), some (.int x4), none, none, none, none], [.int x4])) rfl ?_
    refine Ez_if (M := zM213) (b := x4 < 0) rfl rfl hF (fun _ hF => ?_) (fun _ hF => ?_)
    · refine Ev_p 2 (c' := (118, [some (.ref a0), none, none, some (.int (x3 + (-1))), some (.int x4), none, none, none, none], [])) rfl ?_
      refine Ev_w (L' := [some (.ref a0), none, none, some (.int (x3 + (-1))), none, none, none, none, none]) (zle_c (zle_c (zle_c (zle_c (zle_n (zle_c (zle_c (zle_c (zle_c zle_0))))))))) ?_
      exact hk118 _ _ hF
    · refine Ev_p 2 (c' := (135, [some (.ref a0), none, none, some (.int x3), some (.int x4), none, none, none, none], [.ref a0, .int x3])) rfl ?_
      refine Ez_gf (M := zM213) (ci := 11) (f := 41) rfl rfl h0 rfl hF (fun v1 hF => ?_)
      refine Ev_p 0 (c' := (138, [some (.ref a0), none, none, some (.int x3), some (.int x4), none, none, none, none], [.int v1, .int x3])) rfl ?_
      refine Ez_if (M := zM213) (b := ¬ x3 = v1) rfl rfl hF (fun _ hF => ?_) (fun _ hF => ?_)
      · refine Ev_p 0 (c' := (154, [some (.ref a0), none, none, some (.int x3), some (.int x4), none, none, none, none], [])) rfl ?_
        refine Ez_ldc_w (M := zM213) (x := 1000000) rfl rfl ?_
        refine Ev_p 0 (c' := (157, [some (.ref a0), none, none, some (.int x3), some (.int x4), none, none, none, none], [.int 1000000])) rfl ?_
        exact zf213_157_ok hK h0 hk118 (fun _ _ _ hF => ih hF) hF
      · refine Ev_p 2 (c' := (144, [some (.ref a0), none, none, some (.int x3), some (.int x4), none, none, none, none], [.ref a0, .int x4])) rfl ?_
        refine Ez_gf (M := zM213) (ci := 11) (f := 42) rfl rfl h0 rfl hF (fun v2 hF => ?_)
        refine Ev_p 0 (c' := (147, [some (.ref a0), none, none, some (.int x3), some (.int x4), none, none, none, none], [.int v2, .int x4])) rfl ?_
        refine Ez_if (M := zM213) (b := ¬ x4 = v2) rfl rfl hF (fun _ hF => ?_) (fun _ hF => ?_)
        · refine Ev_p 0 (c' := (154, [some (.ref a0), none, none, some (.int x3), some (.int x4), none, none, none, none], [])) rfl ?_
          refine Ez_ldc_w (M := zM213) (x := 1000000) rfl rfl ?_
          refine Ev_p 0 (c' := (157, [some (.ref a0), none, none, some (.int x3), some (.int x4), none, none, none, none], [.int 1000000])) rfl ?_
          exact zf213_157_ok hK h0 hk118 (fun _ _ _ hF => ih hF) hF
        · refine Ev_p 2 (c' := (157, [some (.ref a0), none, none, some (.int x3), some (.int x4), none, none, none, none], [.int 0])) rfl ?_
          exact zf213_157_ok hK h0 hk118 (fun _ _ _ hF => ih hF) hF
noncomputable def zf213_118 (a0 : Nat)  : Nat → Int32 → zS → Option (zS)
  | 0, _, _ => none
  | n + 1, x3, s =>
    if x3 < 0 then
      some s
    else
      zgf s a0 42 fun v1 =>
      zf213_128 a0 (zf213_118 a0 n) zfz x3 v1 s
theorem zf213_118_ok {K : cx_K} (hK : Kok K) {lg : Nat → Int64} {s' : zS} {a0 : Nat} (h0 : zsh a0 = 11)   {n : Nat} : ∀ {x3 : Int32} {s : zS}, zf213_118 a0 n x3 s = some s' → Ev K zM213 (118, [some (.ref a0), none, none, some (.int x3), none, none, none, none, none], [], zmk lg s) 0 (.inl none) (zmk lg s') 0 := by
  induction n with
  | zero => intro x3 s hF; rw [zf213_118] at hF; cases hF
  | succ n ih =>
    intro x3 s hF
    rw [zf213_118] at hF
    refine Ev_p 1 (c' := (119, [some (.ref a0), none, none, some (.int x3), none, none, none, none, none], [.int x3])) rfl ?_
    refine Ez_if (M := zM213) (b := x3 < 0) rfl rfl hF (fun _ hF => ?_) (fun _ hF => ?_)
    · refine Ev_p 0 (c' := (378, [some (.ref a0), none, none, some (.int x3), none, none, none, none, none], [])) rfl ?_
      exact Ez_rv (M := zM213) rfl rfl hF
    · refine Ev_p 1 (c' := (123, [some (.ref a0), none, none, some (.int x3), none, none, none, none, none], [.ref a0])) rfl ?_
      refine Ez_gf (M := zM213) (ci := 11) (f := 42) rfl rfl h0 rfl hF (fun v1 hF => ?_)
      refine Ev_p 1 (c' := (128, [some (.ref a0), none, none, some (.int x3), some (.int v1), none, none, none, none], [])) rfl ?_
      exact zf213_128_ok hK h0 (fun _ _ hF => ih hF) hF
noncomputable def zf213_64 (a0 : Nat)  : Nat → Int32 → Int32 → zS → Option (zS)
  | 0, _, _, _ => none
  | n + 1, x2, x3, s =>
    zal s (zrf a0 22) 1 fun v1 =>
    if v1 ≤ x3 then
      zgf s a0 41 fun v2 =>
      zf213_118 a0 zfz v2 s
    else
      zal s (zrf a0 24) (100 + x3) fun v3 =>
      if ¬ v3 = x2 then
        zf213_64 a0 n x2 (x3 + 1) s
      else
        zgf s a0 42 fun v4 =>
        zas s (zrf a0 40) v4 x3 fun s5 =>
        zgf s5 a0 42 fun v6 =>
        zpf s5 a0 42 (v6 + 1) fun s7 =>
        zf213_64 a0 n x2 (x3 + 1) s7
theorem zf213_64_ok {K : cx_K} (hK : Kok K) {lg : Nat → Int64} {s' : zS} {a0 : Nat} (h0 : zsh a0 = 11)   {n : Nat} : ∀ {x2 : Int32} {x3 : Int32} {s : zS}, zf213_64 a0 n x2 x3 s = some s' → Ev K zM213 (64, [some (.ref a0), none, some (.int x2), some (.int x3), none, none, none, none, none], [], zmk lg s) 0 (.inl none) (zmk lg s') 0 := by
  induction n with
  | zero => intro x2 x3 s hF; rw [zf213_64] at hF; cases hF
  | succ n ih =>
    intro x2 x3 s hF
    rw [zf213_64] at hF
    refine Ev_p 2 (c' := (66, [some (.ref a0), none, some (.int x2), some (.int x3), none, none, none, none, none], [.ref a0, .int x3])) rfl ?_
    refine Ez_gr (M := zM213) (ci := 11) (f := 22) (t := 100) rfl rfl h0 rfl ?_
    refine Ev_p 1 (c' := (70, [some (.ref a0), none, some (.int x2), some (.int x3), none, none, none, none, none], [.int 1, .ref (zrf a0 22), .int x3])) rfl ?_
    refine Ez_al (M := zM213) rfl (zty (ci := 11) (f := 22) (t := 100) h0 rfl) hF (fun v1 hF => ?_)
    refine Ev_p 0 (c' := (71, [some (.ref a0), none, some (.int x2), some (.int x3), none, none, none, none, none], [.int v1, .int x3])) rfl ?_
    refine Ez_if (M := zM213) (b := v1 ≤ x3) rfl rfl hF (fun _ hF => ?_) (fun _ hF => ?_)
    · refine Ev_p 1 (c' := (114, [some (.ref a0), none, some (.int x2), some (.int x3), none, none, none, none, none], [.ref a0])) rfl ?_
      refine Ez_gf (M := zM213) (ci := 11) (f := 41) rfl rfl h0 rfl hF (fun v2 hF => ?_)
      refine Ev_p 1 (c' := (118, [some (.ref a0), none, some (.int x2), some (.int v2), none, none, none, none, none], [])) rfl ?_
      refine Ev_w (L' := [some (.ref a0), none, none, some (.int v2), none, none, none, none, none]) (zle_c (zle_c (zle_n (zle_c (zle_c (zle_c (zle_c (zle_c (zle_c zle_0))))))))) ?_
      exact zf213_118_ok hK h0 hF
    · refine Ev_p 1 (c' := (75, [some (.ref a0), none, some (.int x2), some (.int x3), none, none, none, none, none], [.ref a0])) rfl ?_
      refine Ez_gr (M := zM213) (ci := 11) (f := 24) (t := 100) rfl rfl h0 rfl ?_
      refine Ev_p 3 (c' := (82, [some (.ref a0), none, some (.int x2), some (.int x3), none, none, none, none, none], [.int (100 + x3), .ref (zrf a0 24)])) rfl ?_
      refine Ez_al (M := zM213) rfl (zty (ci := 11) (f := 24) (t := 100) h0 rfl) hF (fun v3 hF => ?_)
      refine Ev_p 1 (c' := (84, [some (.ref a0), none, some (.int x2), some (.int x3), none, none, none, none, none], [.int x2, .int v3])) rfl ?_
      refine Ez_if (M := zM213) (b := ¬ v3 = x2) rfl rfl hF (fun _ hF => ?_) (fun _ hF => ?_)
      · refine Ev_p 2 (c' := (64, [some (.ref a0), none, some (.int x2), some (.int (x3 + 1)), none, none, none, none, none], [])) rfl ?_
        exact ih hF
      · refine Ev_p 1 (c' := (88, [some (.ref a0), none, some (.int x2), some (.int x3), none, none, none, none, none], [.ref a0])) rfl ?_
        refine Ez_gr (M := zM213) (ci := 11) (f := 40) (t := 100) rfl rfl h0 rfl ?_
        refine Ev_p 1 (c' := (92, [some (.ref a0), none, some (.int x2), some (.int x3), none, none, none, none, none], [.ref a0, .ref (zrf a0 40)])) rfl ?_
        refine Ez_gf (M := zM213) (ci := 11) (f := 42) rfl rfl h0 rfl hF (fun v4 hF => ?_)
        refine Ev_p 1 (c' := (96, [some (.ref a0), none, some (.int x2), some (.int x3), none, none, none, none, none], [.int x3, .int v4, .ref (zrf a0 40)])) rfl ?_
        refine Ez_as (M := zM213) rfl (zty (ci := 11) (f := 40) (t := 100) h0 rfl) hF (fun s5 hF => ?_)
        refine Ev_p 2 (c' := (99, [some (.ref a0), none, some (.int x2), some (.int x3), none, none, none, none, none], [.ref a0, .ref a0])) rfl ?_
        refine Ez_gf (M := zM213) (ci := 11) (f := 42) rfl rfl h0 rfl hF (fun v6 hF => ?_)
        refine Ev_p 2 (c' := (104, [some (.ref a0), none, some (.int x2), some (.int x3), none, none, none, none, none], [.int (v6 + 1), .ref a0])) rfl ?_
        refine Ez_pf (M := zM213) (ci := 11) (f := 42) rfl rfl h0 rfl hF (fun s7 hF => ?_)
        refine Ev_p 2 (c' := (64, [some (.ref a0), none, some (.int x2), some (.int (x3 + 1)), none, none, none, none, none], [])) rfl ?_
        exact ih hF
noncomputable def zf213_14 (a0 : Nat)  : Nat → Int32 → Int32 → Int32 → zS → Option (zS)
  | 0, _, _, _, _ => none
  | n + 1, x1, x2, x3, s =>
    zal s (zrf a0 22) 0 fun v1 =>
    if v1 ≤ x3 then
      zf213_64 a0 zfz x2 (x2 + 1) s
    else
      zal s (zrf a0 24) x3 fun v2 =>
      if ¬ v2 = x1 then
        zf213_14 a0 n x1 x2 (x3 + 1) s
      else
        zgf s a0 41 fun v3 =>
        zas s (zrf a0 39) v3 x3 fun s4 =>
        zgf s4 a0 41 fun v5 =>
        zpf s4 a0 41 (v5 + 1) fun s6 =>
        zf213_14 a0 n x1 x2 (x3 + 1) s6
theorem zf213_14_ok {K : cx_K} (hK : Kok K) {lg : Nat → Int64} {s' : zS} {a0 : Nat} (h0 : zsh a0 = 11)   {n : Nat} : ∀ {x1 : Int32} {x2 : Int32} {x3 : Int32} {s : zS}, zf213_14 a0 n x1 x2 x3 s = some s' → Ev K zM213 (14, [some (.ref a0), some (.int x1), some (.int x2), some (.int x3), none, none, none, none, none], [], zmk lg s) 0 (.inl none) (zmk lg s') 0 := by
  induction n with
  | zero => intro x1 x2 x3 s hF; rw [zf213_14] at hF; cases hF
  | succ n ih =>
    intro x1 x2 x3 s hF
    rw [zf213_14] at hF
    refine Ev_p 2 (c' := (16, [some (.ref a0), some (.int x1), some (.int x2), some (.int x3), none, none, none, none, none], [.ref a0, .int x3])) rfl ?_
    refine Ez_gr (M := zM213) (ci := 11) (f := 22) (t := 100) rfl rfl h0 rfl ?_
    refine Ev_p 1 (c' := (20, [some (.ref a0), some (.int x1), some (.int x2), some (.int x3), none, none, none, none, none], [.int 0, .ref (zrf a0 22), .int x3])) rfl ?_
    refine Ez_al (M := zM213) rfl (zty (ci := 11) (f := 22) (t := 100) h0 rfl) hF (fun v1 hF => ?_)
    refine Ev_p 0 (c' := (21, [some (.ref a0), some (.int x1), some (.int x2), some (.int x3), none, none, none, none, none], [.int v1, .int x3])) rfl ?_
    refine Ez_if (M := zM213) (b := v1 ≤ x3) rfl rfl hF (fun _ hF => ?_) (fun _ hF => ?_)
    · refine Ev_p 4 (c' := (64, [some (.ref a0), some (.int x1), some (.int x2), some (.int (x2 + 1)), none, none, none, none, none], [])) rfl ?_
      refine Ev_w (L' := [some (.ref a0), none, some (.int x2), some (.int (x2 + 1)), none, none, none, none, none]) (zle_c (zle_n (zle_c (zle_c (zle_c (zle_c (zle_c (zle_c (zle_c zle_0))))))))) ?_
      exact zf213_64_ok hK h0 hF
    · refine Ev_p 1 (c' := (25, [some (.ref a0), some (.int x1), some (.int x2), some (.int x3), none, none, none, none, none], [.ref a0])) rfl ?_
      refine Ez_gr (M := zM213) (ci := 11) (f := 24) (t := 100) rfl rfl h0 rfl ?_
      refine Ev_p 1 (c' := (29, [some (.ref a0), some (.int x1), some (.int x2), some (.int x3), none, none, none, none, none], [.int x3, .ref (zrf a0 24)])) rfl ?_
      refine Ez_al (M := zM213) rfl (zty (ci := 11) (f := 24) (t := 100) h0 rfl) hF (fun v2 hF => ?_)
      refine Ev_p 1 (c' := (31, [some (.ref a0), some (.int x1), some (.int x2), some (.int x3), none, none, none, none, none], [.int x1, .int v2])) rfl ?_
      refine Ez_if (M := zM213) (b := ¬ v2 = x1) rfl rfl hF (fun _ hF => ?_) (fun _ hF => ?_)
      · refine Ev_p 2 (c' := (14, [some (.ref a0), some (.int x1), some (.int x2), some (.int (x3 + 1)), none, none, none, none, none], [])) rfl ?_
        exact ih hF
      · refine Ev_p 1 (c' := (35, [some (.ref a0), some (.int x1), some (.int x2), some (.int x3), none, none, none, none, none], [.ref a0])) rfl ?_
        refine Ez_gr (M := zM213) (ci := 11) (f := 39) (t := 100) rfl rfl h0 rfl ?_
        refine Ev_p 1 (c' := (39, [some (.ref a0), some (.int x1), some (.int x2), some (.int x3), none, none, none, none, none], [.ref a0, .ref (zrf a0 39)])) rfl ?_
        refine Ez_gf (M := zM213) (ci := 11) (f := 41) rfl rfl h0 rfl hF (fun v3 hF => ?_)
        refine Ev_p 1 (c' := (43, [some (.ref a0), some (.int x1), some (.int x2), some (.int x3), none, none, none, none, none], [.int x3, .int v3, .ref (zrf a0 39)])) rfl ?_
        refine Ez_as (M := zM213) rfl (zty (ci := 11) (f := 39) (t := 100) h0 rfl) hF (fun s4 hF => ?_)
        refine Ev_p 2 (c' := (46, [some (.ref a0), some (.int x1), some (.int x2), some (.int x3), none, none, none, none, none], [.ref a0, .ref a0])) rfl ?_
        refine Ez_gf (M := zM213) (ci := 11) (f := 41) rfl rfl h0 rfl hF (fun v5 hF => ?_)
        refine Ev_p 2 (c' := (51, [some (.ref a0), some (.int x1), some (.int x2), some (.int x3), none, none, none, none, none], [.int (v5 + 1), .ref a0])) rfl ?_
        refine Ez_pf (M := zM213) (ci := 11) (f := 41) rfl rfl h0 rfl hF (fun s6 hF => ?_)
        refine Ev_p 2 (c' := (14, [some (.ref a0), some (.int x1), some (.int x2), some (.int (x3 + 1)), none, none, none, none, none], [])) rfl ?_
        exact ih hF
noncomputable def zf213 (a0 : Nat) (x1 : Int32) (x2 : Int32) (s : zS) : Option (zS) :=
  zpf s a0 41 0 fun s1 =>
  zpf s1 a0 42 0 fun s2 =>
  zf213_14 a0 zfz x1 x2 (x1 + 1) s2
theorem zf213_ok {K : cx_K} (hK : Kok K) {lg : Nat → Int64} {s' : zS} {a0 : Nat} (h0 : zsh a0 = 11) {x1 : Int32} {x2 : Int32} {s : zS} (hF : zf213 a0 x1 x2 s = some s') : Ct K 213 [.ref a0, .int x1, .int x2] (zmk lg s) (.inl none) (zmk lg s') 0 := by
  unfold zf213 at hF
  refine Ct_of hK nd_ok213 (mL := 9) (rt := none) rfl rfl (Nat.le_of_ble_eq_true rfl) zlen_le ?_
  refine Ev_p 2 (c' := (2, [some (.ref a0), some (.int x1), some (.int x2), none, none, none, none, none, none], [.int 0, .ref a0])) rfl ?_
  refine Ez_pf (M := zM213) (ci := 11) (f := 41) rfl rfl h0 rfl hF (fun s1 hF => ?_)
  refine Ev_p 2 (c' := (7, [some (.ref a0), some (.int x1), some (.int x2), none, none, none, none, none, none], [.int 0, .ref a0])) rfl ?_
  refine Ez_pf (M := zM213) (ci := 11) (f := 42) rfl rfl h0 rfl hF (fun s2 hF => ?_)
  refine Ev_p 4 (c' := (14, [some (.ref a0), some (.int x1), some (.int x2), some (.int (x1 + 1)), none, none, none, none, none], [])) rfl ?_
  exact zf213_14_ok hK h0 hF

/-! The methods as functions, and that the machine goes so (printed by wip/gen/fgen.py). -/
set_option maxRecDepth 100000
set_option linter.unusedVariables false
-- PaperParcels$Styles.parentOf(I)I
abbrev zM66 : ev_M := (am_in nd_i66, am_fl nd_f6, am_ct nd_k6, am_sl nd_ml nd_s66, fun _ => none, some .int)
noncomputable def zf66 (a0 : Nat) (x1 : Int32) (s : zS) : Option (Int32 × zS) :=
  zbi (zf63 (zrf a0 0) x1 102 s) fun v1 s2 =>
  if ¬ v1 = (-1) then
    zal s2 (zrf a0 2) v1 fun v3 =>
    some (v3, s2)
  else
    some ((-1), s2)
theorem zf66_ok {K : cx_K} (hK : Kok K) {lg : Nat → Int64} {v : Int32} {s' : zS} {a0 : Nat} (h0 : zsh a0 = 6) {x1 : Int32} {s : zS} (hF : zf66 a0 x1 s = some (v, s')) : Ct K 66 [.ref a0, .int x1] (zmk lg s) (.inl (some (.int v))) (zmk lg s') 0 := by
  unfold zf66 at hF
  refine Ct_of hK nd_ok66 (mL := 3) (rt := some .int) rfl rfl (Nat.le_of_ble_eq_true rfl) zlen_le ?_
  refine Ev_p 1 (c' := (1, [some (.ref a0), some (.int x1), none], [.ref a0])) rfl ?_
  refine Ez_gr (M := zM66) (ci := 6) (f := 0) (t := 5) rfl rfl h0 rfl ?_
  refine Ev_p 2 (c' := (7, [some (.ref a0), some (.int x1), none], [.int 102, .int x1, .ref (zrf a0 0)])) rfl ?_
  refine Ez_ci (M := zM66) (As := [.ref (zrf a0 0), .int x1, .int 102]) (st' := []) (zsite_0 (y := 63) (k := 3) (ci := 6) rfl rfl) (Nat.le_of_ble_eq_true rfl) (Nat.le_of_ble_eq_true rfl) rfl rfl (fun _ _ hF => zf63_ok hK (zty (ci := 6) (f := 0) (t := 5) h0 rfl) hF) hF (fun v1 s2 hF => ?_)
  refine Ev_p 3 (c' := (13, [some (.ref a0), some (.int x1), some (.int v1)], [.int (-1), .int v1])) rfl ?_
  refine Ez_if (M := zM66) (b := ¬ v1 = (-1)) rfl rfl hF (fun _ hF => ?_) (fun _ hF => ?_)
  · refine Ev_p 1 (c' := (21, [some (.ref a0), some (.int x1), some (.int v1)], [.ref a0])) rfl ?_
    refine Ez_gr (M := zM66) (ci := 6) (f := 2) (t := 100) rfl rfl h0 rfl ?_
    refine Ev_p 1 (c' := (25, [some (.ref a0), some (.int x1), some (.int v1)], [.int v1, .ref (zrf a0 2)])) rfl ?_
    refine Ez_al (M := zM66) rfl (zty (ci := 6) (f := 2) (t := 100) h0 rfl) hF (fun v3 hF => ?_)
    refine Ev_p 0 (c' := (26, [some (.ref a0), some (.int x1), some (.int v1)], [.int v3])) rfl ?_
    exact Ez_ri (M := zM66) rfl rfl hF
  · refine Ev_p 2 (c' := (26, [some (.ref a0), some (.int x1), some (.int v1)], [.int (-1)])) rfl ?_
    exact Ez_ri (M := zM66) rfl rfl hF
-- PaperParcels$Styles.firstWithoutEnd()I
abbrev zM65 : ev_M := (am_in nd_i65, am_fl nd_f6, am_ct nd_k6, am_sl nd_ml nd_s65, fun _ => none, some .int)
noncomputable def zf65_40 (a0 : Nat) (k2 : Int32 → zS → Option (Int32 × zS)) (x1 : Int32) (x2 : Int32) (s : zS) : Option (Int32 × zS) :=
  if x2 = (-1) then
    k2 (x1 + 1) s
  else
    some (x1, s)
theorem zf65_40_ok {K : cx_K} (hK : Kok K) {lg : Nat → Int64} {v : Int32} {s' : zS} {a0 : Nat} (h0 : zsh a0 = 6) {k2 : Int32 → zS → Option (Int32 × zS)} (hk2 : ∀ x1 s, k2 x1 s = some (v, s') → Ev K zM65 (2, [some (.ref a0), some (.int x1), none, none], [], zmk lg s) 0 (.inl (some (.int v))) (zmk lg s') 0) {x1 : Int32} {x2 : Int32}  {s : zS} (hF : zf65_40 a0 k2 x1 x2 s = some (v, s')) : Ev K zM65 (40, [some (.ref a0), some (.int x1), some (.int x2), none], [], zmk lg s) 0 (.inl (some (.int v))) (zmk lg s') 0 := by
  unfold zf65_40 at hF
  refine Ev_p 2 (c' := (42, [some (.ref a0), some (.int x1), some (.int x2), none], [.int (-1), .int x2])) rfl ?_
  refine Ez_if (M := zM65) (b := x2 = (-1)) rfl rfl hF (fun _ hF => ?_) (fun _ hF => ?_)
  · refine Ev_p 2 (c' := (2, [some (.ref a0), some (.int (x1 + 1)), some (.int x2), none], [])) rfl ?_
    refine Ev_w (L' := [some (.ref a0), some (.int (x1 + 1)), none, none]) (zle_c (zle_c (zle_n (zle_c zle_0)))) ?_
    exact hk2 _ _ hF
  · refine Ev_p 1 (c' := (46, [some (.ref a0), some (.int x1), some (.int x2), none], [.int x1])) rfl ?_
    exact Ez_ri (M := zM65) rfl rfl hF
noncomputable def zf65_17 (a0 : Nat) (k2 : Int32 → zS → Option (Int32 × zS)) : Nat → Int32 → Int32 → Int32 → zS → Option (Int32 × zS)
  | 0, _, _, _, _ => none
  | n + 1, x1, x2, x3, s =>
    if 26 ≤ x3 then
      zf65_40 a0 k2 x1 x2 s
    else
      if x2 = (-1) then
        zf65_40 a0 k2 x1 x2 s
      else
        zbi (zf66 a0 x2 s) fun v1 s2 =>
        zf65_17 a0 k2 n x1 v1 (x3 + 1) s2
theorem zf65_17_ok {K : cx_K} (hK : Kok K) {lg : Nat → Int64} {v : Int32} {s' : zS} {a0 : Nat} (h0 : zsh a0 = 6) {k2 : Int32 → zS → Option (Int32 × zS)} (hk2 : ∀ x1 s, k2 x1 s = some (v, s') → Ev K zM65 (2, [some (.ref a0), some (.int x1), none, none], [], zmk lg s) 0 (.inl (some (.int v))) (zmk lg s') 0) {n : Nat} : ∀ {x1 : Int32} {x2 : Int32} {x3 : Int32} {s : zS}, zf65_17 a0 k2 n x1 x2 x3 s = some (v, s') → Ev K zM65 (17, [some (.ref a0), some (.int x1), some (.int x2), some (.int x3)], [], zmk lg s) 0 (.inl (some (.int v))) (zmk lg s') 0 := by
  induction n with
  | zero => intro x1 x2 x3 s hF; rw [zf65_17] at hF; cases hF
  | succ n ih =>
    intro x1 x2 x3 s hF
    rw [zf65_17] at hF
    refine Ev_p 2 (c' := (20, [some (.ref a0), some (.int x1), some (.int x2), some (.int x3)], [.int 26, .int x3])) rfl ?_
    refine Ez_if (M := zM65) (b := 26 ≤ x3) rfl rfl hF (fun _ hF => ?_) (fun _ hF => ?_)
    · refine Ev_p 0 (c' := (40, [some (.ref a0), some (.int x1), some (.int x2), some (.int x3)], [])) rfl ?_
      refine Ev_w (L' := [some (.ref a0), some (.int x1), some (.int x2), none]) (zle_c (zle_c (zle_c (zle_n zle_0)))) ?_
      exact zf65_40_ok hK h0 hk2 hF
    · refine Ev_p 2 (c' := (25, [some (.ref a0), some (.int x1), some (.int x2), some (.int x3)], [.int (-1), .int x2])) rfl ?_
      refine Ez_if (M := zM65) (b := x2 = (-1)) rfl rfl hF (fun _ hF => ?_) (fun _ hF => ?_)
      · refine Ev_p 0 (c' := (40, [some (.ref a0), some (.int x1), some (.int x2), some (.int x3)], [])) rfl ?_
        refine Ev_w (L' := [some (.ref a0), some (.int x1), some (.int x2), none]) (zle_c (zle_c (zle_c (zle_n zle_0)))) ?_
        exact zf65_40_ok hK h0 hk2 hF
      · refine Ev_p 2 (c' := (30, [some (.ref a0), some (.int x1), some (.int x2), some (.int x3)], [.int x2, .ref a0])) rfl ?_
        refine Ez_ci (M := zM65) (As := [.ref a0, .int x2]) (st' := []) (am_site_v (y := 66) (k := 2) (ci := 6) rfl rfl (zrcv rfl h0 rfl)) (Nat.le_of_ble_eq_true rfl) (Nat.le_of_ble_eq_true rfl) rfl rfl (fun _ _ hF => zf66_ok hK h0 hF) hF (fun v1 s2 hF => ?_)
        refine Ev_p 3 (c' := (17, [some (.ref a0), some (.int x1), some (.int v1), some (.int (x3 + 1))], [])) rfl ?_
        exact ih hF
noncomputable def zf65_2 (a0 : Nat)  : Nat → Int32 → zS → Option (Int32 × zS)
  | 0, _, _ => none
  | n + 1, x1, s =>
    zgf s (zrf a0 0) 6 fun v1 =>
    if v1 ≤ x1 then
      some ((-1), s)
    else
      zf65_17 a0 (zf65_2 a0 n) zfz x1 x1 0 s
theorem zf65_2_ok {K : cx_K} (hK : Kok K) {lg : Nat → Int64} {v : Int32} {s' : zS} {a0 : Nat} (h0 : zsh a0 = 6)   {n : Nat} : ∀ {x1 : Int32} {s : zS}, zf65_2 a0 n x1 s = some (v, s') → Ev K zM65 (2, [some (.ref a0), some (.int x1), none, none], [], zmk lg s) 0 (.inl (some (.int v))) (zmk lg s') 0 := by
  induction n with
  | zero => intro x1 s hF; rw [zf65_2] at hF; cases hF
  | succ n ih =>
    intro x1 s hF
    rw [zf65_2] at hF
    refine Ev_p 2 (c' := (4, [some (.ref a0), some (.int x1), none, none], [.ref a0, .int x1])) rfl ?_
    refine Ez_gr (M := zM65) (ci := 6) (f := 0) (t := 5) rfl rfl h0 rfl ?_
    refine Ev_p 0 (c' := (7, [some (.ref a0), some (.int x1), none, none], [.ref (zrf a0 0), .int x1])) rfl ?_
    refine Ez_gf (M := zM65) (ci := 5) (f := 6) rfl rfl (zty (ci := 6) (f := 0) (t := 5) h0 rfl) rfl hF (fun v1 hF => ?_)
    refine Ev_p 0 (c' := (10, [some (.ref a0), some (.int x1), none, none], [.int v1, .int x1])) rfl ?_
    refine Ez_if (M := zM65) (b := v1 ≤ x1) rfl rfl hF (fun _ hF => ?_) (fun _ hF => ?_)
    · refine Ev_p 1 (c' := (54, [some (.ref a0), some (.int x1), none, none], [.int (-1)])) rfl ?_
      exact Ez_ri (M := zM65) rfl rfl hF
    · refine Ev_p 4 (c' := (17, [some (.ref a0), some (.int x1), some (.int x1), some (.int 0)], [])) rfl ?_
      exact zf65_17_ok hK h0 (fun _ _ hF => ih hF) hF
noncomputable def zf65 (a0 : Nat) (s : zS) : Option (Int32 × zS) :=
  zf65_2 a0 zfz 1 s
theorem zf65_ok {K : cx_K} (hK : Kok K) {lg : Nat → Int64} {v : Int32} {s' : zS} {a0 : Nat} (h0 : zsh a0 = 6)  {s : zS} (hF : zf65 a0 s = some (v, s')) : Ct K 65 [.ref a0] (zmk lg s) (.inl (some (.int v))) (zmk lg s') 0 := by
  unfold zf65 at hF
  refine Ct_of hK nd_ok65 (mL := 4) (rt := some .int) rfl rfl (Nat.le_of_ble_eq_true rfl) zlen_le ?_
  refine Ev_p 2 (c' := (2, [some (.ref a0), some (.int 1), none, none], [])) rfl ?_
  exact zf65_2_ok hK h0 hF
-- PaperParcels$Styles.firstFault()I
abbrev zM61 : ev_M := (am_in nd_i61, am_fl nd_f6, am_ct nd_k6, am_sl nd_ml nd_s61, fun _ => none, some .int)
noncomputable def zf61_31 (a0 : Nat)  (x1 : Int32) (s : zS) : Option (Int32 × zS) :=
  if x1 = (-1) then
    zbi (zf64 a0 (zrf a0 1) 121 s) fun v1 s2 =>
    if ¬ v1 = (-1) then
      zal s2 (zrf (zrf a0 1) 2) v1 fun v3 =>
      some ((1000 + v3), s2)
    else
      some ((-1), s2)
  else
    zal s (zrf (zrf a0 0) 2) x1 fun v4 =>
    some (v4, s)
theorem zf61_31_ok {K : cx_K} (hK : Kok K) {lg : Nat → Int64} {v : Int32} {s' : zS} {a0 : Nat} (h0 : zsh a0 = 6)   {x1 : Int32}  {s : zS} (hF : zf61_31 a0 x1 s = some (v, s')) : Ev K zM61 (31, [some (.ref a0), some (.int x1), none], [], zmk lg s) 0 (.inl (some (.int v))) (zmk lg s') 0 := by
  unfold zf61_31 at hF
  refine Ev_p 2 (c' := (33, [some (.ref a0), some (.int x1), none], [.int (-1), .int x1])) rfl ?_
  refine Ez_if (M := zM61) (b := x1 = (-1)) rfl rfl hF (fun _ hF => ?_) (fun _ hF => ?_)
  · refine Ev_p 2 (c' := (48, [some (.ref a0), some (.int x1), none], [.ref a0, .ref a0])) rfl ?_
    refine Ez_gr (M := zM61) (ci := 6) (f := 1) (t := 5) rfl rfl h0 rfl ?_
    refine Ev_p 1 (c' := (53, [some (.ref a0), some (.int x1), none], [.int 121, .ref (zrf a0 1), .ref a0])) rfl ?_
    refine Ez_ci (M := zM61) (As := [.ref a0, .ref (zrf a0 1), .int 121]) (st' := []) (am_site_v (y := 64) (k := 3) (ci := 6) rfl rfl (zrcv rfl h0 rfl)) (Nat.le_of_ble_eq_true rfl) (Nat.le_of_ble_eq_true rfl) rfl rfl (fun _ _ hF => zf64_ok hK h0 (zty (ci := 6) (f := 1) (t := 5) h0 rfl) hF) hF (fun v1 s2 hF => ?_)
    refine Ev_p 3 (c' := (59, [some (.ref a0), some (.int x1), some (.int v1)], [.int (-1), .int v1])) rfl ?_
    refine Ez_if (M := zM61) (b := ¬ v1 = (-1)) rfl rfl hF (fun _ hF => ?_) (fun _ hF => ?_)
    · refine Ev_p 2 (c' := (70, [some (.ref a0), some (.int x1), some (.int v1)], [.ref a0, .int 1000])) rfl ?_
      refine Ez_gr (M := zM61) (ci := 6) (f := 1) (t := 5) rfl rfl h0 rfl ?_
      refine Ev_p 0 (c' := (73, [some (.ref a0), some (.int x1), some (.int v1)], [.ref (zrf a0 1), .int 1000])) rfl ?_
      refine Ez_gr (M := zM61) (ci := 5) (f := 2) (t := 100) rfl rfl (zty (ci := 6) (f := 1) (t := 5) h0 rfl) rfl ?_
      refine Ev_p 1 (c' := (77, [some (.ref a0), some (.int x1), some (.int v1)], [.int v1, .ref (zrf (zrf a0 1) 2), .int 1000])) rfl ?_
      refine Ez_al (M := zM61) rfl (zty (ci := 5) (f := 2) (t := 100) (zty (ci := 6) (f := 1) (t := 5) h0 rfl) rfl) hF (fun v3 hF => ?_)
      refine Ev_p 1 (c' := (79, [some (.ref a0), some (.int x1), some (.int v1)], [.int (1000 + v3)])) rfl ?_
      exact Ez_ri (M := zM61) rfl rfl hF
    · refine Ev_p 2 (c' := (79, [some (.ref a0), some (.int x1), some (.int v1)], [.int (-1)])) rfl ?_
      exact Ez_ri (M := zM61) rfl rfl hF
  · refine Ev_p 1 (c' := (37, [some (.ref a0), some (.int x1), none], [.ref a0])) rfl ?_
    refine Ez_gr (M := zM61) (ci := 6) (f := 0) (t := 5) rfl rfl h0 rfl ?_
    refine Ev_p 0 (c' := (40, [some (.ref a0), some (.int x1), none], [.ref (zrf a0 0)])) rfl ?_
    refine Ez_gr (M := zM61) (ci := 5) (f := 2) (t := 100) rfl rfl (zty (ci := 6) (f := 0) (t := 5) h0 rfl) rfl ?_
    refine Ev_p 1 (c' := (44, [some (.ref a0), some (.int x1), none], [.int x1, .ref (zrf (zrf a0 0) 2)])) rfl ?_
    refine Ez_al (M := zM61) rfl (zty (ci := 5) (f := 2) (t := 100) (zty (ci := 6) (f := 0) (t := 5) h0 rfl) rfl) hF (fun v4 hF => ?_)
    refine Ev_p 0 (c' := (45, [some (.ref a0), some (.int x1), none], [.int v4])) rfl ?_
    exact Ez_ri (M := zM61) rfl rfl hF
noncomputable def zf61_21 (a0 : Nat)  (x1 : Int32) (s : zS) : Option (Int32 × zS) :=
  if ¬ x1 = (-1) then
    zf61_31 a0 x1 s
  else
    zbi (zf65 a0 s) fun v1 s2 =>
    zf61_31 a0 v1 s2
theorem zf61_21_ok {K : cx_K} (hK : Kok K) {lg : Nat → Int64} {v : Int32} {s' : zS} {a0 : Nat} (h0 : zsh a0 = 6)   {x1 : Int32}  {s : zS} (hF : zf61_21 a0 x1 s = some (v, s')) : Ev K zM61 (21, [some (.ref a0), some (.int x1), none], [], zmk lg s) 0 (.inl (some (.int v))) (zmk lg s') 0 := by
  unfold zf61_21 at hF
  refine Ev_p 2 (c' := (23, [some (.ref a0), some (.int x1), none], [.int (-1), .int x1])) rfl ?_
  refine Ez_if (M := zM61) (b := ¬ x1 = (-1)) rfl rfl hF (fun _ hF => ?_) (fun _ hF => ?_)
  · refine Ev_p 0 (c' := (31, [some (.ref a0), some (.int x1), none], [])) rfl ?_
    exact zf61_31_ok hK h0 hF
  · refine Ev_p 1 (c' := (27, [some (.ref a0), some (.int x1), none], [.ref a0])) rfl ?_
    refine Ez_ci (M := zM61) (As := [.ref a0]) (st' := []) (am_site_v (y := 65) (k := 1) (ci := 6) rfl rfl (zrcv rfl h0 rfl)) (Nat.le_of_ble_eq_true rfl) (Nat.le_of_ble_eq_true rfl) rfl rfl (fun _ _ hF => zf65_ok hK h0 hF) hF (fun v1 s2 hF => ?_)
    refine Ev_p 1 (c' := (31, [some (.ref a0), some (.int v1), none], [])) rfl ?_
    exact zf61_31_ok hK h0 hF
noncomputable def zf61 (a0 : Nat) (s : zS) : Option (Int32 × zS) :=
  zbi (zf62 a0 s) fun v1 s2 =>
  if ¬ v1 = (-1) then
    zf61_21 a0 v1 s2
  else
    zbi (zf64 a0 (zrf a0 0) 102 s2) fun v3 s4 =>
    zf61_21 a0 v3 s4
theorem zf61_ok {K : cx_K} (hK : Kok K) {lg : Nat → Int64} {v : Int32} {s' : zS} {a0 : Nat} (h0 : zsh a0 = 6)  {s : zS} (hF : zf61 a0 s = some (v, s')) : Ct K 61 [.ref a0] (zmk lg s) (.inl (some (.int v))) (zmk lg s') 0 := by
  unfold zf61 at hF
  refine Ct_of hK nd_ok61 (mL := 3) (rt := some .int) rfl rfl (Nat.le_of_ble_eq_true rfl) zlen_le ?_
  refine Ev_p 1 (c' := (1, [some (.ref a0), none, none], [.ref a0])) rfl ?_
  refine Ez_ci (M := zM61) (As := [.ref a0]) (st' := []) (am_site_v (y := 62) (k := 1) (ci := 6) rfl rfl (zrcv rfl h0 rfl)) (Nat.le_of_ble_eq_true rfl) (Nat.le_of_ble_eq_true rfl) rfl rfl (fun _ _ hF => zf62_ok hK h0 hF) hF (fun v1 s2 hF => ?_)
  refine Ev_p 3 (c' := (7, [some (.ref a0), some (.int v1), none], [.int (-1), .int v1])) rfl ?_
  refine Ez_if (M := zM61) (b := ¬ v1 = (-1)) rfl rfl hF (fun _ hF => ?_) (fun _ hF => ?_)
  · refine Ev_p 0 (c' := (21, [some (.ref a0), some (.int v1), none], [])) rfl ?_
    exact zf61_21_ok hK h0 hF
  · refine Ev_p 2 (c' := (12, [some (.ref a0), some (.int v1), none], [.ref a0, .ref a0])) rfl ?_
    refine Ez_gr (M := zM61) (ci := 6) (f := 0) (t := 5) rfl rfl h0 rfl ?_
    refine Ev_p 1 (c' := (17, [some (.ref a0), some (.int v1), none], [.int 102, .ref (zrf a0 0), .ref a0])) rfl ?_
    refine Ez_ci (M := zM61) (As := [.ref a0, .ref (zrf a0 0), .int 102]) (st' := []) (am_site_v (y := 64) (k := 3) (ci := 6) rfl rfl (zrcv rfl h0 rfl)) (Nat.le_of_ble_eq_true rfl) (Nat.le_of_ble_eq_true rfl) rfl rfl (fun _ _ hF => zf64_ok hK h0 (zty (ci := 6) (f := 0) (t := 5) h0 rfl) hF) hF (fun v3 s4 hF => ?_)
    refine Ev_p 1 (c' := (21, [some (.ref a0), some (.int v3), none], [])) rfl ?_
    exact zf61_21_ok hK h0 hF
-- PaperParcels$Elements.valueNumber(I)I
abbrev zM69 : ev_M := (am_in nd_i69, am_fl nd_f5, am_ct nd_k5, am_sl nd_ml nd_s69, fun _ => none, some .int)
noncomputable def zf69_4 (a0 : Nat)  : Nat → Int32 → Int32 → Int32 → zS → Option (Int32 × zS)
  | 0, _, _, _, _ => none
  | n + 1, x1, x2, x3, s =>
    zal s (zrf a0 8) x1 fun v1 =>
    if v1 ≤ x3 then
      some (x2, s)
    else
      zbi (zf57 a0 x1 x3 s) fun v2 s3 =>
      zf69_4 a0 n x1 (((10 * x2) + v2) - 48) (x3 + 1) s3
theorem zf69_4_ok {K : cx_K} (hK : Kok K) {lg : Nat → Int64} {v : Int32} {s' : zS} {a0 : Nat} (h0 : zsh a0 = 5)   {n : Nat} : ∀ {x1 : Int32} {x2 : Int32} {x3 : Int32} {s : zS}, zf69_4 a0 n x1 x2 x3 s = some (v, s') → Ev K zM69 (4, [some (.ref a0), some (.int x1), some (.int x2), some (.int x3)], [], zmk lg s) 0 (.inl (some (.int v))) (zmk lg s') 0 := by
  induction n with
  | zero => intro x1 x2 x3 s hF; rw [zf69_4] at hF; cases hF
  | succ n ih =>
    intro x1 x2 x3 s hF
    rw [zf69_4] at hF
    refine Ev_p 2 (c' := (6, [some (.ref a0), some (.int x1), some (.int x2), some (.int x3)], [.ref a0, .int x3])) rfl ?_
    refine Ez_gr (M := zM69) (ci := 5) (f := 8) (t := 100) rfl rfl h0 rfl ?_
    refine Ev_p 1 (c' := (10, [some (.ref a0), some (.int x1), some (.int x2), some (.int x3)], [.int x1, .ref (zrf a0 8), .int x3])) rfl ?_
    refine Ez_al (M := zM69) rfl (zty (ci := 5) (f := 8) (t := 100) h0 rfl) hF (fun v1 hF => ?_)
    refine Ev_p 0 (c' := (11, [some (.ref a0), some (.int x1), some (.int x2), some (.int x3)], [.int v1, .int x3])) rfl ?_
    refine Ez_if (M := zM69) (b := v1 ≤ x3) rfl rfl hF (fun _ hF => ?_) (fun _ hF => ?_)
    · refine Ev_p 1 (c' := (36, [some (.ref a0), some (.int x1), some (.int x2), some (.int x3)], [.int x2])) rfl ?_
      exact Ez_ri (M := zM69) rfl rfl hF
    · refine Ev_p 6 (c' := (21, [some (.ref a0), some (.int x1), some (.int x2), some (.int x3)], [.int x3, .int x1, .ref a0, .int (10 * x2)])) rfl ?_
      refine Ez_ci (M := zM69) (As := [.ref a0, .int x1, .int x3]) (st' := [.int (10 * x2)]) (am_site_v (y := 57) (k := 3) (ci := 5) rfl rfl (zrcv rfl h0 rfl)) (Nat.le_of_ble_eq_true rfl) (Nat.le_of_ble_eq_true rfl) rfl rfl (fun _ _ hF => zf57_ok hK h0 hF) hF (fun v2 s3 hF => ?_)
      refine Ev_p 6 (c' := (4, [some (.ref a0), some (.int x1), some (.int (((10 * x2) + v2) - 48)), some (.int (x3 + 1))], [])) rfl ?_
      exact ih hF
noncomputable def zf69 (a0 : Nat) (x1 : Int32) (s : zS) : Option (Int32 × zS) :=
  zf69_4 a0 zfz x1 0 0 s
theorem zf69_ok {K : cx_K} (hK : Kok K) {lg : Nat → Int64} {v : Int32} {s' : zS} {a0 : Nat} (h0 : zsh a0 = 5) {x1 : Int32} {s : zS} (hF : zf69 a0 x1 s = some (v, s')) : Ct K 69 [.ref a0, .int x1] (zmk lg s) (.inl (some (.int v))) (zmk lg s') 0 := by
  unfold zf69 at hF
  refine Ct_of hK nd_ok69 (mL := 4) (rt := some .int) rfl rfl (Nat.le_of_ble_eq_true rfl) zlen_le ?_
  refine Ev_p 4 (c' := (4, [some (.ref a0), some (.int x1), some (.int 0), some (.int 0)], [])) rfl ?_
  exact zf69_4_ok hK h0 hF
-- PaperParcels$Styles.given(II)I
abbrev zM68 : ev_M := (am_in nd_i68, am_fl nd_f6, am_ct nd_k6, am_sl nd_ml nd_s68, fun _ => none, some .int)
noncomputable def zf68_5 (a0 : Nat)  : Nat → Int32 → Int32 → Int32 → zS → Option (Int32 × zS)
  | 0, _, _, _, _ => none
  | n + 1, x2, x3, x4, s =>
    if 26 ≤ x4 then
      some ((-1), s)
    else
      if x3 = (-1) then
        some ((-1), s)
      else
        zbi (zf46 (zrf a0 0) x3 x2 s) fun v1 s2 =>
        if v1 = (-1) then
          zbi (zf66 a0 x3 s2) fun v3 s4 =>
          zf68_5 a0 n x2 v3 (x4 + 1) s4
        else
          zbi (zf69 (zrf a0 0) v1 s2) fun v5 s6 =>
          some (v5, s6)
theorem zf68_5_ok {K : cx_K} (hK : Kok K) {lg : Nat → Int64} {v : Int32} {s' : zS} {a0 : Nat} (h0 : zsh a0 = 6)   {n : Nat} : ∀ {x2 : Int32} {x3 : Int32} {x4 : Int32} {s : zS}, zf68_5 a0 n x2 x3 x4 s = some (v, s') → Ev K zM68 (5, [some (.ref a0), none, some (.int x2), some (.int x3), some (.int x4), none], [], zmk lg s) 0 (.inl (some (.int v))) (zmk lg s') 0 := by
  induction n with
  | zero => intro x2 x3 x4 s hF; rw [zf68_5] at hF; cases hF
  | succ n ih =>
    intro x2 x3 x4 s hF
    rw [zf68_5] at hF
    refine Ev_p 2 (c' := (9, [some (.ref a0), none, some (.int x2), some (.int x3), some (.int x4), none], [.int 26, .int x4])) rfl ?_
    refine Ez_if (M := zM68) (b := 26 ≤ x4) rfl rfl hF (fun _ hF => ?_) (fun _ hF => ?_)
    · refine Ev_p 1 (c' := (57, [some (.ref a0), none, some (.int x2), some (.int x3), some (.int x4), none], [.int (-1)])) rfl ?_
      exact Ez_ri (M := zM68) rfl rfl hF
    · refine Ev_p 2 (c' := (14, [some (.ref a0), none, some (.int x2), some (.int x3), some (.int x4), none], [.int (-1), .int x3])) rfl ?_
      refine Ez_if (M := zM68) (b := x3 = (-1)) rfl rfl hF (fun _ hF => ?_) (fun _ hF => ?_)
      · refine Ev_p 1 (c' := (57, [some (.ref a0), none, some (.int x2), some (.int x3), some (.int x4), none], [.int (-1)])) rfl ?_
        exact Ez_ri (M := zM68) rfl rfl hF
      · refine Ev_p 1 (c' := (18, [some (.ref a0), none, some (.int x2), some (.int x3), some (.int x4), none], [.ref a0])) rfl ?_
        refine Ez_gr (M := zM68) (ci := 6) (f := 0) (t := 5) rfl rfl h0 rfl ?_
        refine Ev_p 2 (c' := (23, [some (.ref a0), none, some (.int x2), some (.int x3), some (.int x4), none], [.int x2, .int x3, .ref (zrf a0 0)])) rfl ?_
        refine Ez_ci (M := zM68) (As := [.ref (zrf a0 0), .int x3, .int x2]) (st' := []) (am_site_v (y := 46) (k := 3) (ci := 5) rfl rfl (zrcv rfl (zty (ci := 6) (f := 0) (t := 5) h0 rfl) rfl)) (Nat.le_of_ble_eq_true rfl) (Nat.le_of_ble_eq_true rfl) rfl rfl (fun _ _ hF => zf46_ok hK (zty (ci := 6) (f := 0) (t := 5) h0 rfl) hF) hF (fun v1 s2 hF => ?_)
        refine Ev_p 3 (c' := (31, [some (.ref a0), none, some (.int x2), some (.int x3), some (.int x4), some (.int v1)], [.int (-1), .int v1])) rfl ?_
        refine Ez_if (M := zM68) (b := v1 = (-1)) rfl rfl hF (fun _ hF => ?_) (fun _ hF => ?_)
        · refine Ev_p 2 (c' := (46, [some (.ref a0), none, some (.int x2), some (.int x3), some (.int x4), some (.int v1)], [.int x3, .ref a0])) rfl ?_
          refine Ez_ci (M := zM68) (As := [.ref a0, .int x3]) (st' := []) (am_site_v (y := 66) (k := 2) (ci := 6) rfl rfl (zrcv rfl h0 rfl)) (Nat.le_of_ble_eq_true rfl) (Nat.le_of_ble_eq_true rfl) rfl rfl (fun _ _ hF => zf66_ok hK h0 hF) hF (fun v3 s4 hF => ?_)
          refine Ev_p 3 (c' := (5, [some (.ref a0), none, some (.int x2), some (.int v3), some (.int (x4 + 1)), some (.int v1)], [])) rfl ?_
          refine Ev_w (L' := [some (.ref a0), none, some (.int x2), some (.int v3), some (.int (x4 + 1)), none]) (zle_c (zle_c (zle_c (zle_c (zle_c (zle_n zle_0)))))) ?_
          exact ih hF
        · refine Ev_p 1 (c' := (35, [some (.ref a0), none, some (.int x2), some (.int x3), some (.int x4), some (.int v1)], [.ref a0])) rfl ?_
          refine Ez_gr (M := zM68) (ci := 6) (f := 0) (t := 5) rfl rfl h0 rfl ?_
          refine Ev_p 1 (c' := (40, [some (.ref a0), none, some (.int x2), some (.int x3), some (.int x4), some (.int v1)], [.int v1, .ref (zrf a0 0)])) rfl ?_
          refine Ez_ci (M := zM68) (As := [.ref (zrf a0 0), .int v1]) (st' := []) (am_site_v (y := 69) (k := 2) (ci := 5) rfl rfl (zrcv rfl (zty (ci := 6) (f := 0) (t := 5) h0 rfl) rfl)) (Nat.le_of_ble_eq_true rfl) (Nat.le_of_ble_eq_true rfl) rfl rfl (fun _ _ hF => zf69_ok hK (zty (ci := 6) (f := 0) (t := 5) h0 rfl) hF) hF (fun v5 s6 hF => ?_)
          refine Ev_p 0 (c' := (43, [some (.ref a0), none, some (.int x2), some (.int x3), some (.int x4), some (.int v1)], [.int v5])) rfl ?_
          exact Ez_ri (M := zM68) rfl rfl hF
noncomputable def zf68 (a0 : Nat) (x1 : Int32) (x2 : Int32) (s : zS) : Option (Int32 × zS) :=
  zf68_5 a0 zfz x2 x1 0 s
theorem zf68_ok {K : cx_K} (hK : Kok K) {lg : Nat → Int64} {v : Int32} {s' : zS} {a0 : Nat} (h0 : zsh a0 = 6) {x1 : Int32} {x2 : Int32} {s : zS} (hF : zf68 a0 x1 x2 s = some (v, s')) : Ct K 68 [.ref a0, .int x1, .int x2] (zmk lg s) (.inl (some (.int v))) (zmk lg s') 0 := by
  unfold zf68 at hF
  refine Ct_of hK nd_ok68 (mL := 6) (rt := some .int) rfl rfl (Nat.le_of_ble_eq_true rfl) zlen_le ?_
  refine Ev_p 4 (c' := (5, [some (.ref a0), some (.int x1), some (.int x2), some (.int x1), some (.int 0), none], [])) rfl ?_
  refine Ev_w (L' := [some (.ref a0), none, some (.int x2), some (.int x1), some (.int 0), none]) (zle_c (zle_n (zle_c (zle_c (zle_c (zle_c zle_0)))))) ?_
  exact zf68_5_ok hK h0 hF
-- PaperParcels$Styles.settle()V
abbrev zM67 : ev_M := (am_in nd_i67, am_fl nd_f6, am_ct nd_k6, am_sl nd_ml nd_s67, fun _ => none, none)
noncomputable def zf67_2 (a0 : Nat)  : Nat → Int32 → zS → Option (zS)
  | 0, _, _ => none
  | n + 1, x1, s =>
    if 26 ≤ x1 then
      some s
    else
      zal s (zrf a0 2) x1 fun v1 =>
      zbi (zf68 a0 v1 98 s) fun v2 s3 =>
      zas s3 (zrf a0 3) x1 v2 fun s4 =>
      zal s4 (zrf a0 2) x1 fun v5 =>
      zbi (zf68 a0 v5 122 s4) fun v6 s7 =>
      zas s7 (zrf a0 4) x1 v6 fun s8 =>
      zal s8 (zrf a0 2) x1 fun v9 =>
      zbi (zf68 a0 v9 107 s8) fun v10 s11 =>
      zas s11 (zrf a0 5) x1 v10 fun s12 =>
      zf67_2 a0 n (x1 + 1) s12
theorem zf67_2_ok {K : cx_K} (hK : Kok K) {lg : Nat → Int64} {s' : zS} {a0 : Nat} (h0 : zsh a0 = 6)   {n : Nat} : ∀ {x1 : Int32} {s : zS}, zf67_2 a0 n x1 s = some s' → Ev K zM67 (2, [some (.ref a0), some (.int x1)], [], zmk lg s) 0 (.inl none) (zmk lg s') 0 := by
  induction n with
  | zero => intro x1 s hF; rw [zf67_2] at hF; cases hF
  | succ n ih =>
    intro x1 s hF
    rw [zf67_2] at hF
    refine Ev_p 2 (c' := (5, [some (.ref a0), some (.int x1)], [.int 26, .int x1])) rfl ?_
    refine Ez_if (M := zM67) (b := 26 ≤ x1) rfl rfl hF (fun _ hF => ?_) (fun _ hF => ?_)
    · refine Ev_p 0 (c' := (68, [some (.ref a0), some (.int x1)], [])) rfl ?_
      exact Ez_rv (M := zM67) rfl rfl hF
    · refine Ev_p 1 (c' := (9, [some (.ref a0), some (.int x1)], [.ref a0])) rfl ?_
      refine Ez_gr (M := zM67) (ci := 6) (f := 3) (t := 100) rfl rfl h0 rfl ?_
      refine Ev_p 3 (c' := (15, [some (.ref a0), some (.int x1)], [.ref a0, .ref a0, .int x1, .ref (zrf a0 3)])) rfl ?_
      refine Ez_gr (M := zM67) (ci := 6) (f := 2) (t := 100) rfl rfl h0 rfl ?_
      refine Ev_p 1 (c' := (19, [some (.ref a0), some (.int x1)], [.int x1, .ref (zrf a0 2), .ref a0, .int x1, .ref (zrf a0 3)])) rfl ?_
      refine Ez_al (M := zM67) rfl (zty (ci := 6) (f := 2) (t := 100) h0 rfl) hF (fun v1 hF => ?_)
      refine Ev_p 1 (c' := (22, [some (.ref a0), some (.int x1)], [.int 98, .int v1, .ref a0, .int x1, .ref (zrf a0 3)])) rfl ?_
      refine Ez_ci (M := zM67) (As := [.ref a0, .int v1, .int 98]) (st' := [.int x1, .ref (zrf a0 3)]) (am_site_v (y := 68) (k := 3) (ci := 6) rfl rfl (zrcv rfl h0 rfl)) (Nat.le_of_ble_eq_true rfl) (Nat.le_of_ble_eq_true rfl) rfl rfl (fun _ _ hF => zf68_ok hK h0 hF) hF (fun v2 s3 hF => ?_)
      refine Ev_p 0 (c' := (25, [some (.ref a0), some (.int x1)], [.int v2, .int x1, .ref (zrf a0 3)])) rfl ?_
      refine Ez_as (M := zM67) rfl (zty (ci := 6) (f := 3) (t := 100) h0 rfl) hF (fun s4 hF => ?_)
      refine Ev_p 1 (c' := (27, [some (.ref a0), some (.int x1)], [.ref a0])) rfl ?_
      refine Ez_gr (M := zM67) (ci := 6) (f := 4) (t := 100) rfl rfl h0 rfl ?_
      refine Ev_p 3 (c' := (33, [some (.ref a0), some (.int x1)], [.ref a0, .ref a0, .int x1, .ref (zrf a0 4)])) rfl ?_
      refine Ez_gr (M := zM67) (ci := 6) (f := 2) (t := 100) rfl rfl h0 rfl ?_
      refine Ev_p 1 (c' := (37, [some (.ref a0), some (.int x1)], [.int x1, .ref (zrf a0 2), .ref a0, .int x1, .ref (zrf a0 4)])) rfl ?_
      refine Ez_al (M := zM67) rfl (zty (ci := 6) (f := 2) (t := 100) h0 rfl) hF (fun v5 hF => ?_)
      refine Ev_p 1 (c' := (40, [some (.ref a0), some (.int x1)], [.int 122, .int v5, .ref a0, .int x1, .ref (zrf a0 4)])) rfl ?_
      refine Ez_ci (M := zM67) (As := [.ref a0, .int v5, .int 122]) (st' := [.int x1, .ref (zrf a0 4)]) (am_site_v (y := 68) (k := 3) (ci := 6) rfl rfl (zrcv rfl h0 rfl)) (Nat.le_of_ble_eq_true rfl) (Nat.le_of_ble_eq_true rfl) rfl rfl (fun _ _ hF => zf68_ok hK h0 hF) hF (fun v6 s7 hF => ?_)
      refine Ev_p 0 (c' := (43, [some (.ref a0), some (.int x1)], [.int v6, .int x1, .ref (zrf a0 4)])) rfl ?_
      refine Ez_as (M := zM67) rfl (zty (ci := 6) (f := 4) (t := 100) h0 rfl) hF (fun s8 hF => ?_)
      refine Ev_p 1 (c' := (45, [some (.ref a0), some (.int x1)], [.ref a0])) rfl ?_
      refine Ez_gr (M := zM67) (ci := 6) (f := 5) (t := 100) rfl rfl h0 rfl ?_
      refine Ev_p 3 (c' := (51, [some (.ref a0), some (.int x1)], [.ref a0, .ref a0, .int x1, .ref (zrf a0 5)])) rfl ?_
      refine Ez_gr (M := zM67) (ci := 6) (f := 2) (t := 100) rfl rfl h0 rfl ?_
      refine Ev_p 1 (c' := (55, [some (.ref a0), some (.int x1)], [.int x1, .ref (zrf a0 2), .ref a0, .int x1, .ref (zrf a0 5)])) rfl ?_
      refine Ez_al (M := zM67) rfl (zty (ci := 6) (f := 2) (t := 100) h0 rfl) hF (fun v9 hF => ?_)
      refine Ev_p 1 (c' := (58, [some (.ref a0), some (.int x1)], [.int 107, .int v9, .ref a0, .int x1, .ref (zrf a0 5)])) rfl ?_
      refine Ez_ci (M := zM67) (As := [.ref a0, .int v9, .int 107]) (st' := [.int x1, .ref (zrf a0 5)]) (am_site_v (y := 68) (k := 3) (ci := 6) rfl rfl (zrcv rfl h0 rfl)) (Nat.le_of_ble_eq_true rfl) (Nat.le_of_ble_eq_true rfl) rfl rfl (fun _ _ hF => zf68_ok hK h0 hF) hF (fun v10 s11 hF => ?_)
      refine Ev_p 0 (c' := (61, [some (.ref a0), some (.int x1)], [.int v10, .int x1, .ref (zrf a0 5)])) rfl ?_
      refine Ez_as (M := zM67) rfl (zty (ci := 6) (f := 5) (t := 100) h0 rfl) hF (fun s12 hF => ?_)
      refine Ev_p 2 (c' := (2, [some (.ref a0), some (.int (x1 + 1))], [])) rfl ?_
      exact ih hF
noncomputable def zf67 (a0 : Nat) (s : zS) : Option (zS) :=
  zf67_2 a0 zfz 0 s
theorem zf67_ok {K : cx_K} (hK : Kok K) {lg : Nat → Int64} {s' : zS} {a0 : Nat} (h0 : zsh a0 = 6)  {s : zS} (hF : zf67 a0 s = some s') : Ct K 67 [.ref a0] (zmk lg s) (.inl none) (zmk lg s') 0 := by
  unfold zf67 at hF
  refine Ct_of hK nd_ok67 (mL := 2) (rt := none) rfl rfl (Nat.le_of_ble_eq_true rfl) zlen_le ?_
  refine Ev_p 2 (c' := (2, [some (.ref a0), some (.int 0)], [])) rfl ?_
  exact zf67_2_ok hK h0 hF
-- PaperParcels$Paper.clear()V
abbrev zM71 : ev_M := (am_in nd_i71, am_fl nd_f2, am_ct nd_k2, am_sl nd_ml nd_s71, fun _ => none, none)
noncomputable def zf71 (a0 : Nat) (s : zS) : Option (zS) :=
  zpf s a0 6 0 fun s1 =>
  zbv (zf15 (zrf a0 5) s1) fun s3 =>
  some s3
theorem zf71_ok {K : cx_K} (hK : Kok K) {lg : Nat → Int64} {s' : zS} {a0 : Nat} (h0 : zsh a0 = 2)  {s : zS} (hF : zf71 a0 s = some s') : Ct K 71 [.ref a0] (zmk lg s) (.inl none) (zmk lg s') 0 := by
  unfold zf71 at hF
  refine Ct_of hK nd_ok71 (mL := 1) (rt := none) rfl rfl (Nat.le_of_ble_eq_true rfl) zlen_le ?_
  refine Ev_p 2 (c' := (2, [some (.ref a0)], [.int 0, .ref a0])) rfl ?_
  refine Ez_pf (M := zM71) (ci := 2) (f := 6) rfl rfl h0 rfl hF (fun s1 hF => ?_)
  refine Ev_p 1 (c' := (6, [some (.ref a0)], [.ref a0])) rfl ?_
  refine Ez_gr (M := zM71) (ci := 2) (f := 5) (t := 1) rfl rfl h0 rfl ?_
  refine Ev_p 0 (c' := (9, [some (.ref a0)], [.ref (zrf a0 5)])) rfl ?_
  refine Ez_cv (M := zM71) (As := [.ref (zrf a0 5)]) (st' := []) (am_site_v (y := 15) (k := 1) (ci := 1) rfl rfl (zrcv rfl (zty (ci := 2) (f := 5) (t := 1) h0 rfl) rfl)) (Nat.le_of_ble_eq_true rfl) (Nat.le_of_ble_eq_true rfl) rfl rfl (fun _ hF => zf15_ok hK (zty (ci := 2) (f := 5) (t := 1) h0 rfl) hF) hF (fun s3 hF => ?_)
  refine Ev_p 0 (c' := (12, [some (.ref a0)], [])) rfl ?_
  exact Ez_rv (M := zM71) rfl rfl hF
-- PaperParcels.numberOfLook(II)I
abbrev zM74 : ev_M := (am_in nd_i74, am_fl nd_f0, am_ct nd_k0, am_sl nd_ml nd_s74, fun _ => none, some .int)
noncomputable def zf74 (x0 : Int32) (x1 : Int32) (s : zS) : Option (Int32 × zS) :=
  if ¬ x1 = 0 then
    if ¬ x1 = 1 then
      some ((x0 - x0 / 10 * 10), s)
    else
      some (((x0 / 10) - (x0 / 10) / 100 * 100), s)
  else
    some ((x0 / 1000), s)
theorem zf74_ok {K : cx_K} (hK : Kok K) {lg : Nat → Int64} {v : Int32} {s' : zS}   {x0 : Int32} {x1 : Int32} {s : zS} (hF : zf74 x0 x1 s = some (v, s')) : Ct K 74 [.int x0, .int x1] (zmk lg s) (.inl (some (.int v))) (zmk lg s') 0 := by
  unfold zf74 at hF
  refine Ct_of hK nd_ok74 (mL := 2) (rt := some .int) rfl rfl (Nat.le_of_ble_eq_true rfl) zlen_le ?_
  refine Ev_p 1 (c' := (1, [some (.int x0), some (.int x1)], [.int x1])) rfl ?_
  refine Ez_if (M := zM74) (b := ¬ x1 = 0) rfl rfl hF (fun _ hF => ?_) (fun _ hF => ?_)
  · refine Ev_p 2 (c' := (12, [some (.int x0), some (.int x1)], [.int 1, .int x1])) rfl ?_
    refine Ez_if (M := zM74) (b := ¬ x1 = 1) rfl rfl hF (fun _ hF => ?_) (fun _ hF => ?_)
    · refine Ev_p 3 (c' := (29, [some (.int x0), some (.int x1)], [.int (x0 - x0 / 10 * 10)])) rfl ?_
      exact Ez_ri (M := zM74) rfl rfl hF
    · refine Ev_p 6 (c' := (29, [some (.int x0), some (.int x1)], [.int ((x0 / 10) - (x0 / 10) / 100 * 100)])) rfl ?_
      exact Ez_ri (M := zM74) rfl rfl hF
  · refine Ev_p 3 (c' := (9, [some (.int x0), some (.int x1)], [.int (x0 / 1000)])) rfl ?_
    exact Ez_ri (M := zM74) rfl rfl hF
-- PaperParcels$Styles.lookOf(II)I
abbrev zM73 : ev_M := (am_in nd_i73, am_fl nd_f6, am_ct nd_k6, am_sl nd_ml nd_s73, fun _ => none, some .int)
noncomputable def zf73_94 (a0 : Nat)  (x4 : Int32) (x5 : Int32) (t0 : Int32) (s : zS) : Option (Int32 × zS) :=
  some ((((1000 * x4) + (10 * x5)) + t0), s)
theorem zf73_94_ok {K : cx_K} (hK : Kok K) {lg : Nat → Int64} {v : Int32} {s' : zS} {a0 : Nat} (h0 : zsh a0 = 6)   {x4 : Int32} {x5 : Int32} {t0 : Int32}  {s : zS} (hF : zf73_94 a0 x4 x5 t0 s = some (v, s')) : Ev K zM73 (94, [some (.ref a0), none, none, none, some (.int x4), some (.int x5), none], [.int t0], zmk lg s) 0 (.inl (some (.int v))) (zmk lg s') 0 := by
  unfold zf73_94 at hF
  refine Ev_p 10 (c' := (111, [some (.ref a0), none, none, none, some (.int x4), some (.int x5), some (.int t0)], [.int (((1000 * x4) + (10 * x5)) + t0)])) rfl ?_
  exact Ez_ri (M := zM73) rfl rfl hF
noncomputable def zf73_68 (a0 : Nat)  (x2 : Int32) (x3 : Int32) (x4 : Int32) (t0 : Int32) (s : zS) : Option (Int32 × zS) :=
  zal s (zrf a0 5) x3 fun v1 =>
  if v1 = (-1) then
    zbi (zf74 x2 2 s) fun v2 s3 =>
    zf73_94 a0 x4 t0 v2 s3
  else
    zal s (zrf a0 5) x3 fun v4 =>
    zf73_94 a0 x4 t0 v4 s
theorem zf73_68_ok {K : cx_K} (hK : Kok K) {lg : Nat → Int64} {v : Int32} {s' : zS} {a0 : Nat} (h0 : zsh a0 = 6)   {x2 : Int32} {x3 : Int32} {x4 : Int32} {t0 : Int32}  {s : zS} (hF : zf73_68 a0 x2 x3 x4 t0 s = some (v, s')) : Ev K zM73 (68, [some (.ref a0), none, some (.int x2), some (.int x3), some (.int x4), none, none], [.int t0], zmk lg s) 0 (.inl (some (.int v))) (zmk lg s') 0 := by
  unfold zf73_68 at hF
  refine Ev_p 2 (c' := (71, [some (.ref a0), none, some (.int x2), some (.int x3), some (.int x4), some (.int t0), none], [.ref a0])) rfl ?_
  refine Ez_gr (M := zM73) (ci := 6) (f := 5) (t := 100) rfl rfl h0 rfl ?_
  refine Ev_p 1 (c' := (75, [some (.ref a0), none, some (.int x2), some (.int x3), some (.int x4), some (.int t0), none], [.int x3, .ref (zrf a0 5)])) rfl ?_
  refine Ez_al (M := zM73) rfl (zty (ci := 6) (f := 5) (t := 100) h0 rfl) hF (fun v1 hF => ?_)
  refine Ev_p 1 (c' := (77, [some (.ref a0), none, some (.int x2), some (.int x3), some (.int x4), some (.int t0), none], [.int (-1), .int v1])) rfl ?_
  refine Ez_if (M := zM73) (b := v1 = (-1)) rfl rfl hF (fun _ hF => ?_) (fun _ hF => ?_)
  · refine Ev_p 2 (c' := (91, [some (.ref a0), none, some (.int x2), some (.int x3), some (.int x4), some (.int t0), none], [.int 2, .int x2])) rfl ?_
    refine Ez_ci (M := zM73) (As := [.int x2, .int 2]) (st' := []) (zsite_3 (y := 74) (k := 2) (ci := 0) rfl rfl) (Nat.le_of_ble_eq_true rfl) (Nat.le_of_ble_eq_true rfl) rfl rfl (fun _ _ hF => zf74_ok hK  hF) hF (fun v2 s3 hF => ?_)
    refine Ev_p 0 (c' := (94, [some (.ref a0), none, some (.int x2), some (.int x3), some (.int x4), some (.int t0), none], [.int v2])) rfl ?_
    refine Ev_w (L' := [some (.ref a0), none, none, none, some (.int x4), some (.int t0), none]) (zle_c (zle_c (zle_n (zle_n (zle_c (zle_c (zle_c zle_0))))))) ?_
    exact zf73_94_ok hK h0 hF
  · refine Ev_p 1 (c' := (81, [some (.ref a0), none, some (.int x2), some (.int x3), some (.int x4), some (.int t0), none], [.ref a0])) rfl ?_
    refine Ez_gr (M := zM73) (ci := 6) (f := 5) (t := 100) rfl rfl h0 rfl ?_
    refine Ev_p 1 (c' := (85, [some (.ref a0), none, some (.int x2), some (.int x3), some (.int x4), some (.int t0), none], [.int x3, .ref (zrf a0 5)])) rfl ?_
    refine Ez_al (M := zM73) rfl (zty (ci := 6) (f := 5) (t := 100) h0 rfl) hF (fun v4 hF => ?_)
    refine Ev_p 1 (c' := (94, [some (.ref a0), none, some (.int x2), some (.int x3), some (.int x4), some (.int t0), none], [.int v4])) rfl ?_
    refine Ev_w (L' := [some (.ref a0), none, none, none, some (.int x4), some (.int t0), none]) (zle_c (zle_c (zle_n (zle_n (zle_c (zle_c (zle_c zle_0))))))) ?_
    exact zf73_94_ok hK h0 hF
noncomputable def zf73_42 (a0 : Nat)  (x2 : Int32) (x3 : Int32) (t0 : Int32) (s : zS) : Option (Int32 × zS) :=
  zal s (zrf a0 4) x3 fun v1 =>
  if v1 = (-1) then
    zbi (zf74 x2 1 s) fun v2 s3 =>
    zf73_68 a0 x2 x3 t0 v2 s3
  else
    zal s (zrf a0 4) x3 fun v4 =>
    zf73_68 a0 x2 x3 t0 v4 s
theorem zf73_42_ok {K : cx_K} (hK : Kok K) {lg : Nat → Int64} {v : Int32} {s' : zS} {a0 : Nat} (h0 : zsh a0 = 6)   {x2 : Int32} {x3 : Int32} {t0 : Int32}  {s : zS} (hF : zf73_42 a0 x2 x3 t0 s = some (v, s')) : Ev K zM73 (42, [some (.ref a0), none, some (.int x2), some (.int x3), none, none, none], [.int t0], zmk lg s) 0 (.inl (some (.int v))) (zmk lg s') 0 := by
  unfold zf73_42 at hF
  refine Ev_p 2 (c' := (45, [some (.ref a0), none, some (.int x2), some (.int x3), some (.int t0), none, none], [.ref a0])) rfl ?_
  refine Ez_gr (M := zM73) (ci := 6) (f := 4) (t := 100) rfl rfl h0 rfl ?_
  refine Ev_p 1 (c' := (49, [some (.ref a0), none, some (.int x2), some (.int x3), some (.int t0), none, none], [.int x3, .ref (zrf a0 4)])) rfl ?_
  refine Ez_al (M := zM73) rfl (zty (ci := 6) (f := 4) (t := 100) h0 rfl) hF (fun v1 hF => ?_)
  refine Ev_p 1 (c' := (51, [some (.ref a0), none, some (.int x2), some (.int x3), some (.int t0), none, none], [.int (-1), .int v1])) rfl ?_
  refine Ez_if (M := zM73) (b := v1 = (-1)) rfl rfl hF (fun _ hF => ?_) (fun _ hF => ?_)
  · refine Ev_p 2 (c' := (65, [some (.ref a0), none, some (.int x2), some (.int x3), some (.int t0), none, none], [.int 1, .int x2])) rfl ?_
    refine Ez_ci (M := zM73) (As := [.int x2, .int 1]) (st' := []) (zsite_3 (y := 74) (k := 2) (ci := 0) rfl rfl) (Nat.le_of_ble_eq_true rfl) (Nat.le_of_ble_eq_true rfl) rfl rfl (fun _ _ hF => zf74_ok hK  hF) hF (fun v2 s3 hF => ?_)
    refine Ev_p 0 (c' := (68, [some (.ref a0), none, some (.int x2), some (.int x3), some (.int t0), none, none], [.int v2])) rfl ?_
    exact zf73_68_ok hK h0 hF
  · refine Ev_p 1 (c' := (55, [some (.ref a0), none, some (.int x2), some (.int x3), some (.int t0), none, none], [.ref a0])) rfl ?_
    refine Ez_gr (M := zM73) (ci := 6) (f := 4) (t := 100) rfl rfl h0 rfl ?_
    refine Ev_p 1 (c' := (59, [some (.ref a0), none, some (.int x2), some (.int x3), some (.int t0), none, none], [.int x3, .ref (zrf a0 4)])) rfl ?_
    refine Ez_al (M := zM73) rfl (zty (ci := 6) (f := 4) (t := 100) h0 rfl) hF (fun v4 hF => ?_)
    refine Ev_p 1 (c' := (68, [some (.ref a0), none, some (.int x2), some (.int x3), some (.int t0), none, none], [.int v4])) rfl ?_
    exact zf73_68_ok hK h0 hF
noncomputable def zf73 (a0 : Nat) (x1 : Int32) (x2 : Int32) (s : zS) : Option (Int32 × zS) :=
  zbi (zf63 (zrf a0 1) x1 121 s) fun v1 s2 =>
  if ¬ v1 = (-1) then
    zal s2 (zrf a0 3) v1 fun v3 =>
    if v3 = (-1) then
      zbi (zf74 x2 0 s2) fun v4 s5 =>
      zf73_42 a0 x2 v1 v4 s5
    else
      zal s2 (zrf a0 3) v1 fun v6 =>
      zf73_42 a0 x2 v1 v6 s2
  else
    some (x2, s2)
theorem zf73_ok {K : cx_K} (hK : Kok K) {lg : Nat → Int64} {v : Int32} {s' : zS} {a0 : Nat} (h0 : zsh a0 = 6) {x1 : Int32} {x2 : Int32} {s : zS} (hF : zf73 a0 x1 x2 s = some (v, s')) : Ct K 73 [.ref a0, .int x1, .int x2] (zmk lg s) (.inl (some (.int v))) (zmk lg s') 0 := by
  unfold zf73 at hF
  refine Ct_of hK nd_ok73 (mL := 7) (rt := some .int) rfl rfl (Nat.le_of_ble_eq_true rfl) zlen_le ?_
  refine Ev_p 1 (c' := (1, [some (.ref a0), some (.int x1), some (.int x2), none, none, none, none], [.ref a0])) rfl ?_
  refine Ez_gr (M := zM73) (ci := 6) (f := 1) (t := 5) rfl rfl h0 rfl ?_
  refine Ev_p 2 (c' := (7, [some (.ref a0), some (.int x1), some (.int x2), none, none, none, none], [.int 121, .int x1, .ref (zrf a0 1)])) rfl ?_
  refine Ez_ci (M := zM73) (As := [.ref (zrf a0 1), .int x1, .int 121]) (st' := []) (zsite_0 (y := 63) (k := 3) (ci := 6) rfl rfl) (Nat.le_of_ble_eq_true rfl) (Nat.le_of_ble_eq_true rfl) rfl rfl (fun _ _ hF => zf63_ok hK (zty (ci := 6) (f := 1) (t := 5) h0 rfl) hF) hF (fun v1 s2 hF => ?_)
  refine Ev_p 3 (c' := (13, [some (.ref a0), some (.int x1), some (.int x2), some (.int v1), none, none, none], [.int (-1), .int v1])) rfl ?_
  refine Ez_if (M := zM73) (b := ¬ v1 = (-1)) rfl rfl hF (fun _ hF => ?_) (fun _ hF => ?_)
  · refine Ev_p 1 (c' := (19, [some (.ref a0), some (.int x1), some (.int x2), some (.int v1), none, none, none], [.ref a0])) rfl ?_
    refine Ez_gr (M := zM73) (ci := 6) (f := 3) (t := 100) rfl rfl h0 rfl ?_
    refine Ev_p 1 (c' := (23, [some (.ref a0), some (.int x1), some (.int x2), some (.int v1), none, none, none], [.int v1, .ref (zrf a0 3)])) rfl ?_
    refine Ez_al (M := zM73) rfl (zty (ci := 6) (f := 3) (t := 100) h0 rfl) hF (fun v3 hF => ?_)
    refine Ev_p 1 (c' := (25, [some (.ref a0), some (.int x1), some (.int x2), some (.int v1), none, none, none], [.int (-1), .int v3])) rfl ?_
    refine Ez_if (M := zM73) (b := v3 = (-1)) rfl rfl hF (fun _ hF => ?_) (fun _ hF => ?_)
    · refine Ev_p 2 (c' := (39, [some (.ref a0), some (.int x1), some (.int x2), some (.int v1), none, none, none], [.int 0, .int x2])) rfl ?_
      refine Ez_ci (M := zM73) (As := [.int x2, .int 0]) (st' := []) (zsite_3 (y := 74) (k := 2) (ci := 0) rfl rfl) (Nat.le_of_ble_eq_true rfl) (Nat.le_of_ble_eq_true rfl) rfl rfl (fun _ _ hF => zf74_ok hK  hF) hF (fun v4 s5 hF => ?_)
      refine Ev_p 0 (c' := (42, [some (.ref a0), some (.int x1), some (.int x2), some (.int v1), none, none, none], [.int v4])) rfl ?_
      refine Ev_w (L' := [some (.ref a0), none, some (.int x2), some (.int v1), none, none, none]) (zle_c (zle_n (zle_c (zle_c (zle_c (zle_c (zle_c zle_0))))))) ?_
      exact zf73_42_ok hK h0 hF
    · refine Ev_p 1 (c' := (29, [some (.ref a0), some (.int x1), some (.int x2), some (.int v1), none, none, none], [.ref a0])) rfl ?_
      refine Ez_gr (M := zM73) (ci := 6) (f := 3) (t := 100) rfl rfl h0 rfl ?_
      refine Ev_p 1 (c' := (33, [some (.ref a0), some (.int x1), some (.int x2), some (.int v1), none, none, none], [.int v1, .ref (zrf a0 3)])) rfl ?_
      refine Ez_al (M := zM73) rfl (zty (ci := 6) (f := 3) (t := 100) h0 rfl) hF (fun v6 hF => ?_)
      refine Ev_p 1 (c' := (42, [some (.ref a0), some (.int x1), some (.int x2), some (.int v1), none, none, none], [.int v6])) rfl ?_
      refine Ev_w (L' := [some (.ref a0), none, some (.int x2), some (.int v1), none, none, none]) (zle_c (zle_n (zle_c (zle_c (zle_c (zle_c (zle_c zle_0))))))) ?_
      exact zf73_42_ok hK h0 hF
  · refine Ev_p 1 (c' := (17, [some (.ref a0), some (.int x1), some (.int x2), some (.int v1), none, none, none], [.int x2])) rfl ?_
    exact Ez_ri (M := zM73) rfl rfl hF
-- PaperParcels$Paper.add(III)Z
abbrev zM75 : ev_M := (am_in nd_i75, am_fl nd_f2, am_ct nd_k2, am_sl nd_ml nd_s75, fun _ => none, some .boolean)
noncomputable def zf75 (a0 : Nat) (x1 : Int32) (x2 : Int32) (x3 : Int32) (s : zS) : Option (Int32 × zS) :=
  zgf s a0 6 fun v1 =>
  if v1 < (nI (zca (zrf a0 0))) then
    zgf s a0 6 fun v2 =>
    zas s (zrf a0 0) v2 x1 fun s3 =>
    zgf s3 a0 6 fun v4 =>
    zas s3 (zrf a0 1) v4 x2 fun s5 =>
    zgf s5 a0 6 fun v6 =>
    zas s5 (zrf a0 2) v6 x3 fun s7 =>
    zgf s7 a0 6 fun v8 =>
    zgf s7 (zrf a0 5) 1 fun v9 =>
    zas s7 (zrf a0 3) v8 v9 fun s10 =>
    zgf s10 a0 6 fun v11 =>
    zas s10 (zrf a0 4) v11 0 fun s12 =>
    zgf s12 a0 6 fun v13 =>
    zpf s12 a0 6 (v13 + 1) fun s14 =>
    zrb 1 s14
  else
    zrb 0 s
theorem zf75_ok {K : cx_K} (hK : Kok K) {lg : Nat → Int64} {v : Int32} {s' : zS} {a0 : Nat} (h0 : zsh a0 = 2) {x1 : Int32} {x2 : Int32} {x3 : Int32} {s : zS} (hF : zf75 a0 x1 x2 x3 s = some (v, s')) : Ct K 75 [.ref a0, .int x1, .int x2, .int x3] (zmk lg s) (.inl (some (.int v))) (zmk lg s') 0 := by
  unfold zf75 at hF
  refine Ct_of hK nd_ok75 (mL := 4) (rt := some .boolean) rfl rfl (Nat.le_of_ble_eq_true rfl) zlen_le ?_
  refine Ev_p 1 (c' := (1, [some (.ref a0), some (.int x1), some (.int x2), some (.int x3)], [.ref a0])) rfl ?_
  refine Ez_gf (M := zM75) (ci := 2) (f := 6) rfl rfl h0 rfl hF (fun v1 hF => ?_)
  refine Ev_p 1 (c' := (5, [some (.ref a0), some (.int x1), some (.int x2), some (.int x3)], [.ref a0, .int v1])) rfl ?_
  refine Ez_gr (M := zM75) (ci := 2) (f := 0) (t := 100) rfl rfl h0 rfl ?_
  refine Ev_p 0 (c' := (8, [some (.ref a0), some (.int x1), some (.int x2), some (.int x3)], [.ref (zrf a0 0), .int v1])) rfl ?_
  refine Ez_len (M := zM75) rfl (zty (ci := 2) (f := 0) (t := 100) h0 rfl) ?_
  refine Ev_p 0 (c' := (9, [some (.ref a0), some (.int x1), some (.int x2), some (.int x3)], [.int (nI (zca (zrf a0 0))), .int v1])) rfl ?_
  refine Ez_if (M := zM75) (b := v1 < (nI (zca (zrf a0 0)))) rfl rfl hF (fun _ hF => ?_) (fun _ hF => ?_)
  · refine Ev_p 1 (c' := (15, [some (.ref a0), some (.int x1), some (.int x2), some (.int x3)], [.ref a0])) rfl ?_
    refine Ez_gr (M := zM75) (ci := 2) (f := 0) (t := 100) rfl rfl h0 rfl ?_
    refine Ev_p 1 (c' := (19, [some (.ref a0), some (.int x1), some (.int x2), some (.int x3)], [.ref a0, .ref (zrf a0 0)])) rfl ?_
    refine Ez_gf (M := zM75) (ci := 2) (f := 6) rfl rfl h0 rfl hF (fun v2 hF => ?_)
    refine Ev_p 1 (c' := (23, [some (.ref a0), some (.int x1), some (.int x2), some (.int x3)], [.int x1, .int v2, .ref (zrf a0 0)])) rfl ?_
    refine Ez_as (M := zM75) rfl (zty (ci := 2) (f := 0) (t := 100) h0 rfl) hF (fun s3 hF => ?_)
    refine Ev_p 1 (c' := (25, [some (.ref a0), some (.int x1), some (.int x2), some (.int x3)], [.ref a0])) rfl ?_
    refine Ez_gr (M := zM75) (ci := 2) (f := 1) (t := 100) rfl rfl h0 rfl ?_
    refine Ev_p 1 (c' := (29, [some (.ref a0), some (.int x1), some (.int x2), some (.int x3)], [.ref a0, .ref (zrf a0 1)])) rfl ?_
    refine Ez_gf (M := zM75) (ci := 2) (f := 6) rfl rfl h0 rfl hF (fun v4 hF => ?_)
    refine Ev_p 1 (c' := (33, [some (.ref a0), some (.int x1), some (.int x2), some (.int x3)], [.int x2, .int v4, .ref (zrf a0 1)])) rfl ?_
    refine Ez_as (M := zM75) rfl (zty (ci := 2) (f := 1) (t := 100) h0 rfl) hF (fun s5 hF => ?_)
    refine Ev_p 1 (c' := (35, [some (.ref a0), some (.int x1), some (.int x2), some (.int x3)], [.ref a0])) rfl ?_
    refine Ez_gr (M := zM75) (ci := 2) (f := 2) (t := 100) rfl rfl h0 rfl ?_
    refine Ev_p 1 (c' := (39, [some (.ref a0), some (.int x1), some (.int x2), some (.int x3)], [.ref a0, .ref (zrf a0 2)])) rfl ?_
    refine Ez_gf (M := zM75) (ci := 2) (f := 6) rfl rfl h0 rfl hF (fun v6 hF => ?_)
    refine Ev_p 1 (c' := (43, [some (.ref a0), some (.int x1), some (.int x2), some (.int x3)], [.int x3, .int v6, .ref (zrf a0 2)])) rfl ?_
    refine Ez_as (M := zM75) rfl (zty (ci := 2) (f := 2) (t := 100) h0 rfl) hF (fun s7 hF => ?_)
    refine Ev_p 1 (c' := (45, [some (.ref a0), some (.int x1), some (.int x2), some (.int x3)], [.ref a0])) rfl ?_
    refine Ez_gr (M := zM75) (ci := 2) (f := 3) (t := 100) rfl rfl h0 rfl ?_
    refine Ev_p 1 (c' := (49, [some (.ref a0), some (.int x1), some (.int x2), some (.int x3)], [.ref a0, .ref (zrf a0 3)])) rfl ?_
    refine Ez_gf (M := zM75) (ci := 2) (f := 6) rfl rfl h0 rfl hF (fun v8 hF => ?_)
    refine Ev_p 1 (c' := (53, [some (.ref a0), some (.int x1), some (.int x2), some (.int x3)], [.ref a0, .int v8, .ref (zrf a0 3)])) rfl ?_
    refine Ez_gr (M := zM75) (ci := 2) (f := 5) (t := 1) rfl rfl h0 rfl ?_
    refine Ev_p 0 (c' := (56, [some (.ref a0), some (.int x1), some (.int x2), some (.int x3)], [.ref (zrf a0 5), .int v8, .ref (zrf a0 3)])) rfl ?_
    refine Ez_gf (M := zM75) (ci := 1) (f := 1) rfl rfl (zty (ci := 2) (f := 5) (t := 1) h0 rfl) rfl hF (fun v9 hF => ?_)
    refine Ev_p 0 (c' := (59, [some (.ref a0), some (.int x1), some (.int x2), some (.int x3)], [.int v9, .int v8, .ref (zrf a0 3)])) rfl ?_
    refine Ez_as (M := zM75) rfl (zty (ci := 2) (f := 3) (t := 100) h0 rfl) hF (fun s10 hF => ?_)
    refine Ev_p 1 (c' := (61, [some (.ref a0), some (.int x1), some (.int x2), some (.int x3)], [.ref a0])) rfl ?_
    refine Ez_gr (M := zM75) (ci := 2) (f := 4) (t := 100) rfl rfl h0 rfl ?_
    refine Ev_p 1 (c' := (65, [some (.ref a0), some (.int x1), some (.int x2), some (.int x3)], [.ref a0, .ref (zrf a0 4)])) rfl ?_
    refine Ez_gf (M := zM75) (ci := 2) (f := 6) rfl rfl h0 rfl hF (fun v11 hF => ?_)
    refine Ev_p 1 (c' := (69, [some (.ref a0), some (.int x1), some (.int x2), some (.int x3)], [.int 0, .int v11, .ref (zrf a0 4)])) rfl ?_
    refine Ez_as (M := zM75) rfl (zty (ci := 2) (f := 4) (t := 100) h0 rfl) hF (fun s12 hF => ?_)
    refine Ev_p 2 (c' := (72, [some (.ref a0), some (.int x1), some (.int x2), some (.int x3)], [.ref a0, .ref a0])) rfl ?_
    refine Ez_gf (M := zM75) (ci := 2) (f := 6) rfl rfl h0 rfl hF (fun v13 hF => ?_)
    refine Ev_p 2 (c' := (77, [some (.ref a0), some (.int x1), some (.int x2), some (.int x3)], [.int (v13 + 1), .ref a0])) rfl ?_
    refine Ez_pf (M := zM75) (ci := 2) (f := 6) rfl rfl h0 rfl hF (fun s14 hF => ?_)
    refine Ev_p 1 (c' := (81, [some (.ref a0), some (.int x1), some (.int x2), some (.int x3)], [.int 1])) rfl ?_
    exact Ez_rb (M := zM75) rfl rfl hF
  · refine Ev_p 1 (c' := (13, [some (.ref a0), some (.int x1), some (.int x2), some (.int x3)], [.int 0])) rfl ?_
    exact Ez_rb (M := zM75) rfl rfl hF

/-! The methods as functions, and that the machine goes so (printed by wip/gen/fgen.py). -/
set_option maxRecDepth 100000
set_option linter.unusedVariables false
-- PaperParcelsModel.badAttribute(II)I
abbrev zM178 : ev_M := (am_in nd_i178, am_fl nd_f11, am_ct nd_k11, am_sl nd_ml nd_s178, fun _ => none, some .int)
noncomputable def zf178_14 (a0 : Nat)  : Nat → Int32 → Int32 → Int32 → zS → Option (Int32 × zS)
  | 0, _, _, _, _ => none
  | n + 1, x1, x2, x3, s =>
    zbi (zf165 a0 x1 x3 s) fun v1 s2 =>
    if ¬ v1 = 32 then
      some ((-1), s2)
    else
      zbi (zf179 a0 x1 (x3 + 4) s2) fun v3 s4 =>
      zbi (zf165 a0 x1 (x3 + 1) s4) fun v5 s6 =>
      zbi (zf180 a0 x1 x2 v5 (x3 + 4) v3 s6) fun v7 s8 =>
      if ¬ v7 = 0 then
        zf178_14 a0 n x1 x2 (v3 + 1) s8
      else
        some ((x3 + 1), s8)
theorem zf178_14_ok {K : cx_K} (hK : Kok K) {lg : Nat → Int64} {v : Int32} {s' : zS} {a0 : Nat} (h0 : zsh a0 = 11)   {n : Nat} : ∀ {x1 : Int32} {x2 : Int32} {x3 : Int32} {s : zS}, zf178_14 a0 n x1 x2 x3 s = some (v, s') → Ev K zM178 (14, [some (.ref a0), some (.int x1), some (.int x2), some (.int x3), none], [], zmk lg s) 0 (.inl (some (.int v))) (zmk lg s') 0 := by
  induction n with
  | zero => intro x1 x2 x3 s hF; rw [zf178_14] at hF; cases hF
  | succ n ih =>
    intro x1 x2 x3 s hF
    rw [zf178_14] at hF
    refine Ev_p 3 (c' := (17, [some (.ref a0), some (.int x1), some (.int x2), some (.int x3), none], [.int x3, .int x1, .ref a0])) rfl ?_
    refine Ez_ci (M := zM178) (As := [.ref a0, .int x1, .int x3]) (st' := []) (am_site_v (y := 165) (k := 3) (ci := 11) rfl rfl (zrcv rfl h0 rfl)) (Nat.le_of_ble_eq_true rfl) (Nat.le_of_ble_eq_true rfl) rfl rfl (fun _ _ hF => zf165_ok hK h0 hF) hF (fun v1 s2 hF => ?_)
    refine Ev_p 1 (c' := (22, [some (.ref a0), some (.int x1), some (.int x2), some (.int x3), none], [.int 32, .int v1])) rfl ?_
    refine Ez_if (M := zM178) (b := ¬ v1 = 32) rfl rfl hF (fun _ hF => ?_) (fun _ hF => ?_)
    · refine Ev_p 1 (c' := (70, [some (.ref a0), some (.int x1), some (.int x2), some (.int x3), none], [.int (-1)])) rfl ?_
      exact Ez_ri (M := zM178) rfl rfl hF
    · refine Ev_p 5 (c' := (30, [some (.ref a0), some (.int x1), some (.int x2), some (.int x3), none], [.int (x3 + 4), .int x1, .ref a0])) rfl ?_
      refine Ez_ci (M := zM178) (As := [.ref a0, .int x1, .int (x3 + 4)]) (st' := []) (am_site_v (y := 179) (k := 3) (ci := 11) rfl rfl (zrcv rfl h0 rfl)) (Nat.le_of_ble_eq_true rfl) (Nat.le_of_ble_eq_true rfl) rfl rfl (fun _ _ hF => zf179_ok hK h0 hF) hF (fun v3 s4 hF => ?_)
      refine Ev_p 9 (c' := (43, [some (.ref a0), some (.int x1), some (.int x2), some (.int x3), some (.int v3)], [.int (x3 + 1), .int x1, .ref a0, .int x2, .int x1, .ref a0])) rfl ?_
      refine Ez_ci (M := zM178) (As := [.ref a0, .int x1, .int (x3 + 1)]) (st' := [.int x2, .int x1, .ref a0]) (am_site_v (y := 165) (k := 3) (ci := 11) rfl rfl (zrcv rfl h0 rfl)) (Nat.le_of_ble_eq_true rfl) (Nat.le_of_ble_eq_true rfl) rfl rfl (fun _ _ hF => zf165_ok hK h0 hF) hF (fun v5 s6 hF => ?_)
      refine Ev_p 4 (c' := (51, [some (.ref a0), some (.int x1), some (.int x2), some (.int x3), some (.int v3)], [.int v3, .int (x3 + 4), .int v5, .int x2, .int x1, .ref a0])) rfl ?_
      refine Ez_ci (M := zM178) (As := [.ref a0, .int x1, .int x2, .int v5, .int (x3 + 4), .int v3]) (st' := []) (am_site_v (y := 180) (k := 6) (ci := 11) rfl rfl (zrcv rfl h0 rfl)) (Nat.le_of_ble_eq_true rfl) (Nat.le_of_ble_eq_true rfl) rfl rfl (fun _ _ hF => zf180_ok hK h0 hF) hF (fun v7 s8 hF => ?_)
      refine Ev_p 0 (c' := (54, [some (.ref a0), some (.int x1), some (.int x2), some (.int x3), some (.int v3)], [.int v7])) rfl ?_
      refine Ez_if (M := zM178) (b := ¬ v7 = 0) rfl rfl hF (fun _ hF => ?_) (fun _ hF => ?_)
      · refine Ev_p 5 (c' := (14, [some (.ref a0), some (.int x1), some (.int x2), some (.int (v3 + 1)), some (.int v3)], [])) rfl ?_
        refine Ev_w (L' := [some (.ref a0), some (.int x1), some (.int x2), some (.int (v3 + 1)), none]) (zle_c (zle_c (zle_c (zle_c (zle_n zle_0))))) ?_
        exact ih hF
      · refine Ev_p 3 (c' := (60, [some (.ref a0), some (.int x1), some (.int x2), some (.int x3), some (.int v3)], [.int (x3 + 1)])) rfl ?_
        exact Ez_ri (M := zM178) rfl rfl hF
noncomputable def zf178 (a0 : Nat) (x1 : Int32) (x2 : Int32) (s : zS) : Option (Int32 × zS) :=
  zal s (zrf a0 11) ((30 * x1) + x2) fun v1 =>
  zf178_14 a0 zfz x1 x2 (v1 + 2) s
theorem zf178_ok {K : cx_K} (hK : Kok K) {lg : Nat → Int64} {v : Int32} {s' : zS} {a0 : Nat} (h0 : zsh a0 = 11) {x1 : Int32} {x2 : Int32} {s : zS} (hF : zf178 a0 x1 x2 s = some (v, s')) : Ct K 178 [.ref a0, .int x1, .int x2] (zmk lg s) (.inl (some (.int v))) (zmk lg s') 0 := by
  unfold zf178 at hF
  refine Ct_of hK nd_ok178 (mL := 5) (rt := some .int) rfl rfl (Nat.le_of_ble_eq_true rfl) zlen_le ?_
  refine Ev_p 1 (c' := (1, [some (.ref a0), some (.int x1), some (.int x2), none, none], [.ref a0])) rfl ?_
  refine Ez_gr (M := zM178) (ci := 11) (f := 11) (t := 100) rfl rfl h0 rfl ?_
  refine Ev_p 5 (c' := (10, [some (.ref a0), some (.int x1), some (.int x2), none, none], [.int ((30 * x1) + x2), .ref (zrf a0 11)])) rfl ?_
  refine Ez_al (M := zM178) rfl (zty (ci := 11) (f := 11) (t := 100) h0 rfl) hF (fun v1 hF => ?_)
  refine Ev_p 3 (c' := (14, [some (.ref a0), some (.int x1), some (.int x2), some (.int (v1 + 2)), none], [])) rfl ?_
  exact zf178_14_ok hK h0 hF
-- PaperParcelsModel.valueAt(III)I
abbrev zM181 : ev_M := (am_in nd_i181, am_fl nd_f11, am_ct nd_k11, am_sl nd_ml nd_s181, fun _ => none, some .int)
noncomputable def zf181_52 (a0 : Nat) (k18 : Int32 → Int32 → Int32 → Int32 → zS → Option (Int32 × zS)) (x1 : Int32) (x3 : Int32) (x4 : Int32) (t0 : Int32) (s : zS) : Option (Int32 × zS) :=
  zbi (zf179 a0 x1 (x4 + 4) s) fun v1 s2 =>
  k18 x1 x3 (v1 + 1) t0 s2
theorem zf181_52_ok {K : cx_K} (hK : Kok K) {lg : Nat → Int64} {v : Int32} {s' : zS} {a0 : Nat} (h0 : zsh a0 = 11) {k18 : Int32 → Int32 → Int32 → Int32 → zS → Option (Int32 × zS)} (hk18 : ∀ x1 x3 x4 x5 s, k18 x1 x3 x4 x5 s = some (v, s') → Ev K zM181 (18, [some (.ref a0), some (.int x1), none, some (.int x3), some (.int x4), some (.int x5)], [], zmk lg s) 0 (.inl (some (.int v))) (zmk lg s') 0) {x1 : Int32} {x3 : Int32} {x4 : Int32} {t0 : Int32}  {s : zS} (hF : zf181_52 a0 k18 x1 x3 x4 t0 s = some (v, s')) : Ev K zM181 (52, [some (.ref a0), some (.int x1), none, some (.int x3), some (.int x4), none], [.int t0], zmk lg s) 0 (.inl (some (.int v))) (zmk lg s') 0 := by
  unfold zf181_52 at hF
  refine Ev_p 6 (c' := (60, [some (.ref a0), some (.int x1), none, some (.int x3), some (.int x4), some (.int t0)], [.int (x4 + 4), .int x1, .ref a0])) rfl ?_
  refine Ez_ci (M := zM181) (As := [.ref a0, .int x1, .int (x4 + 4)]) (st' := []) (am_site_v (y := 179) (k := 3) (ci := 11) rfl rfl (zrcv rfl h0 rfl)) (Nat.le_of_ble_eq_true rfl) (Nat.le_of_ble_eq_true rfl) rfl rfl (fun _ _ hF => zf179_ok hK h0 hF) hF (fun v1 s2 hF => ?_)
  refine Ev_p 4 (c' := (18, [some (.ref a0), some (.int x1), none, some (.int x3), some (.int (v1 + 1)), some (.int t0)], [])) rfl ?_
  exact hk18 _ _ _ _ _ hF
noncomputable def zf181_18 (a0 : Nat)  : Nat → Int32 → Int32 → Int32 → Int32 → zS → Option (Int32 × zS)
  | 0, _, _, _, _, _ => none
  | n + 1, x1, x3, x4, x5, s =>
    zbi (zf165 a0 x1 x4 s) fun v1 s2 =>
    if ¬ v1 = 32 then
      some (x5, s2)
    else
      zbi (zf165 a0 x1 (x4 + 1) s2) fun v3 s4 =>
      if ¬ v3 = x3 then
        zf181_52 a0 (zf181_18 a0 n) x1 x3 x4 x5 s4
      else
        zf181_52 a0 (zf181_18 a0 n) x1 x3 x4 (x4 + 4) s4
theorem zf181_18_ok {K : cx_K} (hK : Kok K) {lg : Nat → Int64} {v : Int32} {s' : zS} {a0 : Nat} (h0 : zsh a0 = 11)   {n : Nat} : ∀ {x1 : Int32} {x3 : Int32} {x4 : Int32} {x5 : Int32} {s : zS}, zf181_18 a0 n x1 x3 x4 x5 s = some (v, s') → Ev K zM181 (18, [some (.ref a0), some (.int x1), none, some (.int x3), some (.int x4), some (.int x5)], [], zmk lg s) 0 (.inl (some (.int v))) (zmk lg s') 0 := by
  induction n with
  | zero => intro x1 x3 x4 x5 s hF; rw [zf181_18] at hF; cases hF
  | succ n ih =>
    intro x1 x3 x4 x5 s hF
    rw [zf181_18] at hF
    refine Ev_p 3 (c' := (22, [some (.ref a0), some (.int x1), none, some (.int x3), some (.int x4), some (.int x5)], [.int x4, .int x1, .ref a0])) rfl ?_
    refine Ez_ci (M := zM181) (As := [.ref a0, .int x1, .int x4]) (st' := []) (am_site_v (y := 165) (k := 3) (ci := 11) rfl rfl (zrcv rfl h0 rfl)) (Nat.le_of_ble_eq_true rfl) (Nat.le_of_ble_eq_true rfl) rfl rfl (fun _ _ hF => zf165_ok hK h0 hF) hF (fun v1 s2 hF => ?_)
    refine Ev_p 1 (c' := (27, [some (.ref a0), some (.int x1), none, some (.int x3), some (.int x4), some (.int x5)], [.int 32, .int v1])) rfl ?_
    refine Ez_if (M := zM181) (b := ¬ v1 = 32) rfl rfl hF (fun _ hF => ?_) (fun _ hF => ?_)
    · refine Ev_p 1 (c' := (72, [some (.ref a0), some (.int x1), none, some (.int x3), some (.int x4), some (.int x5)], [.int x5])) rfl ?_
      exact Ez_ri (M := zM181) rfl rfl hF
    · refine Ev_p 5 (c' := (36, [some (.ref a0), some (.int x1), none, some (.int x3), some (.int x4), some (.int x5)], [.int (x4 + 1), .int x1, .ref a0])) rfl ?_
      refine Ez_ci (M := zM181) (As := [.ref a0, .int x1, .int (x4 + 1)]) (st' := []) (am_site_v (y := 165) (k := 3) (ci := 11) rfl rfl (zrcv rfl h0 rfl)) (Nat.le_of_ble_eq_true rfl) (Nat.le_of_ble_eq_true rfl) rfl rfl (fun _ _ hF => zf165_ok hK h0 hF) hF (fun v3 s4 hF => ?_)
      refine Ev_p 1 (c' := (40, [some (.ref a0), some (.int x1), none, some (.int x3), some (.int x4), some (.int x5)], [.int x3, .int v3])) rfl ?_
      refine Ez_if (M := zM181) (b := ¬ v3 = x3) rfl rfl hF (fun _ hF => ?_) (fun _ hF => ?_)
      · refine Ev_p 1 (c' := (52, [some (.ref a0), some (.int x1), none, some (.int x3), some (.int x4), some (.int x5)], [.int x5])) rfl ?_
        refine Ev_w (L' := [some (.ref a0), some (.int x1), none, some (.int x3), some (.int x4), none]) (zle_c (zle_c (zle_c (zle_c (zle_c (zle_n zle_0)))))) ?_
        exact zf181_52_ok hK h0 (fun _ _ _ _ _ hF => ih hF) hF
      · refine Ev_p 4 (c' := (52, [some (.ref a0), some (.int x1), none, some (.int x3), some (.int x4), some (.int x5)], [.int (x4 + 4)])) rfl ?_
        refine Ev_w (L' := [some (.ref a0), some (.int x1), none, some (.int x3), some (.int x4), none]) (zle_c (zle_c (zle_c (zle_c (zle_c (zle_n zle_0)))))) ?_
        exact zf181_52_ok hK h0 (fun _ _ _ _ _ hF => ih hF) hF
noncomputable def zf181 (a0 : Nat) (x1 : Int32) (x2 : Int32) (x3 : Int32) (s : zS) : Option (Int32 × zS) :=
  zal s (zrf a0 11) ((30 * x1) + x2) fun v1 =>
  zf181_18 a0 zfz x1 x3 (v1 + 2) (-1) s
theorem zf181_ok {K : cx_K} (hK : Kok K) {lg : Nat → Int64} {v : Int32} {s' : zS} {a0 : Nat} (h0 : zsh a0 = 11) {x1 : Int32} {x2 : Int32} {x3 : Int32} {s : zS} (hF : zf181 a0 x1 x2 x3 s = some (v, s')) : Ct K 181 [.ref a0, .int x1, .int x2, .int x3] (zmk lg s) (.inl (some (.int v))) (zmk lg s') 0 := by
  unfold zf181 at hF
  refine Ct_of hK nd_ok181 (mL := 6) (rt := some .int) rfl rfl (Nat.le_of_ble_eq_true rfl) zlen_le ?_
  refine Ev_p 1 (c' := (1, [some (.ref a0), some (.int x1), some (.int x2), some (.int x3), none, none], [.ref a0])) rfl ?_
  refine Ez_gr (M := zM181) (ci := 11) (f := 11) (t := 100) rfl rfl h0 rfl ?_
  refine Ev_p 5 (c' := (10, [some (.ref a0), some (.int x1), some (.int x2), some (.int x3), none, none], [.int ((30 * x1) + x2), .ref (zrf a0 11)])) rfl ?_
  refine Ez_al (M := zM181) rfl (zty (ci := 11) (f := 11) (t := 100) h0 rfl) hF (fun v1 hF => ?_)
  refine Ev_p 5 (c' := (18, [some (.ref a0), some (.int x1), some (.int x2), some (.int x3), some (.int (v1 + 2)), some (.int (-1))], [])) rfl ?_
  refine Ev_w (L' := [some (.ref a0), some (.int x1), none, some (.int x3), some (.int (v1 + 2)), some (.int (-1))]) (zle_c (zle_c (zle_n (zle_c (zle_c (zle_c zle_0)))))) ?_
  exact zf181_18_ok hK h0 hF
-- PaperParcelsModel.firstLetter(II)I
abbrev zM182 : ev_M := (am_in nd_i182, am_fl nd_f11, am_ct nd_k11, am_sl nd_ml nd_s182, fun _ => none, some .int)
noncomputable def zf182_2 (a0 : Nat)  : Nat → Int32 → Int32 → Int32 → zS → Option (Int32 × zS)
  | 0, _, _, _, _ => none
  | n + 1, x1, x2, x3, s =>
    zal s (zrf a0 8) x1 fun v1 =>
    if v1 ≤ x3 then
      some ((-1), s)
    else
      zal s (zrf a0 13) ((300 * x1) + x3) fun v2 =>
      if ¬ v2 = x2 then
        zf182_2 a0 n x1 x2 (x3 + 1) s
      else
        some (x3, s)
theorem zf182_2_ok {K : cx_K} (hK : Kok K) {lg : Nat → Int64} {v : Int32} {s' : zS} {a0 : Nat} (h0 : zsh a0 = 11)   {n : Nat} : ∀ {x1 : Int32} {x2 : Int32} {x3 : Int32} {s : zS}, zf182_2 a0 n x1 x2 x3 s = some (v, s') → Ev K zM182 (2, [some (.ref a0), some (.int x1), some (.int x2), some (.int x3)], [], zmk lg s) 0 (.inl (some (.int v))) (zmk lg s') 0 := by
  induction n with
  | zero => intro x1 x2 x3 s hF; rw [zf182_2] at hF; cases hF
  | succ n ih =>
    intro x1 x2 x3 s hF
    rw [zf182_2] at hF
    refine Ev_p 2 (c' := (4, [some (.ref a0), some (.int x1), some (.int x2), some (.int x3)], [.ref a0, .int x3])) rfl ?_
    refine Ez_gr (M := zM182) (ci := 11) (f := 8) (t := 100) rfl rfl h0 rfl ?_
    refine Ev_p 1 (c' := (8, [some (.ref a0), some (.int x1), some (.int x2), some (.int x3)], [.int x1, .ref (zrf a0 8), .int x3])) rfl ?_
    refine Ez_al (M := zM182) rfl (zty (ci := 11) (f := 8) (t := 100) h0 rfl) hF (fun v1 hF => ?_)
    refine Ev_p 0 (c' := (9, [some (.ref a0), some (.int x1), some (.int x2), some (.int x3)], [.int v1, .int x3])) rfl ?_
    refine Ez_if (M := zM182) (b := v1 ≤ x3) rfl rfl hF (fun _ hF => ?_) (fun _ hF => ?_)
    · refine Ev_p 1 (c' := (37, [some (.ref a0), some (.int x1), some (.int x2), some (.int x3)], [.int (-1)])) rfl ?_
      exact Ez_ri (M := zM182) rfl rfl hF
    · refine Ev_p 1 (c' := (13, [some (.ref a0), some (.int x1), some (.int x2), some (.int x3)], [.ref a0])) rfl ?_
      refine Ez_gr (M := zM182) (ci := 11) (f := 13) (t := 100) rfl rfl h0 rfl ?_
      refine Ev_p 5 (c' := (23, [some (.ref a0), some (.int x1), some (.int x2), some (.int x3)], [.int ((300 * x1) + x3), .ref (zrf a0 13)])) rfl ?_
      refine Ez_al (M := zM182) rfl (zty (ci := 11) (f := 13) (t := 100) h0 rfl) hF (fun v2 hF => ?_)
      refine Ev_p 1 (c' := (25, [some (.ref a0), some (.int x1), some (.int x2), some (.int x3)], [.int x2, .int v2])) rfl ?_
      refine Ez_if (M := zM182) (b := ¬ v2 = x2) rfl rfl hF (fun _ hF => ?_) (fun _ hF => ?_)
      · refine Ev_p 2 (c' := (2, [some (.ref a0), some (.int x1), some (.int x2), some (.int (x3 + 1))], [])) rfl ?_
        exact ih hF
      · refine Ev_p 1 (c' := (29, [some (.ref a0), some (.int x1), some (.int x2), some (.int x3)], [.int x3])) rfl ?_
        exact Ez_ri (M := zM182) rfl rfl hF
noncomputable def zf182 (a0 : Nat) (x1 : Int32) (x2 : Int32) (s : zS) : Option (Int32 × zS) :=
  zf182_2 a0 zfz x1 x2 0 s
theorem zf182_ok {K : cx_K} (hK : Kok K) {lg : Nat → Int64} {v : Int32} {s' : zS} {a0 : Nat} (h0 : zsh a0 = 11) {x1 : Int32} {x2 : Int32} {s : zS} (hF : zf182 a0 x1 x2 s = some (v, s')) : Ct K 182 [.ref a0, .int x1, .int x2] (zmk lg s) (.inl (some (.int v))) (zmk lg s') 0 := by
  unfold zf182 at hF
  refine Ct_of hK nd_ok182 (mL := 4) (rt := some .int) rfl rfl (Nat.le_of_ble_eq_true rfl) zlen_le ?_
  refine Ev_p 2 (c' := (2, [some (.ref a0), some (.int x1), some (.int x2), some (.int 0)], [])) rfl ?_
  exact zf182_2_ok hK h0 hF
-- PaperParcelsModel.has(IIII)Z
abbrev zM183 : ev_M := (am_in nd_i183, am_fl nd_f11, am_ct nd_k11, am_sl nd_ml nd_s183, fun _ => none, some .boolean)
noncomputable def zf183_8 (a0 : Nat)  : Nat → Int32 → Int32 → Int32 → Int32 → Int32 → Int32 → zS → Option (Int32 × zS)
  | 0, _, _, _, _, _, _, _ => none
  | n + 1, x1, x2, x3, x4, x5, x6, s =>
    zal s (zrf a0 9) x1 fun v1 =>
    if v1 ≤ x6 then
      zrb x5 s
    else
      zal s (zrf a0 10) ((30 * x1) + x6) fun v2 =>
      if ¬ x5 = 0 then
        zf183_8 a0 n x1 x2 x3 x4 1 (x6 + 1) s
      else
        zal s (zrf a0 12) ((30 * x1) + x6) fun v3 =>
        if ¬ v3 = x2 then
          zf183_8 a0 n x1 x2 x3 x4 0 (x6 + 1) s
        else
          if v2 = x3 then
            zf183_8 a0 n x1 x2 x3 x4 1 (x6 + 1) s
          else
            if ¬ v2 = x4 then
              zf183_8 a0 n x1 x2 x3 x4 0 (x6 + 1) s
            else
              zf183_8 a0 n x1 x2 x3 x4 1 (x6 + 1) s
theorem zf183_8_ok {K : cx_K} (hK : Kok K) {lg : Nat → Int64} {v : Int32} {s' : zS} {a0 : Nat} (h0 : zsh a0 = 11)   {n : Nat} : ∀ {x1 : Int32} {x2 : Int32} {x3 : Int32} {x4 : Int32} {x5 : Int32} {x6 : Int32} {s : zS}, zf183_8 a0 n x1 x2 x3 x4 x5 x6 s = some (v, s') → Ev K zM183 (8, [some (.ref a0), some (.int x1), some (.int x2), some (.int x3), some (.int x4), some (.int x5), some (.int x6), none], [], zmk lg s) 0 (.inl (some (.int v))) (zmk lg s') 0 := by
  induction n with
  | zero => intro x1 x2 x3 x4 x5 x6 s hF; rw [zf183_8] at hF; cases hF
  | succ n ih =>
    intro x1 x2 x3 x4 x5 x6 s hF
    rw [zf183_8] at hF
    refine Ev_p 2 (c' := (11, [some (.ref a0), some (.int x1), some (.int x2), some (.int x3), some (.int x4), some (.int x5), some (.int x6), none], [.ref a0, .int x6])) rfl ?_
    refine Ez_gr (M := zM183) (ci := 11) (f := 9) (t := 100) rfl rfl h0 rfl ?_
    refine Ev_p 1 (c' := (15, [some (.ref a0), some (.int x1), some (.int x2), some (.int x3), some (.int x4), some (.int x5), some (.int x6), none], [.int x1, .ref (zrf a0 9), .int x6])) rfl ?_
    refine Ez_al (M := zM183) rfl (zty (ci := 11) (f := 9) (t := 100) h0 rfl) hF (fun v1 hF => ?_)
    refine Ev_p 0 (c' := (16, [some (.ref a0), some (.int x1), some (.int x2), some (.int x3), some (.int x4), some (.int x5), some (.int x6), none], [.int v1, .int x6])) rfl ?_
    refine Ez_if (M := zM183) (b := v1 ≤ x6) rfl rfl hF (fun _ hF => ?_) (fun _ hF => ?_)
    · refine Ev_p 1 (c' := (82, [some (.ref a0), some (.int x1), some (.int x2), some (.int x3), some (.int x4), some (.int x5), some (.int x6), none], [.int x5])) rfl ?_
      exact Ez_rb (M := zM183) rfl rfl hF
    · refine Ev_p 1 (c' := (20, [some (.ref a0), some (.int x1), some (.int x2), some (.int x3), some (.int x4), some (.int x5), some (.int x6), none], [.ref a0])) rfl ?_
      refine Ez_gr (M := zM183) (ci := 11) (f := 10) (t := 100) rfl rfl h0 rfl ?_
      refine Ev_p 5 (c' := (30, [some (.ref a0), some (.int x1), some (.int x2), some (.int x3), some (.int x4), some (.int x5), some (.int x6), none], [.int ((30 * x1) + x6), .ref (zrf a0 10)])) rfl ?_
      refine Ez_al (M := zM183) rfl (zty (ci := 11) (f := 10) (t := 100) h0 rfl) hF (fun v2 hF => ?_)
      refine Ev_p 2 (c' := (35, [some (.ref a0), some (.int x1), some (.int x2), some (.int x3), some (.int x4), some (.int x5), some (.int x6), some (.int v2)], [.int x5])) rfl ?_
      refine Ez_if (M := zM183) (b := ¬ x5 = 0) rfl rfl hF (fun _ hF => ?_) (fun _ hF => ?_)
      · refine Ev_p 5 (c' := (8, [some (.ref a0), some (.int x1), some (.int x2), some (.int x3), some (.int x4), some (.int 1), some (.int (x6 + 1)), some (.int v2)], [])) rfl ?_
        refine Ev_w (L' := [some (.ref a0), some (.int x1), some (.int x2), some (.int x3), some (.int x4), some (.int 1), some (.int (x6 + 1)), none]) (zle_c (zle_c (zle_c (zle_c (zle_c (zle_c (zle_c (zle_n zle_0)))))))) ?_
        exact ih hF
      · refine Ev_p 1 (c' := (39, [some (.ref a0), some (.int x1), some (.int x2), some (.int x3), some (.int x4), some (.int x5), some (.int x6), some (.int v2)], [.ref a0])) rfl ?_
        refine Ez_gr (M := zM183) (ci := 11) (f := 12) (t := 100) rfl rfl h0 rfl ?_
        refine Ev_p 5 (c' := (49, [some (.ref a0), some (.int x1), some (.int x2), some (.int x3), some (.int x4), some (.int x5), some (.int x6), some (.int v2)], [.int ((30 * x1) + x6), .ref (zrf a0 12)])) rfl ?_
        refine Ez_al (M := zM183) rfl (zty (ci := 11) (f := 12) (t := 100) h0 rfl) hF (fun v3 hF => ?_)
        refine Ev_p 1 (c' := (51, [some (.ref a0), some (.int x1), some (.int x2), some (.int x3), some (.int x4), some (.int x5), some (.int x6), some (.int v2)], [.int x2, .int v3])) rfl ?_
        refine Ez_if (M := zM183) (b := ¬ v3 = x2) rfl rfl hF (fun _ hF => ?_) (fun _ hF => ?_)
        · refine Ev_p 4 (c' := (8, [some (.ref a0), some (.int x1), some (.int x2), some (.int x3), some (.int x4), some (.int 0), some (.int (x6 + 1)), some (.int v2)], [])) rfl ?_
          refine Ev_w (L' := [some (.ref a0), some (.int x1), some (.int x2), some (.int x3), some (.int x4), some (.int 0), some (.int (x6 + 1)), none]) (zle_c (zle_c (zle_c (zle_c (zle_c (zle_c (zle_c (zle_n zle_0)))))))) ?_
          exact ih hF
        · refine Ev_p 2 (c' := (57, [some (.ref a0), some (.int x1), some (.int x2), some (.int x3), some (.int x4), some (.int x5), some (.int x6), some (.int v2)], [.int x3, .int v2])) rfl ?_
          refine Ez_if (M := zM183) (b := v2 = x3) rfl rfl hF (fun _ hF => ?_) (fun _ hF => ?_)
          · refine Ev_p 5 (c' := (8, [some (.ref a0), some (.int x1), some (.int x2), some (.int x3), some (.int x4), some (.int 1), some (.int (x6 + 1)), some (.int v2)], [])) rfl ?_
            refine Ev_w (L' := [some (.ref a0), some (.int x1), some (.int x2), some (.int x3), some (.int x4), some (.int 1), some (.int (x6 + 1)), none]) (zle_c (zle_c (zle_c (zle_c (zle_c (zle_c (zle_c (zle_n zle_0)))))))) ?_
            exact ih hF
          · refine Ev_p 2 (c' := (64, [some (.ref a0), some (.int x1), some (.int x2), some (.int x3), some (.int x4), some (.int x5), some (.int x6), some (.int v2)], [.int x4, .int v2])) rfl ?_
            refine Ez_if (M := zM183) (b := ¬ v2 = x4) rfl rfl hF (fun _ hF => ?_) (fun _ hF => ?_)
            · refine Ev_p 4 (c' := (8, [some (.ref a0), some (.int x1), some (.int x2), some (.int x3), some (.int x4), some (.int 0), some (.int (x6 + 1)), some (.int v2)], [])) rfl ?_
              refine Ev_w (L' := [some (.ref a0), some (.int x1), some (.int x2), some (.int x3), some (.int x4), some (.int 0), some (.int (x6 + 1)), none]) (zle_c (zle_c (zle_c (zle_c (zle_c (zle_c (zle_c (zle_n zle_0)))))))) ?_
              exact ih hF
            · refine Ev_p 5 (c' := (8, [some (.ref a0), some (.int x1), some (.int x2), some (.int x3), some (.int x4), some (.int 1), some (.int (x6 + 1)), some (.int v2)], [])) rfl ?_
              refine Ev_w (L' := [some (.ref a0), some (.int x1), some (.int x2), some (.int x3), some (.int x4), some (.int 1), some (.int (x6 + 1)), none]) (zle_c (zle_c (zle_c (zle_c (zle_c (zle_c (zle_c (zle_n zle_0)))))))) ?_
              exact ih hF
noncomputable def zf183 (a0 : Nat) (x1 : Int32) (x2 : Int32) (x3 : Int32) (x4 : Int32) (s : zS) : Option (Int32 × zS) :=
  zf183_8 a0 zfz x1 x2 x3 x4 0 (x2 + 1) s
theorem zf183_ok {K : cx_K} (hK : Kok K) {lg : Nat → Int64} {v : Int32} {s' : zS} {a0 : Nat} (h0 : zsh a0 = 11) {x1 : Int32} {x2 : Int32} {x3 : Int32} {x4 : Int32} {s : zS} (hF : zf183 a0 x1 x2 x3 x4 s = some (v, s')) : Ct K 183 [.ref a0, .int x1, .int x2, .int x3, .int x4] (zmk lg s) (.inl (some (.int v))) (zmk lg s') 0 := by
  unfold zf183 at hF
  refine Ct_of hK nd_ok183 (mL := 8) (rt := some .boolean) rfl rfl (Nat.le_of_ble_eq_true rfl) zlen_le ?_
  refine Ev_p 6 (c' := (8, [some (.ref a0), some (.int x1), some (.int x2), some (.int x3), some (.int x4), some (.int 0), some (.int (x2 + 1)), none], [])) rfl ?_
  exact zf183_8_ok hK h0 hF
-- PaperParcelsModel.misfit(II)I
abbrev zM175 : ev_M := (am_in nd_i175, am_fl nd_f11, am_ct nd_k11, am_sl nd_ml nd_s175, fun _ => none, some .int)
noncomputable def zf175_148 (a0 : Nat)  (x4 : Int32) (t0 : Int32) (s : zS) : Option (Int32 × zS) :=
  if t0 = 0 then
    some ((-1), s)
  else
    some (x4, s)
theorem zf175_148_ok {K : cx_K} (hK : Kok K) {lg : Nat → Int64} {v : Int32} {s' : zS} {a0 : Nat} (h0 : zsh a0 = 11)   {x4 : Int32} {t0 : Int32}  {s : zS} (hF : zf175_148 a0 x4 t0 s = some (v, s')) : Ev K zM175 (148, [some (.ref a0), none, none, none, some (.int x4), none, none, none], [.int t0], zmk lg s) 0 (.inl (some (.int v))) (zmk lg s') 0 := by
  unfold zf175_148 at hF
  refine Ev_p 2 (c' := (152, [some (.ref a0), none, none, none, some (.int x4), none, none, some (.int t0)], [.int t0])) rfl ?_
  refine Ez_if (M := zM175) (b := t0 = 0) rfl rfl hF (fun _ hF => ?_) (fun _ hF => ?_)
  · refine Ev_p 1 (c' := (161, [some (.ref a0), none, none, none, some (.int x4), none, none, some (.int t0)], [.int (-1)])) rfl ?_
    exact Ez_ri (M := zM175) rfl rfl hF
  · refine Ev_p 2 (c' := (161, [some (.ref a0), none, none, none, some (.int x4), none, none, some (.int t0)], [.int x4])) rfl ?_
    exact Ez_ri (M := zM175) rfl rfl hF
noncomputable def zf175_124 (a0 : Nat)  (x1 : Int32) (x2 : Int32) (x3 : Int32) (x4 : Int32) (s : zS) : Option (Int32 × zS) :=
  if ¬ x3 = 105 then
    zf175_148 a0 x4 0 s
  else
    zbi (zf183 a0 x1 x2 112 108 s) fun v1 s2 =>
    if ¬ v1 = 0 then
      zf175_148 a0 x4 0 s2
    else
      zf175_148 a0 x4 1 s2
theorem zf175_124_ok {K : cx_K} (hK : Kok K) {lg : Nat → Int64} {v : Int32} {s' : zS} {a0 : Nat} (h0 : zsh a0 = 11)   {x1 : Int32} {x2 : Int32} {x3 : Int32} {x4 : Int32}  {s : zS} (hF : zf175_124 a0 x1 x2 x3 x4 s = some (v, s')) : Ev K zM175 (124, [some (.ref a0), some (.int x1), some (.int x2), some (.int x3), some (.int x4), none, none, none], [], zmk lg s) 0 (.inl (some (.int v))) (zmk lg s') 0 := by
  unfold zf175_124 at hF
  refine Ev_p 2 (c' := (127, [some (.ref a0), some (.int x1), some (.int x2), some (.int x3), some (.int x4), none, none, none], [.int 105, .int x3])) rfl ?_
  refine Ez_if (M := zM175) (b := ¬ x3 = 105) rfl rfl hF (fun _ hF => ?_) (fun _ hF => ?_)
  · refine Ev_p 1 (c' := (148, [some (.ref a0), some (.int x1), some (.int x2), some (.int x3), some (.int x4), none, none, none], [.int 0])) rfl ?_
    refine Ev_w (L' := [some (.ref a0), none, none, none, some (.int x4), none, none, none]) (zle_c (zle_n (zle_n (zle_n (zle_c (zle_c (zle_c (zle_c zle_0)))))))) ?_
    exact zf175_148_ok hK h0 hF
  · refine Ev_p 5 (c' := (137, [some (.ref a0), some (.int x1), some (.int x2), some (.int x3), some (.int x4), none, none, none], [.int 108, .int 112, .int x2, .int x1, .ref a0])) rfl ?_
    refine Ez_ci (M := zM175) (As := [.ref a0, .int x1, .int x2, .int 112, .int 108]) (st' := []) (am_site_v (y := 183) (k := 5) (ci := 11) rfl rfl (zrcv rfl h0 rfl)) (Nat.le_of_ble_eq_true rfl) (Nat.le_of_ble_eq_true rfl) rfl rfl (fun _ _ hF => zf183_ok hK h0 hF) hF (fun v1 s2 hF => ?_)
    refine Ev_p 0 (c' := (140, [some (.ref a0), some (.int x1), some (.int x2), some (.int x3), some (.int x4), none, none, none], [.int v1])) rfl ?_
    refine Ez_if (M := zM175) (b := ¬ v1 = 0) rfl rfl hF (fun _ hF => ?_) (fun _ hF => ?_)
    · refine Ev_p 1 (c' := (148, [some (.ref a0), some (.int x1), some (.int x2), some (.int x3), some (.int x4), none, none, none], [.int 0])) rfl ?_
      refine Ev_w (L' := [some (.ref a0), none, none, none, some (.int x4), none, none, none]) (zle_c (zle_n (zle_n (zle_n (zle_c (zle_c (zle_c (zle_c zle_0)))))))) ?_
      exact zf175_148_ok hK h0 hF
    · refine Ev_p 2 (c' := (148, [some (.ref a0), some (.int x1), some (.int x2), some (.int x3), some (.int x4), none, none, none], [.int 1])) rfl ?_
      refine Ev_w (L' := [some (.ref a0), none, none, none, some (.int x4), none, none, none]) (zle_c (zle_n (zle_n (zle_n (zle_c (zle_c (zle_c (zle_c zle_0)))))))) ?_
      exact zf175_148_ok hK h0 hF
noncomputable def zf175_95 (a0 : Nat)  (x1 : Int32) (x2 : Int32) (x3 : Int32) (x4 : Int32) (t0 : Int32) (s : zS) : Option (Int32 × zS) :=
  if t0 < 0 then
    if ¬ x3 = 108 then
      zf175_124 a0 x1 x2 x3 x4 s
    else
      zbi (zf183 a0 x1 x2 105 105 s) fun v1 s2 =>
      if v1 = 0 then
        zf175_148 a0 x4 1 s2
      else
        zf175_124 a0 x1 x2 x3 x4 s2
  else
    some (t0, s)
theorem zf175_95_ok {K : cx_K} (hK : Kok K) {lg : Nat → Int64} {v : Int32} {s' : zS} {a0 : Nat} (h0 : zsh a0 = 11)   {x1 : Int32} {x2 : Int32} {x3 : Int32} {x4 : Int32} {t0 : Int32}  {s : zS} (hF : zf175_95 a0 x1 x2 x3 x4 t0 s = some (v, s')) : Ev K zM175 (95, [some (.ref a0), some (.int x1), some (.int x2), some (.int x3), some (.int x4), none, none, none], [.int t0], zmk lg s) 0 (.inl (some (.int v))) (zmk lg s') 0 := by
  unfold zf175_95 at hF
  refine Ev_p 2 (c' := (99, [some (.ref a0), some (.int x1), some (.int x2), some (.int x3), some (.int x4), none, some (.int t0), none], [.int t0])) rfl ?_
  refine Ez_if (M := zM175) (b := t0 < 0) rfl rfl hF (fun _ hF => ?_) (fun _ hF => ?_)
  · refine Ev_p 2 (c' := (108, [some (.ref a0), some (.int x1), some (.int x2), some (.int x3), some (.int x4), none, some (.int t0), none], [.int 108, .int x3])) rfl ?_
    refine Ez_if (M := zM175) (b := ¬ x3 = 108) rfl rfl hF (fun _ hF => ?_) (fun _ hF => ?_)
    · refine Ev_p 0 (c' := (124, [some (.ref a0), some (.int x1), some (.int x2), some (.int x3), some (.int x4), none, some (.int t0), none], [])) rfl ?_
      refine Ev_w (L' := [some (.ref a0), some (.int x1), some (.int x2), some (.int x3), some (.int x4), none, none, none]) (zle_c (zle_c (zle_c (zle_c (zle_c (zle_c (zle_n (zle_c zle_0)))))))) ?_
      exact zf175_124_ok hK h0 hF
    · refine Ev_p 5 (c' := (118, [some (.ref a0), some (.int x1), some (.int x2), some (.int x3), some (.int x4), none, some (.int t0), none], [.int 105, .int 105, .int x2, .int x1, .ref a0])) rfl ?_
      refine Ez_ci (M := zM175) (As := [.ref a0, .int x1, .int x2, .int 105, .int 105]) (st' := []) (am_site_v (y := 183) (k := 5) (ci := 11) rfl rfl (zrcv rfl h0 rfl)) (Nat.le_of_ble_eq_true rfl) (Nat.le_of_ble_eq_true rfl) rfl rfl (fun _ _ hF => zf183_ok hK h0 hF) hF (fun v1 s2 hF => ?_)
      refine Ev_p 0 (c' := (121, [some (.ref a0), some (.int x1), some (.int x2), some (.int x3), some (.int x4), none, some (.int t0), none], [.int v1])) rfl ?_
      refine Ez_if (M := zM175) (b := v1 = 0) rfl rfl hF (fun _ hF => ?_) (fun _ hF => ?_)
      · refine Ev_p 2 (c' := (148, [some (.ref a0), some (.int x1), some (.int x2), some (.int x3), some (.int x4), none, some (.int t0), none], [.int 1])) rfl ?_
        refine Ev_w (L' := [some (.ref a0), none, none, none, some (.int x4), none, none, none]) (zle_c (zle_n (zle_n (zle_n (zle_c (zle_c (zle_n (zle_c zle_0)))))))) ?_
        exact zf175_148_ok hK h0 hF
      · refine Ev_p 0 (c' := (124, [some (.ref a0), some (.int x1), some (.int x2), some (.int x3), some (.int x4), none, some (.int t0), none], [])) rfl ?_
        refine Ev_w (L' := [some (.ref a0), some (.int x1), some (.int x2), some (.int x3), some (.int x4), none, none, none]) (zle_c (zle_c (zle_c (zle_c (zle_c (zle_c (zle_n (zle_c zle_0)))))))) ?_
        exact zf175_124_ok hK h0 hF
  · refine Ev_p 1 (c' := (104, [some (.ref a0), some (.int x1), some (.int x2), some (.int x3), some (.int x4), none, some (.int t0), none], [.int t0])) rfl ?_
    exact Ez_ri (M := zM175) rfl rfl hF
noncomputable def zf175_73 (a0 : Nat)  (x1 : Int32) (x2 : Int32) (x3 : Int32) (x4 : Int32) (s : zS) : Option (Int32 × zS) :=
  if x3 = 112 then
    zf175_95 a0 x1 x2 x3 x4 (-1) s
  else
    if ¬ x3 = 120 then
      zbi (zf182 a0 x1 x2 s) fun v1 s2 =>
      zf175_95 a0 x1 x2 x3 x4 v1 s2
    else
      zf175_95 a0 x1 x2 x3 x4 (-1) s
theorem zf175_73_ok {K : cx_K} (hK : Kok K) {lg : Nat → Int64} {v : Int32} {s' : zS} {a0 : Nat} (h0 : zsh a0 = 11)   {x1 : Int32} {x2 : Int32} {x3 : Int32} {x4 : Int32}  {s : zS} (hF : zf175_73 a0 x1 x2 x3 x4 s = some (v, s')) : Ev K zM175 (73, [some (.ref a0), some (.int x1), some (.int x2), some (.int x3), some (.int x4), none, none, none], [], zmk lg s) 0 (.inl (some (.int v))) (zmk lg s') 0 := by
  unfold zf175_73 at hF
  refine Ev_p 2 (c' := (76, [some (.ref a0), some (.int x1), some (.int x2), some (.int x3), some (.int x4), none, none, none], [.int 112, .int x3])) rfl ?_
  refine Ez_if (M := zM175) (b := x3 = 112) rfl rfl hF (fun _ hF => ?_) (fun _ hF => ?_)
  · refine Ev_p 2 (c' := (95, [some (.ref a0), some (.int x1), some (.int x2), some (.int x3), some (.int x4), none, none, none], [.int (-1)])) rfl ?_
    exact zf175_95_ok hK h0 hF
  · refine Ev_p 2 (c' := (82, [some (.ref a0), some (.int x1), some (.int x2), some (.int x3), some (.int x4), none, none, none], [.int 120, .int x3])) rfl ?_
    refine Ez_if (M := zM175) (b := ¬ x3 = 120) rfl rfl hF (fun _ hF => ?_) (fun _ hF => ?_)
    · refine Ev_p 3 (c' := (92, [some (.ref a0), some (.int x1), some (.int x2), some (.int x3), some (.int x4), none, none, none], [.int x2, .int x1, .ref a0])) rfl ?_
      refine Ez_ci (M := zM175) (As := [.ref a0, .int x1, .int x2]) (st' := []) (am_site_v (y := 182) (k := 3) (ci := 11) rfl rfl (zrcv rfl h0 rfl)) (Nat.le_of_ble_eq_true rfl) (Nat.le_of_ble_eq_true rfl) rfl rfl (fun _ _ hF => zf182_ok hK h0 hF) hF (fun v1 s2 hF => ?_)
      refine Ev_p 0 (c' := (95, [some (.ref a0), some (.int x1), some (.int x2), some (.int x3), some (.int x4), none, none, none], [.int v1])) rfl ?_
      exact zf175_95_ok hK h0 hF
    · refine Ev_p 2 (c' := (95, [some (.ref a0), some (.int x1), some (.int x2), some (.int x3), some (.int x4), none, none, none], [.int (-1)])) rfl ?_
      exact zf175_95_ok hK h0 hF
noncomputable def zf175 (a0 : Nat) (x1 : Int32) (x2 : Int32) (s : zS) : Option (Int32 × zS) :=
  zal s (zrf a0 10) ((30 * x1) + x2) fun v1 =>
  zal s (zrf a0 11) ((30 * x1) + x2) fun v2 =>
  zbi (zf176 a0 x1 x2 s) fun v3 s4 =>
  if ¬ v3 = 0 then
    zbi (zf178 a0 x1 x2 s4) fun v5 s6 =>
    if v5 < 0 then
      if ¬ v1 = 115 then
        zf175_73 a0 x1 x2 v1 v2 s6
      else
        zbi (zf181 a0 x1 x2 110 s6) fun v7 s8 =>
        if 0 ≤ v7 then
          zf175_73 a0 x1 x2 v1 v2 s8
        else
          some (v2, s8)
    else
      some (v5, s6)
  else
    some (v2, s4)
theorem zf175_ok {K : cx_K} (hK : Kok K) {lg : Nat → Int64} {v : Int32} {s' : zS} {a0 : Nat} (h0 : zsh a0 = 11) {x1 : Int32} {x2 : Int32} {s : zS} (hF : zf175 a0 x1 x2 s = some (v, s')) : Ct K 175 [.ref a0, .int x1, .int x2] (zmk lg s) (.inl (some (.int v))) (zmk lg s') 0 := by
  unfold zf175 at hF
  refine Ct_of hK nd_ok175 (mL := 8) (rt := some .int) rfl rfl (Nat.le_of_ble_eq_true rfl) zlen_le ?_
  refine Ev_p 1 (c' := (1, [some (.ref a0), some (.int x1), some (.int x2), none, none, none, none, none], [.ref a0])) rfl ?_
  refine Ez_gr (M := zM175) (ci := 11) (f := 10) (t := 100) rfl rfl h0 rfl ?_
  refine Ev_p 5 (c' := (10, [some (.ref a0), some (.int x1), some (.int x2), none, none, none, none, none], [.int ((30 * x1) + x2), .ref (zrf a0 10)])) rfl ?_
  refine Ez_al (M := zM175) rfl (zty (ci := 11) (f := 10) (t := 100) h0 rfl) hF (fun v1 hF => ?_)
  refine Ev_p 2 (c' := (13, [some (.ref a0), some (.int x1), some (.int x2), some (.int v1), none, none, none, none], [.ref a0])) rfl ?_
  refine Ez_gr (M := zM175) (ci := 11) (f := 11) (t := 100) rfl rfl h0 rfl ?_
  refine Ev_p 5 (c' := (22, [some (.ref a0), some (.int x1), some (.int x2), some (.int v1), none, none, none, none], [.int ((30 * x1) + x2), .ref (zrf a0 11)])) rfl ?_
  refine Ez_al (M := zM175) rfl (zty (ci := 11) (f := 11) (t := 100) h0 rfl) hF (fun v2 hF => ?_)
  refine Ev_p 4 (c' := (28, [some (.ref a0), some (.int x1), some (.int x2), some (.int v1), some (.int v2), none, none, none], [.int x2, .int x1, .ref a0])) rfl ?_
  refine Ez_ci (M := zM175) (As := [.ref a0, .int x1, .int x2]) (st' := []) (am_site_v (y := 176) (k := 3) (ci := 11) rfl rfl (zrcv rfl h0 rfl)) (Nat.le_of_ble_eq_true rfl) (Nat.le_of_ble_eq_true rfl) rfl rfl (fun _ _ hF => zf176_ok hK h0 hF) hF (fun v3 s4 hF => ?_)
  refine Ev_p 0 (c' := (31, [some (.ref a0), some (.int x1), some (.int x2), some (.int v1), some (.int v2), none, none, none], [.int v3])) rfl ?_
  refine Ez_if (M := zM175) (b := ¬ v3 = 0) rfl rfl hF (fun _ hF => ?_) (fun _ hF => ?_)
  · refine Ev_p 3 (c' := (40, [some (.ref a0), some (.int x1), some (.int x2), some (.int v1), some (.int v2), none, none, none], [.int x2, .int x1, .ref a0])) rfl ?_
    refine Ez_ci (M := zM175) (As := [.ref a0, .int x1, .int x2]) (st' := []) (am_site_v (y := 178) (k := 3) (ci := 11) rfl rfl (zrcv rfl h0 rfl)) (Nat.le_of_ble_eq_true rfl) (Nat.le_of_ble_eq_true rfl) rfl rfl (fun _ _ hF => zf178_ok hK h0 hF) hF (fun v5 s6 hF => ?_)
    refine Ev_p 2 (c' := (47, [some (.ref a0), some (.int x1), some (.int x2), some (.int v1), some (.int v2), some (.int v5), none, none], [.int v5])) rfl ?_
    refine Ez_if (M := zM175) (b := v5 < 0) rfl rfl hF (fun _ hF => ?_) (fun _ hF => ?_)
    · refine Ev_p 2 (c' := (56, [some (.ref a0), some (.int x1), some (.int x2), some (.int v1), some (.int v2), some (.int v5), none, none], [.int 115, .int v1])) rfl ?_
      refine Ez_if (M := zM175) (b := ¬ v1 = 115) rfl rfl hF (fun _ hF => ?_) (fun _ hF => ?_)
      · refine Ev_p 0 (c' := (73, [some (.ref a0), some (.int x1), some (.int x2), some (.int v1), some (.int v2), some (.int v5), none, none], [])) rfl ?_
        refine Ev_w (L' := [some (.ref a0), some (.int x1), some (.int x2), some (.int v1), some (.int v2), none, none, none]) (zle_c (zle_c (zle_c (zle_c (zle_c (zle_n (zle_c (zle_c zle_0)))))))) ?_
        exact zf175_73_ok hK h0 hF
      · refine Ev_p 4 (c' := (64, [some (.ref a0), some (.int x1), some (.int x2), some (.int v1), some (.int v2), some (.int v5), none, none], [.int 110, .int x2, .int x1, .ref a0])) rfl ?_
        refine Ez_ci (M := zM175) (As := [.ref a0, .int x1, .int x2, .int 110]) (st' := []) (am_site_v (y := 181) (k := 4) (ci := 11) rfl rfl (zrcv rfl h0 rfl)) (Nat.le_of_ble_eq_true rfl) (Nat.le_of_ble_eq_true rfl) rfl rfl (fun _ _ hF => zf181_ok hK h0 hF) hF (fun v7 s8 hF => ?_)
        refine Ev_p 0 (c' := (67, [some (.ref a0), some (.int x1), some (.int x2), some (.int v1), some (.int v2), some (.int v5), none, none], [.int v7])) rfl ?_
        refine Ez_if (M := zM175) (b := 0 ≤ v7) rfl rfl hF (fun _ hF => ?_) (fun _ hF => ?_)
        · refine Ev_p 0 (c' := (73, [some (.ref a0), some (.int x1), some (.int x2), some (.int v1), some (.int v2), some (.int v5), none, none], [])) rfl ?_
          refine Ev_w (L' := [some (.ref a0), some (.int x1), some (.int x2), some (.int v1), some (.int v2), none, none, none]) (zle_c (zle_c (zle_c (zle_c (zle_c (zle_n (zle_c (zle_c zle_0)))))))) ?_
          exact zf175_73_ok hK h0 hF
        · refine Ev_p 1 (c' := (72, [some (.ref a0), some (.int x1), some (.int x2), some (.int v1), some (.int v2), some (.int v5), none, none], [.int v2])) rfl ?_
          exact Ez_ri (M := zM175) rfl rfl hF
    · refine Ev_p 1 (c' := (52, [some (.ref a0), some (.int x1), some (.int x2), some (.int v1), some (.int v2), some (.int v5), none, none], [.int v5])) rfl ?_
      exact Ez_ri (M := zM175) rfl rfl hF
  · refine Ev_p 1 (c' := (36, [some (.ref a0), some (.int x1), some (.int x2), some (.int v1), some (.int v2), none, none, none], [.int v2])) rfl ?_
    exact Ez_ri (M := zM175) rfl rfl hF
-- PaperParcelsModel.elementFault(I)I
abbrev zM174 : ev_M := (am_in nd_i174, am_fl nd_f11, am_ct nd_k11, am_sl nd_ml nd_s174, fun _ => none, some .int)
noncomputable def zf174_2 (a0 : Nat)  : Nat → Int32 → Int32 → zS → Option (Int32 × zS)
  | 0, _, _, _ => none
  | n + 1, x1, x2, s =>
    zal s (zrf a0 9) x1 fun v1 =>
    if v1 ≤ x2 then
      some (0, s)
    else
      zbi (zf175 a0 x1 x2 s) fun v2 s3 =>
      if v2 < 0 then
        zf174_2 a0 n x1 (x2 + 1) s3
      else
        zbi (zf158 a0 5 ((1000 * x1) + v2) s3) fun v4 s5 =>
        some (v4, s5)
theorem zf174_2_ok {K : cx_K} (hK : Kok K) {lg : Nat → Int64} {v : Int32} {s' : zS} {a0 : Nat} (h0 : zsh a0 = 11)   {n : Nat} : ∀ {x1 : Int32} {x2 : Int32} {s : zS}, zf174_2 a0 n x1 x2 s = some (v, s') → Ev K zM174 (2, [some (.ref a0), some (.int x1), some (.int x2), none], [], zmk lg s) 0 (.inl (some (.int v))) (zmk lg s') 0 := by
  induction n with
  | zero => intro x1 x2 s hF; rw [zf174_2] at hF; cases hF
  | succ n ih =>
    intro x1 x2 s hF
    rw [zf174_2] at hF
    refine Ev_p 2 (c' := (4, [some (.ref a0), some (.int x1), some (.int x2), none], [.ref a0, .int x2])) rfl ?_
    refine Ez_gr (M := zM174) (ci := 11) (f := 9) (t := 100) rfl rfl h0 rfl ?_
    refine Ev_p 1 (c' := (8, [some (.ref a0), some (.int x1), some (.int x2), none], [.int x1, .ref (zrf a0 9), .int x2])) rfl ?_
    refine Ez_al (M := zM174) rfl (zty (ci := 11) (f := 9) (t := 100) h0 rfl) hF (fun v1 hF => ?_)
    refine Ev_p 0 (c' := (9, [some (.ref a0), some (.int x1), some (.int x2), none], [.int v1, .int x2])) rfl ?_
    refine Ez_if (M := zM174) (b := v1 ≤ x2) rfl rfl hF (fun _ hF => ?_) (fun _ hF => ?_)
    · refine Ev_p 1 (c' := (43, [some (.ref a0), some (.int x1), some (.int x2), none], [.int 0])) rfl ?_
      exact Ez_ri (M := zM174) rfl rfl hF
    · refine Ev_p 3 (c' := (15, [some (.ref a0), some (.int x1), some (.int x2), none], [.int x2, .int x1, .ref a0])) rfl ?_
      refine Ez_ci (M := zM174) (As := [.ref a0, .int x1, .int x2]) (st' := []) (am_site_v (y := 175) (k := 3) (ci := 11) rfl rfl (zrcv rfl h0 rfl)) (Nat.le_of_ble_eq_true rfl) (Nat.le_of_ble_eq_true rfl) rfl rfl (fun _ _ hF => zf175_ok hK h0 hF) hF (fun v2 s3 hF => ?_)
      refine Ev_p 2 (c' := (20, [some (.ref a0), some (.int x1), some (.int x2), some (.int v2)], [.int v2])) rfl ?_
      refine Ez_if (M := zM174) (b := v2 < 0) rfl rfl hF (fun _ hF => ?_) (fun _ hF => ?_)
      · refine Ev_p 2 (c' := (2, [some (.ref a0), some (.int x1), some (.int (x2 + 1)), some (.int v2)], [])) rfl ?_
        refine Ev_w (L' := [some (.ref a0), some (.int x1), some (.int (x2 + 1)), none]) (zle_c (zle_c (zle_c (zle_n zle_0)))) ?_
        exact ih hF
      · refine Ev_p 7 (c' := (32, [some (.ref a0), some (.int x1), some (.int x2), some (.int v2)], [.int ((1000 * x1) + v2), .int 5, .ref a0])) rfl ?_
        refine Ez_ci (M := zM174) (As := [.ref a0, .int 5, .int ((1000 * x1) + v2)]) (st' := []) (am_site_v (y := 158) (k := 3) (ci := 11) rfl rfl (zrcv rfl h0 rfl)) (Nat.le_of_ble_eq_true rfl) (Nat.le_of_ble_eq_true rfl) rfl rfl (fun _ _ hF => zf158_ok hK h0 hF) hF (fun v4 s5 hF => ?_)
        refine Ev_p 0 (c' := (35, [some (.ref a0), some (.int x1), some (.int x2), some (.int v2)], [.int v4])) rfl ?_
        exact Ez_ri (M := zM174) rfl rfl hF
noncomputable def zf174 (a0 : Nat) (x1 : Int32) (s : zS) : Option (Int32 × zS) :=
  zf174_2 a0 zfz x1 0 s
theorem zf174_ok {K : cx_K} (hK : Kok K) {lg : Nat → Int64} {v : Int32} {s' : zS} {a0 : Nat} (h0 : zsh a0 = 11) {x1 : Int32} {s : zS} (hF : zf174 a0 x1 s = some (v, s')) : Ct K 174 [.ref a0, .int x1] (zmk lg s) (.inl (some (.int v))) (zmk lg s') 0 := by
  unfold zf174 at hF
  refine Ct_of hK nd_ok174 (mL := 4) (rt := some .int) rfl rfl (Nat.le_of_ble_eq_true rfl) zlen_le ?_
  refine Ev_p 2 (c' := (2, [some (.ref a0), some (.int x1), some (.int 0), none], [])) rfl ?_
  exact zf174_2_ok hK h0 hF
-- PaperParcelsModel.capital(III)I
abbrev zM185 : ev_M := (am_in nd_i185, am_fl nd_f11, am_ct nd_k11, am_sl nd_ml nd_s185, fun _ => none, some .int)
noncomputable def zf185 (a0 : Nat) (x1 : Int32) (x2 : Int32) (x3 : Int32) (s : zS) : Option (Int32 × zS) :=
  zbi (zf181 a0 x1 x2 x3 s) fun v1 s2 =>
  if 0 ≤ v1 then
    zbi (zf165 a0 x1 v1 s2) fun v3 s4 =>
    some ((v3 - 65), s4)
  else
    some ((-1), s2)
theorem zf185_ok {K : cx_K} (hK : Kok K) {lg : Nat → Int64} {v : Int32} {s' : zS} {a0 : Nat} (h0 : zsh a0 = 11) {x1 : Int32} {x2 : Int32} {x3 : Int32} {s : zS} (hF : zf185 a0 x1 x2 x3 s = some (v, s')) : Ct K 185 [.ref a0, .int x1, .int x2, .int x3] (zmk lg s) (.inl (some (.int v))) (zmk lg s') 0 := by
  unfold zf185 at hF
  refine Ct_of hK nd_ok185 (mL := 5) (rt := some .int) rfl rfl (Nat.le_of_ble_eq_true rfl) zlen_le ?_
  refine Ev_p 4 (c' := (4, [some (.ref a0), some (.int x1), some (.int x2), some (.int x3), none], [.int x3, .int x2, .int x1, .ref a0])) rfl ?_
  refine Ez_ci (M := zM185) (As := [.ref a0, .int x1, .int x2, .int x3]) (st' := []) (am_site_v (y := 181) (k := 4) (ci := 11) rfl rfl (zrcv rfl h0 rfl)) (Nat.le_of_ble_eq_true rfl) (Nat.le_of_ble_eq_true rfl) rfl rfl (fun _ _ hF => zf181_ok hK h0 hF) hF (fun v1 s2 hF => ?_)
  refine Ev_p 2 (c' := (11, [some (.ref a0), some (.int x1), some (.int x2), some (.int x3), some (.int v1)], [.int v1])) rfl ?_
  refine Ez_if (M := zM185) (b := 0 ≤ v1) rfl rfl hF (fun _ hF => ?_) (fun _ hF => ?_)
  · refine Ev_p 3 (c' := (22, [some (.ref a0), some (.int x1), some (.int x2), some (.int x3), some (.int v1)], [.int v1, .int x1, .ref a0])) rfl ?_
    refine Ez_ci (M := zM185) (As := [.ref a0, .int x1, .int v1]) (st' := []) (am_site_v (y := 165) (k := 3) (ci := 11) rfl rfl (zrcv rfl h0 rfl)) (Nat.le_of_ble_eq_true rfl) (Nat.le_of_ble_eq_true rfl) rfl rfl (fun _ _ hF => zf165_ok hK h0 hF) hF (fun v3 s4 hF => ?_)
    refine Ev_p 2 (c' := (28, [some (.ref a0), some (.int x1), some (.int x2), some (.int x3), some (.int v1)], [.int (v3 - 65)])) rfl ?_
    exact Ez_ri (M := zM185) rfl rfl hF
  · refine Ev_p 2 (c' := (28, [some (.ref a0), some (.int x1), some (.int x2), some (.int x3), some (.int v1)], [.int (-1)])) rfl ?_
    exact Ez_ri (M := zM185) rfl rfl hF
-- PaperParcelsModel.number(II)I
abbrev zM186 : ev_M := (am_in nd_i186, am_fl nd_f11, am_ct nd_k11, am_sl nd_ml nd_s186, fun _ => none, some .int)
noncomputable def zf186 (a0 : Nat) (x1 : Int32) (x2 : Int32) (s : zS) : Option (Int32 × zS) :=
  zbi (zf181 a0 0 x1 x2 s) fun v1 s2 =>
  if 0 ≤ v1 then
    zbi (zf165 a0 0 v1 s2) fun v3 s4 =>
    zbi (zf165 a0 0 (v1 + 1) s4) fun v5 s6 =>
    zbi (zf156 v5 s6) fun v7 s8 =>
    if v7 = 0 then
      some ((v3 - 48), s8)
    else
      zbi (zf165 a0 0 (v1 + 1) s8) fun v9 s10 =>
      some ((((10 * (v3 - 48)) + v9) - 48), s10)
  else
    some ((-1), s2)
theorem zf186_ok {K : cx_K} (hK : Kok K) {lg : Nat → Int64} {v : Int32} {s' : zS} {a0 : Nat} (h0 : zsh a0 = 11) {x1 : Int32} {x2 : Int32} {s : zS} (hF : zf186 a0 x1 x2 s = some (v, s')) : Ct K 186 [.ref a0, .int x1, .int x2] (zmk lg s) (.inl (some (.int v))) (zmk lg s') 0 := by
  unfold zf186 at hF
  refine Ct_of hK nd_ok186 (mL := 5) (rt := some .int) rfl rfl (Nat.le_of_ble_eq_true rfl) zlen_le ?_
  refine Ev_p 4 (c' := (4, [some (.ref a0), some (.int x1), some (.int x2), none, none], [.int x2, .int x1, .int 0, .ref a0])) rfl ?_
  refine Ez_ci (M := zM186) (As := [.ref a0, .int 0, .int x1, .int x2]) (st' := []) (am_site_v (y := 181) (k := 4) (ci := 11) rfl rfl (zrcv rfl h0 rfl)) (Nat.le_of_ble_eq_true rfl) (Nat.le_of_ble_eq_true rfl) rfl rfl (fun _ _ hF => zf181_ok hK h0 hF) hF (fun v1 s2 hF => ?_)
  refine Ev_p 2 (c' := (9, [some (.ref a0), some (.int x1), some (.int x2), some (.int v1), none], [.int v1])) rfl ?_
  refine Ez_if (M := zM186) (b := 0 ≤ v1) rfl rfl hF (fun _ hF => ?_) (fun _ hF => ?_)
  · refine Ev_p 3 (c' := (17, [some (.ref a0), some (.int x1), some (.int x2), some (.int v1), none], [.int v1, .int 0, .ref a0])) rfl ?_
    refine Ez_ci (M := zM186) (As := [.ref a0, .int 0, .int v1]) (st' := []) (am_site_v (y := 165) (k := 3) (ci := 11) rfl rfl (zrcv rfl h0 rfl)) (Nat.le_of_ble_eq_true rfl) (Nat.le_of_ble_eq_true rfl) rfl rfl (fun _ _ hF => zf165_ok hK h0 hF) hF (fun v3 s4 hF => ?_)
    refine Ev_p 8 (c' := (30, [some (.ref a0), some (.int x1), some (.int x2), some (.int v1), some (.int (v3 - 48))], [.int (v1 + 1), .int 0, .ref a0])) rfl ?_
    refine Ez_ci (M := zM186) (As := [.ref a0, .int 0, .int (v1 + 1)]) (st' := []) (am_site_v (y := 165) (k := 3) (ci := 11) rfl rfl (zrcv rfl h0 rfl)) (Nat.le_of_ble_eq_true rfl) (Nat.le_of_ble_eq_true rfl) rfl rfl (fun _ _ hF => zf165_ok hK h0 hF) hF (fun v5 s6 hF => ?_)
    refine Ev_p 0 (c' := (33, [some (.ref a0), some (.int x1), some (.int x2), some (.int v1), some (.int (v3 - 48))], [.int v5])) rfl ?_
    refine Ez_ci (M := zM186) (As := [.int v5]) (st' := []) (zsite_0 (y := 156) (k := 1) (ci := 11) rfl rfl) (Nat.le_of_ble_eq_true rfl) (Nat.le_of_ble_eq_true rfl) rfl rfl (fun _ _ hF => zf156_ok hK  hF) hF (fun v7 s8 hF => ?_)
    refine Ev_p 0 (c' := (36, [some (.ref a0), some (.int x1), some (.int x2), some (.int v1), some (.int (v3 - 48))], [.int v7])) rfl ?_
    refine Ez_if (M := zM186) (b := v7 = 0) rfl rfl hF (fun _ hF => ?_) (fun _ hF => ?_)
    · refine Ev_p 1 (c' := (61, [some (.ref a0), some (.int x1), some (.int x2), some (.int v1), some (.int (v3 - 48))], [.int (v3 - 48)])) rfl ?_
      exact Ez_ri (M := zM186) rfl rfl hF
    · refine Ev_p 8 (c' := (49, [some (.ref a0), some (.int x1), some (.int x2), some (.int v1), some (.int (v3 - 48))], [.int (v1 + 1), .int 0, .ref a0, .int (10 * (v3 - 48))])) rfl ?_
      refine Ez_ci (M := zM186) (As := [.ref a0, .int 0, .int (v1 + 1)]) (st' := [.int (10 * (v3 - 48))]) (am_site_v (y := 165) (k := 3) (ci := 11) rfl rfl (zrcv rfl h0 rfl)) (Nat.le_of_ble_eq_true rfl) (Nat.le_of_ble_eq_true rfl) rfl rfl (fun _ _ hF => zf165_ok hK h0 hF) hF (fun v9 s10 hF => ?_)
      refine Ev_p 4 (c' := (61, [some (.ref a0), some (.int x1), some (.int x2), some (.int v1), some (.int (v3 - 48))], [.int (((10 * (v3 - 48)) + v9) - 48)])) rfl ?_
      exact Ez_ri (M := zM186) rfl rfl hF
  · refine Ev_p 1 (c' := (13, [some (.ref a0), some (.int x1), some (.int x2), some (.int v1), none], [.int (-1)])) rfl ?_
    exact Ez_ri (M := zM186) rfl rfl hF

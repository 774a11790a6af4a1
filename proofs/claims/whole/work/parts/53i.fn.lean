/-! The methods as functions, and that the machine goes so (printed by wip/gen/fgen.py). -/
set_option maxRecDepth 100000
set_option linter.unusedVariables false
-- PaperParcels$Script.costTakingOut(II)I
abbrev zM97 : ev_M := (am_in nd_i97, am_fl nd_f8, am_ct nd_k8, am_sl nd_ml nd_s97, fun _ => none, some .int)
noncomputable def zf97 (a0 : Nat) (x1 : Int32) (x2 : Int32) (s : zS) : Option (Int32 × zS) :=
  zal s (zrf (zrf a0 6) 3) x1 fun v1 =>
  zal s (zrf (zrf a0 6) 2) x1 fun v2 =>
  zar (zrf a0 10) v2 fun q3 =>
  zal s q3 x2 fun v4 =>
  some ((v1 + v4), s)
theorem zf97_ok {K : cx_K} (hK : Kok K) {lg : Nat → Int64} {v : Int32} {s' : zS} {a0 : Nat} (h0 : zsh a0 = 8) {x1 : Int32} {x2 : Int32} {s : zS} (hF : zf97 a0 x1 x2 s = some (v, s')) : Ct K 97 [.ref a0, .int x1, .int x2] (zmk lg s) (.inl (some (.int v))) (zmk lg s') 0 := by
  unfold zf97 at hF
  refine Ct_of hK nd_ok97 (mL := 3) (rt := some .int) rfl rfl (Nat.le_of_ble_eq_true rfl) zlen_le ?_
  refine Ev_p 1 (c' := (1, [some (.ref a0), some (.int x1), some (.int x2)], [.ref a0])) rfl ?_
  refine Ez_gr (M := zM97) (ci := 8) (f := 6) (t := 9) rfl rfl h0 rfl ?_
  refine Ev_p 0 (c' := (4, [some (.ref a0), some (.int x1), some (.int x2)], [.ref (zrf a0 6)])) rfl ?_
  refine Ez_gr (M := zM97) (ci := 9) (f := 3) (t := 100) rfl rfl (zty (ci := 8) (f := 6) (t := 9) h0 rfl) rfl ?_
  refine Ev_p 1 (c' := (8, [some (.ref a0), some (.int x1), some (.int x2)], [.int x1, .ref (zrf (zrf a0 6) 3)])) rfl ?_
  refine Ez_al (M := zM97) rfl (zty (ci := 9) (f := 3) (t := 100) (zty (ci := 8) (f := 6) (t := 9) h0 rfl) rfl) hF (fun v1 hF => ?_)
  refine Ev_p 1 (c' := (10, [some (.ref a0), some (.int x1), some (.int x2)], [.ref a0, .int v1])) rfl ?_
  refine Ez_gr (M := zM97) (ci := 8) (f := 10) (t := 104) rfl rfl h0 rfl ?_
  refine Ev_p 1 (c' := (14, [some (.ref a0), some (.int x1), some (.int x2)], [.ref a0, .ref (zrf a0 10), .int v1])) rfl ?_
  refine Ez_gr (M := zM97) (ci := 8) (f := 6) (t := 9) rfl rfl h0 rfl ?_
  refine Ev_p 0 (c' := (17, [some (.ref a0), some (.int x1), some (.int x2)], [.ref (zrf a0 6), .ref (zrf a0 10), .int v1])) rfl ?_
  refine Ez_gr (M := zM97) (ci := 9) (f := 2) (t := 100) rfl rfl (zty (ci := 8) (f := 6) (t := 9) h0 rfl) rfl ?_
  refine Ev_p 1 (c' := (21, [some (.ref a0), some (.int x1), some (.int x2)], [.int x1, .ref (zrf (zrf a0 6) 2), .ref (zrf a0 10), .int v1])) rfl ?_
  refine Ez_al (M := zM97) rfl (zty (ci := 9) (f := 2) (t := 100) (zty (ci := 8) (f := 6) (t := 9) h0 rfl) rfl) hF (fun v2 hF => ?_)
  refine Ev_p 0 (c' := (22, [some (.ref a0), some (.int x1), some (.int x2)], [.int v2, .ref (zrf a0 10), .int v1])) rfl ?_
  refine Ez_ar4 (M := zM97) rfl (zty (ci := 8) (f := 10) (t := 104) h0 rfl) hF (fun q3 hq3 hF => ?_)
  refine Ev_p 1 (c' := (24, [some (.ref a0), some (.int x1), some (.int x2)], [.int x2, .ref q3, .int v1])) rfl ?_
  refine Ez_al (M := zM97) rfl hq3 hF (fun v4 hF => ?_)
  refine Ev_p 1 (c' := (26, [some (.ref a0), some (.int x1), some (.int x2)], [.int (v1 + v4)])) rfl ?_
  exact Ez_ri (M := zM97) rfl rfl hF
-- PaperParcels$Script.costPuttingIn(II)I
abbrev zM98 : ev_M := (am_in nd_i98, am_fl nd_f8, am_ct nd_k8, am_sl nd_ml nd_s98, fun _ => none, some .int)
noncomputable def zf98 (a0 : Nat) (x1 : Int32) (x2 : Int32) (s : zS) : Option (Int32 × zS) :=
  zal s (zrf (zrf a0 7) 3) x2 fun v1 =>
  zar (zrf a0 10) x1 fun q2 =>
  zal s (zrf (zrf a0 7) 2) x2 fun v3 =>
  zal s q2 v3 fun v4 =>
  some ((v1 + v4), s)
theorem zf98_ok {K : cx_K} (hK : Kok K) {lg : Nat → Int64} {v : Int32} {s' : zS} {a0 : Nat} (h0 : zsh a0 = 8) {x1 : Int32} {x2 : Int32} {s : zS} (hF : zf98 a0 x1 x2 s = some (v, s')) : Ct K 98 [.ref a0, .int x1, .int x2] (zmk lg s) (.inl (some (.int v))) (zmk lg s') 0 := by
  unfold zf98 at hF
  refine Ct_of hK nd_ok98 (mL := 3) (rt := some .int) rfl rfl (Nat.le_of_ble_eq_true rfl) zlen_le ?_
  refine Ev_p 1 (c' := (1, [some (.ref a0), some (.int x1), some (.int x2)], [.ref a0])) rfl ?_
  refine Ez_gr (M := zM98) (ci := 8) (f := 7) (t := 9) rfl rfl h0 rfl ?_
  refine Ev_p 0 (c' := (4, [some (.ref a0), some (.int x1), some (.int x2)], [.ref (zrf a0 7)])) rfl ?_
  refine Ez_gr (M := zM98) (ci := 9) (f := 3) (t := 100) rfl rfl (zty (ci := 8) (f := 7) (t := 9) h0 rfl) rfl ?_
  refine Ev_p 1 (c' := (8, [some (.ref a0), some (.int x1), some (.int x2)], [.int x2, .ref (zrf (zrf a0 7) 3)])) rfl ?_
  refine Ez_al (M := zM98) rfl (zty (ci := 9) (f := 3) (t := 100) (zty (ci := 8) (f := 7) (t := 9) h0 rfl) rfl) hF (fun v1 hF => ?_)
  refine Ev_p 1 (c' := (10, [some (.ref a0), some (.int x1), some (.int x2)], [.ref a0, .int v1])) rfl ?_
  refine Ez_gr (M := zM98) (ci := 8) (f := 10) (t := 104) rfl rfl h0 rfl ?_
  refine Ev_p 1 (c' := (14, [some (.ref a0), some (.int x1), some (.int x2)], [.int x1, .ref (zrf a0 10), .int v1])) rfl ?_
  refine Ez_ar4 (M := zM98) rfl (zty (ci := 8) (f := 10) (t := 104) h0 rfl) hF (fun q2 hq2 hF => ?_)
  refine Ev_p 1 (c' := (16, [some (.ref a0), some (.int x1), some (.int x2)], [.ref a0, .ref q2, .int v1])) rfl ?_
  refine Ez_gr (M := zM98) (ci := 8) (f := 7) (t := 9) rfl rfl h0 rfl ?_
  refine Ev_p 0 (c' := (19, [some (.ref a0), some (.int x1), some (.int x2)], [.ref (zrf a0 7), .ref q2, .int v1])) rfl ?_
  refine Ez_gr (M := zM98) (ci := 9) (f := 2) (t := 100) rfl rfl (zty (ci := 8) (f := 7) (t := 9) h0 rfl) rfl ?_
  refine Ev_p 1 (c' := (23, [some (.ref a0), some (.int x1), some (.int x2)], [.int x2, .ref (zrf (zrf a0 7) 2), .ref q2, .int v1])) rfl ?_
  refine Ez_al (M := zM98) rfl (zty (ci := 9) (f := 2) (t := 100) (zty (ci := 8) (f := 7) (t := 9) h0 rfl) rfl) hF (fun v3 hF => ?_)
  refine Ev_p 0 (c' := (24, [some (.ref a0), some (.int x1), some (.int x2)], [.int v3, .ref q2, .int v1])) rfl ?_
  refine Ez_al (M := zM98) rfl hq2 hF (fun v4 hF => ?_)
  refine Ev_p 1 (c' := (26, [some (.ref a0), some (.int x1), some (.int x2)], [.int (v1 + v4)])) rfl ?_
  exact Ez_ri (M := zM98) rfl rfl hF
-- PaperParcels$Script.sameKind(II)Z
abbrev zM99 : ev_M := (am_in nd_i99, am_fl nd_f8, am_ct nd_k8, am_sl nd_ml nd_s99, fun _ => none, some .boolean)
noncomputable def zf99 (a0 : Nat) (x1 : Int32) (x2 : Int32) (s : zS) : Option (Int32 × zS) :=
  zal s (zrf (zrf (zrf a0 6) 0) 0) x1 fun v1 =>
  zal s (zrf (zrf (zrf a0 7) 0) 0) x2 fun v2 =>
  if ¬ v1 = v2 then
    zrb 0 s
  else
    zrb 1 s
theorem zf99_ok {K : cx_K} (hK : Kok K) {lg : Nat → Int64} {v : Int32} {s' : zS} {a0 : Nat} (h0 : zsh a0 = 8) {x1 : Int32} {x2 : Int32} {s : zS} (hF : zf99 a0 x1 x2 s = some (v, s')) : Ct K 99 [.ref a0, .int x1, .int x2] (zmk lg s) (.inl (some (.int v))) (zmk lg s') 0 := by
  unfold zf99 at hF
  refine Ct_of hK nd_ok99 (mL := 3) (rt := some .boolean) rfl rfl (Nat.le_of_ble_eq_true rfl) zlen_le ?_
  refine Ev_p 1 (c' := (1, [some (.ref a0), some (.int x1), some (.int x2)], [.ref a0])) rfl ?_
  refine Ez_gr (M := zM99) (ci := 8) (f := 6) (t := 9) rfl rfl h0 rfl ?_
  refine Ev_p 0 (c' := (4, [some (.ref a0), some (.int x1), some (.int x2)], [.ref (zrf a0 6)])) rfl ?_
  refine Ez_gr (M := zM99) (ci := 9) (f := 0) (t := 2) rfl rfl (zty (ci := 8) (f := 6) (t := 9) h0 rfl) rfl ?_
  refine Ev_p 0 (c' := (7, [some (.ref a0), some (.int x1), some (.int x2)], [.ref (zrf (zrf a0 6) 0)])) rfl ?_
  refine Ez_gr (M := zM99) (ci := 2) (f := 0) (t := 100) rfl rfl (zty (ci := 9) (f := 0) (t := 2) (zty (ci := 8) (f := 6) (t := 9) h0 rfl) rfl) rfl ?_
  refine Ev_p 1 (c' := (11, [some (.ref a0), some (.int x1), some (.int x2)], [.int x1, .ref (zrf (zrf (zrf a0 6) 0) 0)])) rfl ?_
  refine Ez_al (M := zM99) rfl (zty (ci := 2) (f := 0) (t := 100) (zty (ci := 9) (f := 0) (t := 2) (zty (ci := 8) (f := 6) (t := 9) h0 rfl) rfl) rfl) hF (fun v1 hF => ?_)
  refine Ev_p 1 (c' := (13, [some (.ref a0), some (.int x1), some (.int x2)], [.ref a0, .int v1])) rfl ?_
  refine Ez_gr (M := zM99) (ci := 8) (f := 7) (t := 9) rfl rfl h0 rfl ?_
  refine Ev_p 0 (c' := (16, [some (.ref a0), some (.int x1), some (.int x2)], [.ref (zrf a0 7), .int v1])) rfl ?_
  refine Ez_gr (M := zM99) (ci := 9) (f := 0) (t := 2) rfl rfl (zty (ci := 8) (f := 7) (t := 9) h0 rfl) rfl ?_
  refine Ev_p 0 (c' := (19, [some (.ref a0), some (.int x1), some (.int x2)], [.ref (zrf (zrf a0 7) 0), .int v1])) rfl ?_
  refine Ez_gr (M := zM99) (ci := 2) (f := 0) (t := 100) rfl rfl (zty (ci := 9) (f := 0) (t := 2) (zty (ci := 8) (f := 7) (t := 9) h0 rfl) rfl) rfl ?_
  refine Ev_p 1 (c' := (23, [some (.ref a0), some (.int x1), some (.int x2)], [.int x2, .ref (zrf (zrf (zrf a0 7) 0) 0), .int v1])) rfl ?_
  refine Ez_al (M := zM99) rfl (zty (ci := 2) (f := 0) (t := 100) (zty (ci := 9) (f := 0) (t := 2) (zty (ci := 8) (f := 7) (t := 9) h0 rfl) rfl) rfl) hF (fun v2 hF => ?_)
  refine Ev_p 0 (c' := (24, [some (.ref a0), some (.int x1), some (.int x2)], [.int v2, .int v1])) rfl ?_
  refine Ez_if (M := zM99) (b := ¬ v1 = v2) rfl rfl hF (fun _ hF => ?_) (fun _ hF => ?_)
  · refine Ev_p 1 (c' := (32, [some (.ref a0), some (.int x1), some (.int x2)], [.int 0])) rfl ?_
    exact Ez_rb (M := zM99) rfl rfl hF
  · refine Ev_p 2 (c' := (32, [some (.ref a0), some (.int x1), some (.int x2)], [.int 1])) rfl ?_
    exact Ez_rb (M := zM99) rfl rfl hF
-- PaperParcels$Script.sameSigns(II)Z
abbrev zM101 : ev_M := (am_in nd_i101, am_fl nd_f8, am_ct nd_k8, am_sl nd_ml nd_s101, fun _ => none, some .boolean)
noncomputable def zf101_34 (a0 : Nat)  : Nat → Int32 → Int32 → Int32 → Int32 → zS → Option (Int32 × zS)
  | 0, _, _, _, _, _ => none
  | n + 1, x1, x2, x3, x4, s =>
    if x3 ≤ x4 then
      zrb 1 s
    else
      zbi (zf91 (zrf (zrf a0 6) 0) x1 x4 s) fun v1 s2 =>
      zbi (zf91 (zrf (zrf a0 7) 0) x2 x4 s2) fun v3 s4 =>
      if v1 = v3 then
        zf101_34 a0 n x1 x2 x3 (x4 + 1) s4
      else
        zrb 0 s4
theorem zf101_34_ok {K : cx_K} (hK : Kok K) {lg : Nat → Int64} {v : Int32} {s' : zS} {a0 : Nat} (h0 : zsh a0 = 8)   {n : Nat} : ∀ {x1 : Int32} {x2 : Int32} {x3 : Int32} {x4 : Int32} {s : zS}, zf101_34 a0 n x1 x2 x3 x4 s = some (v, s') → Ev K zM101 (34, [some (.ref a0), some (.int x1), some (.int x2), some (.int x3), some (.int x4)], [], zmk lg s) 0 (.inl (some (.int v))) (zmk lg s') 0 := by
  induction n with
  | zero => intro x1 x2 x3 x4 s hF; rw [zf101_34] at hF; cases hF
  | succ n ih =>
    intro x1 x2 x3 x4 s hF
    rw [zf101_34] at hF
    refine Ev_p 2 (c' := (37, [some (.ref a0), some (.int x1), some (.int x2), some (.int x3), some (.int x4)], [.int x3, .int x4])) rfl ?_
    refine Ez_if (M := zM101) (b := x3 ≤ x4) rfl rfl hF (fun _ hF => ?_) (fun _ hF => ?_)
    · refine Ev_p 1 (c' := (78, [some (.ref a0), some (.int x1), some (.int x2), some (.int x3), some (.int x4)], [.int 1])) rfl ?_
      exact Ez_rb (M := zM101) rfl rfl hF
    · refine Ev_p 1 (c' := (41, [some (.ref a0), some (.int x1), some (.int x2), some (.int x3), some (.int x4)], [.ref a0])) rfl ?_
      refine Ez_gr (M := zM101) (ci := 8) (f := 6) (t := 9) rfl rfl h0 rfl ?_
      refine Ev_p 0 (c' := (44, [some (.ref a0), some (.int x1), some (.int x2), some (.int x3), some (.int x4)], [.ref (zrf a0 6)])) rfl ?_
      refine Ez_gr (M := zM101) (ci := 9) (f := 0) (t := 2) rfl rfl (zty (ci := 8) (f := 6) (t := 9) h0 rfl) rfl ?_
      refine Ev_p 2 (c' := (50, [some (.ref a0), some (.int x1), some (.int x2), some (.int x3), some (.int x4)], [.int x4, .int x1, .ref (zrf (zrf a0 6) 0)])) rfl ?_
      refine Ez_ci (M := zM101) (As := [.ref (zrf (zrf a0 6) 0), .int x1, .int x4]) (st' := []) (am_site_v (y := 91) (k := 3) (ci := 2) rfl rfl (zrcv rfl (zty (ci := 9) (f := 0) (t := 2) (zty (ci := 8) (f := 6) (t := 9) h0 rfl) rfl) rfl)) (Nat.le_of_ble_eq_true rfl) (Nat.le_of_ble_eq_true rfl) rfl rfl (fun _ _ hF => zf91_ok hK (zty (ci := 9) (f := 0) (t := 2) (zty (ci := 8) (f := 6) (t := 9) h0 rfl) rfl) hF) hF (fun v1 s2 hF => ?_)
      refine Ev_p 1 (c' := (54, [some (.ref a0), some (.int x1), some (.int x2), some (.int x3), some (.int x4)], [.ref a0, .int v1])) rfl ?_
      refine Ez_gr (M := zM101) (ci := 8) (f := 7) (t := 9) rfl rfl h0 rfl ?_
      refine Ev_p 0 (c' := (57, [some (.ref a0), some (.int x1), some (.int x2), some (.int x3), some (.int x4)], [.ref (zrf a0 7), .int v1])) rfl ?_
      refine Ez_gr (M := zM101) (ci := 9) (f := 0) (t := 2) rfl rfl (zty (ci := 8) (f := 7) (t := 9) h0 rfl) rfl ?_
      refine Ev_p 2 (c' := (63, [some (.ref a0), some (.int x1), some (.int x2), some (.int x3), some (.int x4)], [.int x4, .int x2, .ref (zrf (zrf a0 7) 0), .int v1])) rfl ?_
      refine Ez_ci (M := zM101) (As := [.ref (zrf (zrf a0 7) 0), .int x2, .int x4]) (st' := [.int v1]) (am_site_v (y := 91) (k := 3) (ci := 2) rfl rfl (zrcv rfl (zty (ci := 9) (f := 0) (t := 2) (zty (ci := 8) (f := 7) (t := 9) h0 rfl) rfl) rfl)) (Nat.le_of_ble_eq_true rfl) (Nat.le_of_ble_eq_true rfl) rfl rfl (fun _ _ hF => zf91_ok hK (zty (ci := 9) (f := 0) (t := 2) (zty (ci := 8) (f := 7) (t := 9) h0 rfl) rfl) hF) hF (fun v3 s4 hF => ?_)
      refine Ev_p 0 (c' := (66, [some (.ref a0), some (.int x1), some (.int x2), some (.int x3), some (.int x4)], [.int v3, .int v1])) rfl ?_
      refine Ez_if (M := zM101) (b := v1 = v3) rfl rfl hF (fun _ hF => ?_) (fun _ hF => ?_)
      · refine Ev_p 2 (c' := (34, [some (.ref a0), some (.int x1), some (.int x2), some (.int x3), some (.int (x4 + 1))], [])) rfl ?_
        exact ih hF
      · refine Ev_p 1 (c' := (70, [some (.ref a0), some (.int x1), some (.int x2), some (.int x3), some (.int x4)], [.int 0])) rfl ?_
        exact Ez_rb (M := zM101) rfl rfl hF
noncomputable def zf101 (a0 : Nat) (x1 : Int32) (x2 : Int32) (s : zS) : Option (Int32 × zS) :=
  zal s (zrf (zrf (zrf a0 6) 0) 4) x1 fun v1 =>
  zal s (zrf (zrf (zrf a0 7) 0) 4) x2 fun v2 =>
  if v1 = v2 then
    zf101_34 a0 zfz x1 x2 v1 0 s
  else
    zrb 0 s
theorem zf101_ok {K : cx_K} (hK : Kok K) {lg : Nat → Int64} {v : Int32} {s' : zS} {a0 : Nat} (h0 : zsh a0 = 8) {x1 : Int32} {x2 : Int32} {s : zS} (hF : zf101 a0 x1 x2 s = some (v, s')) : Ct K 101 [.ref a0, .int x1, .int x2] (zmk lg s) (.inl (some (.int v))) (zmk lg s') 0 := by
  unfold zf101 at hF
  refine Ct_of hK nd_ok101 (mL := 5) (rt := some .boolean) rfl rfl (Nat.le_of_ble_eq_true rfl) zlen_le ?_
  refine Ev_p 1 (c' := (1, [some (.ref a0), some (.int x1), some (.int x2), none, none], [.ref a0])) rfl ?_
  refine Ez_gr (M := zM101) (ci := 8) (f := 6) (t := 9) rfl rfl h0 rfl ?_
  refine Ev_p 0 (c' := (4, [some (.ref a0), some (.int x1), some (.int x2), none, none], [.ref (zrf a0 6)])) rfl ?_
  refine Ez_gr (M := zM101) (ci := 9) (f := 0) (t := 2) rfl rfl (zty (ci := 8) (f := 6) (t := 9) h0 rfl) rfl ?_
  refine Ev_p 0 (c' := (7, [some (.ref a0), some (.int x1), some (.int x2), none, none], [.ref (zrf (zrf a0 6) 0)])) rfl ?_
  refine Ez_gr (M := zM101) (ci := 2) (f := 4) (t := 100) rfl rfl (zty (ci := 9) (f := 0) (t := 2) (zty (ci := 8) (f := 6) (t := 9) h0 rfl) rfl) rfl ?_
  refine Ev_p 1 (c' := (11, [some (.ref a0), some (.int x1), some (.int x2), none, none], [.int x1, .ref (zrf (zrf (zrf a0 6) 0) 4)])) rfl ?_
  refine Ez_al (M := zM101) rfl (zty (ci := 2) (f := 4) (t := 100) (zty (ci := 9) (f := 0) (t := 2) (zty (ci := 8) (f := 6) (t := 9) h0 rfl) rfl) rfl) hF (fun v1 hF => ?_)
  refine Ev_p 3 (c' := (15, [some (.ref a0), some (.int x1), some (.int x2), some (.int v1), none], [.ref a0, .int v1])) rfl ?_
  refine Ez_gr (M := zM101) (ci := 8) (f := 7) (t := 9) rfl rfl h0 rfl ?_
  refine Ev_p 0 (c' := (18, [some (.ref a0), some (.int x1), some (.int x2), some (.int v1), none], [.ref (zrf a0 7), .int v1])) rfl ?_
  refine Ez_gr (M := zM101) (ci := 9) (f := 0) (t := 2) rfl rfl (zty (ci := 8) (f := 7) (t := 9) h0 rfl) rfl ?_
  refine Ev_p 0 (c' := (21, [some (.ref a0), some (.int x1), some (.int x2), some (.int v1), none], [.ref (zrf (zrf a0 7) 0), .int v1])) rfl ?_
  refine Ez_gr (M := zM101) (ci := 2) (f := 4) (t := 100) rfl rfl (zty (ci := 9) (f := 0) (t := 2) (zty (ci := 8) (f := 7) (t := 9) h0 rfl) rfl) rfl ?_
  refine Ev_p 1 (c' := (25, [some (.ref a0), some (.int x1), some (.int x2), some (.int v1), none], [.int x2, .ref (zrf (zrf (zrf a0 7) 0) 4), .int v1])) rfl ?_
  refine Ez_al (M := zM101) rfl (zty (ci := 2) (f := 4) (t := 100) (zty (ci := 9) (f := 0) (t := 2) (zty (ci := 8) (f := 7) (t := 9) h0 rfl) rfl) rfl) hF (fun v2 hF => ?_)
  refine Ev_p 0 (c' := (26, [some (.ref a0), some (.int x1), some (.int x2), some (.int v1), none], [.int v2, .int v1])) rfl ?_
  refine Ez_if (M := zM101) (b := v1 = v2) rfl rfl hF (fun _ hF => ?_) (fun _ hF => ?_)
  · refine Ev_p 2 (c' := (34, [some (.ref a0), some (.int x1), some (.int x2), some (.int v1), some (.int 0)], [])) rfl ?_
    exact zf101_34_ok hK h0 hF
  · refine Ev_p 1 (c' := (30, [some (.ref a0), some (.int x1), some (.int x2), some (.int v1), none], [.int 0])) rfl ?_
    exact Ez_rb (M := zM101) rfl rfl hF
-- PaperParcels$Script.costOfChange(II)I
abbrev zM100 : ev_M := (am_in nd_i100, am_fl nd_f8, am_ct nd_k8, am_sl nd_ml nd_s100, fun _ => none, some .int)
noncomputable def zf100 (a0 : Nat) (x1 : Int32) (x2 : Int32) (s : zS) : Option (Int32 × zS) :=
  zbi (zf101 a0 x1 x2 s) fun v1 s2 =>
  if ¬ v1 = 0 then
    zal s2 (zrf (zrf (zrf a0 6) 0) 2) x1 fun v3 =>
    zal s2 (zrf (zrf (zrf a0 7) 0) 2) x2 fun v4 =>
    if ¬ v3 = v4 then
      some (1, s2)
    else
      some (0, s2)
  else
    some (2, s2)
theorem zf100_ok {K : cx_K} (hK : Kok K) {lg : Nat → Int64} {v : Int32} {s' : zS} {a0 : Nat} (h0 : zsh a0 = 8) {x1 : Int32} {x2 : Int32} {s : zS} (hF : zf100 a0 x1 x2 s = some (v, s')) : Ct K 100 [.ref a0, .int x1, .int x2] (zmk lg s) (.inl (some (.int v))) (zmk lg s') 0 := by
  unfold zf100 at hF
  refine Ct_of hK nd_ok100 (mL := 3) (rt := some .int) rfl rfl (Nat.le_of_ble_eq_true rfl) zlen_le ?_
  refine Ev_p 3 (c' := (3, [some (.ref a0), some (.int x1), some (.int x2)], [.int x2, .int x1, .ref a0])) rfl ?_
  refine Ez_ci (M := zM100) (As := [.ref a0, .int x1, .int x2]) (st' := []) (am_site_v (y := 101) (k := 3) (ci := 8) rfl rfl (zrcv rfl h0 rfl)) (Nat.le_of_ble_eq_true rfl) (Nat.le_of_ble_eq_true rfl) rfl rfl (fun _ _ hF => zf101_ok hK h0 hF) hF (fun v1 s2 hF => ?_)
  refine Ev_p 0 (c' := (6, [some (.ref a0), some (.int x1), some (.int x2)], [.int v1])) rfl ?_
  refine Ez_if (M := zM100) (b := ¬ v1 = 0) rfl rfl hF (fun _ hF => ?_) (fun _ hF => ?_)
  · refine Ev_p 1 (c' := (12, [some (.ref a0), some (.int x1), some (.int x2)], [.ref a0])) rfl ?_
    refine Ez_gr (M := zM100) (ci := 8) (f := 6) (t := 9) rfl rfl h0 rfl ?_
    refine Ev_p 0 (c' := (15, [some (.ref a0), some (.int x1), some (.int x2)], [.ref (zrf a0 6)])) rfl ?_
    refine Ez_gr (M := zM100) (ci := 9) (f := 0) (t := 2) rfl rfl (zty (ci := 8) (f := 6) (t := 9) h0 rfl) rfl ?_
    refine Ev_p 0 (c' := (18, [some (.ref a0), some (.int x1), some (.int x2)], [.ref (zrf (zrf a0 6) 0)])) rfl ?_
    refine Ez_gr (M := zM100) (ci := 2) (f := 2) (t := 100) rfl rfl (zty (ci := 9) (f := 0) (t := 2) (zty (ci := 8) (f := 6) (t := 9) h0 rfl) rfl) rfl ?_
    refine Ev_p 1 (c' := (22, [some (.ref a0), some (.int x1), some (.int x2)], [.int x1, .ref (zrf (zrf (zrf a0 6) 0) 2)])) rfl ?_
    refine Ez_al (M := zM100) rfl (zty (ci := 2) (f := 2) (t := 100) (zty (ci := 9) (f := 0) (t := 2) (zty (ci := 8) (f := 6) (t := 9) h0 rfl) rfl) rfl) hF (fun v3 hF => ?_)
    refine Ev_p 1 (c' := (24, [some (.ref a0), some (.int x1), some (.int x2)], [.ref a0, .int v3])) rfl ?_
    refine Ez_gr (M := zM100) (ci := 8) (f := 7) (t := 9) rfl rfl h0 rfl ?_
    refine Ev_p 0 (c' := (27, [some (.ref a0), some (.int x1), some (.int x2)], [.ref (zrf a0 7), .int v3])) rfl ?_
    refine Ez_gr (M := zM100) (ci := 9) (f := 0) (t := 2) rfl rfl (zty (ci := 8) (f := 7) (t := 9) h0 rfl) rfl ?_
    refine Ev_p 0 (c' := (30, [some (.ref a0), some (.int x1), some (.int x2)], [.ref (zrf (zrf a0 7) 0), .int v3])) rfl ?_
    refine Ez_gr (M := zM100) (ci := 2) (f := 2) (t := 100) rfl rfl (zty (ci := 9) (f := 0) (t := 2) (zty (ci := 8) (f := 7) (t := 9) h0 rfl) rfl) rfl ?_
    refine Ev_p 1 (c' := (34, [some (.ref a0), some (.int x1), some (.int x2)], [.int x2, .ref (zrf (zrf (zrf a0 7) 0) 2), .int v3])) rfl ?_
    refine Ez_al (M := zM100) rfl (zty (ci := 2) (f := 2) (t := 100) (zty (ci := 9) (f := 0) (t := 2) (zty (ci := 8) (f := 7) (t := 9) h0 rfl) rfl) rfl) hF (fun v4 hF => ?_)
    refine Ev_p 0 (c' := (35, [some (.ref a0), some (.int x1), some (.int x2)], [.int v4, .int v3])) rfl ?_
    refine Ez_if (M := zM100) (b := ¬ v3 = v4) rfl rfl hF (fun _ hF => ?_) (fun _ hF => ?_)
    · refine Ev_p 1 (c' := (43, [some (.ref a0), some (.int x1), some (.int x2)], [.int 1])) rfl ?_
      exact Ez_ri (M := zM100) rfl rfl hF
    · refine Ev_p 2 (c' := (43, [some (.ref a0), some (.int x1), some (.int x2)], [.int 0])) rfl ?_
      exact Ez_ri (M := zM100) rfl rfl hF
  · refine Ev_p 1 (c' := (10, [some (.ref a0), some (.int x1), some (.int x2)], [.int 2])) rfl ?_
    exact Ez_ri (M := zM100) rfl rfl hF
-- PaperParcels$Script.costTogether(II)I
abbrev zM102 : ev_M := (am_in nd_i102, am_fl nd_f8, am_ct nd_k8, am_sl nd_ml nd_s102, fun _ => none, some .int)
noncomputable def zf102 (a0 : Nat) (x1 : Int32) (x2 : Int32) (s : zS) : Option (Int32 × zS) :=
  zar (zrf a0 9) x1 fun q1 =>
  zal s q1 x2 fun v2 =>
  zal s (zrf (zrf a0 6) 2) x1 fun v3 =>
  zar (zrf a0 10) v3 fun q4 =>
  zal s (zrf (zrf a0 7) 2) x2 fun v5 =>
  zal s q4 v5 fun v6 =>
  some ((v2 + v6), s)
theorem zf102_ok {K : cx_K} (hK : Kok K) {lg : Nat → Int64} {v : Int32} {s' : zS} {a0 : Nat} (h0 : zsh a0 = 8) {x1 : Int32} {x2 : Int32} {s : zS} (hF : zf102 a0 x1 x2 s = some (v, s')) : Ct K 102 [.ref a0, .int x1, .int x2] (zmk lg s) (.inl (some (.int v))) (zmk lg s') 0 := by
  unfold zf102 at hF
  refine Ct_of hK nd_ok102 (mL := 3) (rt := some .int) rfl rfl (Nat.le_of_ble_eq_true rfl) zlen_le ?_
  refine Ev_p 1 (c' := (1, [some (.ref a0), some (.int x1), some (.int x2)], [.ref a0])) rfl ?_
  refine Ez_gr (M := zM102) (ci := 8) (f := 9) (t := 104) rfl rfl h0 rfl ?_
  refine Ev_p 1 (c' := (5, [some (.ref a0), some (.int x1), some (.int x2)], [.int x1, .ref (zrf a0 9)])) rfl ?_
  refine Ez_ar4 (M := zM102) rfl (zty (ci := 8) (f := 9) (t := 104) h0 rfl) hF (fun q1 hq1 hF => ?_)
  refine Ev_p 1 (c' := (7, [some (.ref a0), some (.int x1), some (.int x2)], [.int x2, .ref q1])) rfl ?_
  refine Ez_al (M := zM102) rfl hq1 hF (fun v2 hF => ?_)
  refine Ev_p 1 (c' := (9, [some (.ref a0), some (.int x1), some (.int x2)], [.ref a0, .int v2])) rfl ?_
  refine Ez_gr (M := zM102) (ci := 8) (f := 10) (t := 104) rfl rfl h0 rfl ?_
  refine Ev_p 1 (c' := (13, [some (.ref a0), some (.int x1), some (.int x2)], [.ref a0, .ref (zrf a0 10), .int v2])) rfl ?_
  refine Ez_gr (M := zM102) (ci := 8) (f := 6) (t := 9) rfl rfl h0 rfl ?_
  refine Ev_p 0 (c' := (16, [some (.ref a0), some (.int x1), some (.int x2)], [.ref (zrf a0 6), .ref (zrf a0 10), .int v2])) rfl ?_
  refine Ez_gr (M := zM102) (ci := 9) (f := 2) (t := 100) rfl rfl (zty (ci := 8) (f := 6) (t := 9) h0 rfl) rfl ?_
  refine Ev_p 1 (c' := (20, [some (.ref a0), some (.int x1), some (.int x2)], [.int x1, .ref (zrf (zrf a0 6) 2), .ref (zrf a0 10), .int v2])) rfl ?_
  refine Ez_al (M := zM102) rfl (zty (ci := 9) (f := 2) (t := 100) (zty (ci := 8) (f := 6) (t := 9) h0 rfl) rfl) hF (fun v3 hF => ?_)
  refine Ev_p 0 (c' := (21, [some (.ref a0), some (.int x1), some (.int x2)], [.int v3, .ref (zrf a0 10), .int v2])) rfl ?_
  refine Ez_ar4 (M := zM102) rfl (zty (ci := 8) (f := 10) (t := 104) h0 rfl) hF (fun q4 hq4 hF => ?_)
  refine Ev_p 1 (c' := (23, [some (.ref a0), some (.int x1), some (.int x2)], [.ref a0, .ref q4, .int v2])) rfl ?_
  refine Ez_gr (M := zM102) (ci := 8) (f := 7) (t := 9) rfl rfl h0 rfl ?_
  refine Ev_p 0 (c' := (26, [some (.ref a0), some (.int x1), some (.int x2)], [.ref (zrf a0 7), .ref q4, .int v2])) rfl ?_
  refine Ez_gr (M := zM102) (ci := 9) (f := 2) (t := 100) rfl rfl (zty (ci := 8) (f := 7) (t := 9) h0 rfl) rfl ?_
  refine Ev_p 1 (c' := (30, [some (.ref a0), some (.int x1), some (.int x2)], [.int x2, .ref (zrf (zrf a0 7) 2), .ref q4, .int v2])) rfl ?_
  refine Ez_al (M := zM102) rfl (zty (ci := 9) (f := 2) (t := 100) (zty (ci := 8) (f := 7) (t := 9) h0 rfl) rfl) hF (fun v5 hF => ?_)
  refine Ev_p 0 (c' := (31, [some (.ref a0), some (.int x1), some (.int x2)], [.int v5, .ref q4, .int v2])) rfl ?_
  refine Ez_al (M := zM102) rfl hq4 hF (fun v6 hF => ?_)
  refine Ev_p 1 (c' := (33, [some (.ref a0), some (.int x1), some (.int x2)], [.int (v2 + v6)])) rfl ?_
  exact Ez_ri (M := zM102) rfl rfl hF
-- PaperParcels$Script.fillCosts()V
abbrev zM96 : ev_M := (am_in nd_i96, am_fl nd_f8, am_ct nd_k8, am_sl nd_ml nd_s96, fun _ => none, none)
noncomputable def zf96_178 (a0 : Nat) (k64 : Int32 → zS → Option (zS)) (k99 : Int32 → Int32 → zS → Option (zS)) (x1 : Int32) (x2 : Int32) (x3 : Int32) (s : zS) : Option (zS) :=
  zar (zrf a0 10) x1 fun q1 =>
  zas s q1 x2 x3 fun s2 =>
  k99 x1 (x2 + (-1)) s2
theorem zf96_178_ok {K : cx_K} (hK : Kok K) {lg : Nat → Int64} {s' : zS} {a0 : Nat} (h0 : zsh a0 = 8) {k64 : Int32 → zS → Option (zS)} {k99 : Int32 → Int32 → zS → Option (zS)} (hk64 : ∀ x1 s, k64 x1 s = some s' → Ev K zM96 (64, [some (.ref a0), some (.int x1), none, none], [], zmk lg s) 0 (.inl none) (zmk lg s') 0) (hk99 : ∀ x1 x2 s, k99 x1 x2 s = some s' → Ev K zM96 (99, [some (.ref a0), some (.int x1), some (.int x2), none], [], zmk lg s) 0 (.inl none) (zmk lg s') 0) {x1 : Int32} {x2 : Int32} {x3 : Int32}  {s : zS} (hF : zf96_178 a0 k64 k99 x1 x2 x3 s = some s') : Ev K zM96 (178, [some (.ref a0), some (.int x1), some (.int x2), some (.int x3)], [], zmk lg s) 0 (.inl none) (zmk lg s') 0 := by
  unfold zf96_178 at hF
  refine Ev_p 1 (c' := (179, [some (.ref a0), some (.int x1), some (.int x2), some (.int x3)], [.ref a0])) rfl ?_
  refine Ez_gr (M := zM96) (ci := 8) (f := 10) (t := 104) rfl rfl h0 rfl ?_
  refine Ev_p 1 (c' := (183, [some (.ref a0), some (.int x1), some (.int x2), some (.int x3)], [.int x1, .ref (zrf a0 10)])) rfl ?_
  refine Ez_ar4 (M := zM96) rfl (zty (ci := 8) (f := 10) (t := 104) h0 rfl) hF (fun q1 hq1 hF => ?_)
  refine Ev_p 2 (c' := (186, [some (.ref a0), some (.int x1), some (.int x2), some (.int x3)], [.int x3, .int x2, .ref q1])) rfl ?_
  refine Ez_as (M := zM96) rfl hq1 hF (fun s2 hF => ?_)
  refine Ev_p 2 (c' := (99, [some (.ref a0), some (.int x1), some (.int (x2 + (-1))), some (.int x3)], [])) rfl ?_
  refine Ev_w (L' := [some (.ref a0), some (.int x1), some (.int (x2 + (-1))), none]) (zle_c (zle_c (zle_c (zle_n zle_0)))) ?_
  exact hk99 _ _ _ hF
noncomputable def zf96_99 (a0 : Nat) (k64 : Int32 → zS → Option (zS)) : Nat → Int32 → Int32 → zS → Option (zS)
  | 0, _, _, _ => none
  | n + 1, x1, x2, s =>
    if x2 < 0 then
      k64 (x1 + (-1)) s
    else
      zbi (zf97 a0 x1 x2 s) fun v1 s2 =>
      zbi (zf98 a0 x1 x2 s2) fun v3 s4 =>
      zbi (zf31 v1 v3 s4) fun v5 s6 =>
      zbi (zf99 a0 x1 x2 s6) fun v7 s8 =>
      if v7 = 0 then
        zf96_178 a0 k64 (zf96_99 a0 k64 n) x1 x2 v5 s8
      else
        zar (zrf a0 9) x1 fun q9 =>
        zbi (zf100 a0 x1 x2 s8) fun v10 s11 =>
        zal s11 (zrf (zrf a0 6) 1) x1 fun v12 =>
        zar (zrf a0 10) v12 fun q13 =>
        zal s11 (zrf (zrf a0 7) 1) x2 fun v14 =>
        zal s11 q13 v14 fun v15 =>
        zas s11 q9 x2 (v10 + v15) fun s16 =>
        zbi (zf102 a0 x1 x2 s16) fun v17 s18 =>
        zbi (zf31 v5 v17 s18) fun v19 s20 =>
        zf96_178 a0 k64 (zf96_99 a0 k64 n) x1 x2 v19 s20
theorem zf96_99_ok {K : cx_K} (hK : Kok K) {lg : Nat → Int64} {s' : zS} {a0 : Nat} (h0 : zsh a0 = 8) {k64 : Int32 → zS → Option (zS)} (hk64 : ∀ x1 s, k64 x1 s = some s' → Ev K zM96 (64, [some (.ref a0), some (.int x1), none, none], [], zmk lg s) 0 (.inl none) (zmk lg s') 0) {n : Nat} : ∀ {x1 : Int32} {x2 : Int32} {s : zS}, zf96_99 a0 k64 n x1 x2 s = some s' → Ev K zM96 (99, [some (.ref a0), some (.int x1), some (.int x2), none], [], zmk lg s) 0 (.inl none) (zmk lg s') 0 := by
  induction n with
  | zero => intro x1 x2 s hF; rw [zf96_99] at hF; cases hF
  | succ n ih =>
    intro x1 x2 s hF
    rw [zf96_99] at hF
    refine Ev_p 1 (c' := (100, [some (.ref a0), some (.int x1), some (.int x2), none], [.int x2])) rfl ?_
    refine Ez_if (M := zM96) (b := x2 < 0) rfl rfl hF (fun _ hF => ?_) (fun _ hF => ?_)
    · refine Ev_p 2 (c' := (64, [some (.ref a0), some (.int (x1 + (-1))), some (.int x2), none], [])) rfl ?_
      refine Ev_w (L' := [some (.ref a0), some (.int (x1 + (-1))), none, none]) (zle_c (zle_c (zle_n (zle_c zle_0)))) ?_
      exact hk64 _ _ hF
    · refine Ev_p 3 (c' := (106, [some (.ref a0), some (.int x1), some (.int x2), none], [.int x2, .int x1, .ref a0])) rfl ?_
      refine Ez_ci (M := zM96) (As := [.ref a0, .int x1, .int x2]) (st' := []) (am_site_v (y := 97) (k := 3) (ci := 8) rfl rfl (zrcv rfl h0 rfl)) (Nat.le_of_ble_eq_true rfl) (Nat.le_of_ble_eq_true rfl) rfl rfl (fun _ _ hF => zf97_ok hK h0 hF) hF (fun v1 s2 hF => ?_)
      refine Ev_p 3 (c' := (112, [some (.ref a0), some (.int x1), some (.int x2), none], [.int x2, .int x1, .ref a0, .int v1])) rfl ?_
      refine Ez_ci (M := zM96) (As := [.ref a0, .int x1, .int x2]) (st' := [.int v1]) (am_site_v (y := 98) (k := 3) (ci := 8) rfl rfl (zrcv rfl h0 rfl)) (Nat.le_of_ble_eq_true rfl) (Nat.le_of_ble_eq_true rfl) rfl rfl (fun _ _ hF => zf98_ok hK h0 hF) hF (fun v3 s4 hF => ?_)
      refine Ev_p 0 (c' := (115, [some (.ref a0), some (.int x1), some (.int x2), none], [.int v3, .int v1])) rfl ?_
      refine Ez_ci (M := zM96) (As := [.int v1, .int v3]) (st' := []) (zsite_0 (y := 31) (k := 2) (ci := 99) rfl rfl) (Nat.le_of_ble_eq_true rfl) (Nat.le_of_ble_eq_true rfl) rfl rfl (fun _ _ hF => zf31_ok hK  hF) hF (fun v5 s6 hF => ?_)
      refine Ev_p 4 (c' := (122, [some (.ref a0), some (.int x1), some (.int x2), some (.int v5)], [.int x2, .int x1, .ref a0])) rfl ?_
      refine Ez_ci (M := zM96) (As := [.ref a0, .int x1, .int x2]) (st' := []) (am_site_v (y := 99) (k := 3) (ci := 8) rfl rfl (zrcv rfl h0 rfl)) (Nat.le_of_ble_eq_true rfl) (Nat.le_of_ble_eq_true rfl) rfl rfl (fun _ _ hF => zf99_ok hK h0 hF) hF (fun v7 s8 hF => ?_)
      refine Ev_p 0 (c' := (125, [some (.ref a0), some (.int x1), some (.int x2), some (.int v5)], [.int v7])) rfl ?_
      refine Ez_if (M := zM96) (b := v7 = 0) rfl rfl hF (fun _ hF => ?_) (fun _ hF => ?_)
      · refine Ev_p 0 (c' := (178, [some (.ref a0), some (.int x1), some (.int x2), some (.int v5)], [])) rfl ?_
        exact zf96_178_ok hK h0 hk64 (fun _ _ _ hF => ih hF) hF
      · refine Ev_p 1 (c' := (129, [some (.ref a0), some (.int x1), some (.int x2), some (.int v5)], [.ref a0])) rfl ?_
        refine Ez_gr (M := zM96) (ci := 8) (f := 9) (t := 104) rfl rfl h0 rfl ?_
        refine Ev_p 1 (c' := (133, [some (.ref a0), some (.int x1), some (.int x2), some (.int v5)], [.int x1, .ref (zrf a0 9)])) rfl ?_
        refine Ez_ar4 (M := zM96) rfl (zty (ci := 8) (f := 9) (t := 104) h0 rfl) hF (fun q9 hq9 hF => ?_)
        refine Ev_p 4 (c' := (138, [some (.ref a0), some (.int x1), some (.int x2), some (.int v5)], [.int x2, .int x1, .ref a0, .int x2, .ref q9])) rfl ?_
        refine Ez_ci (M := zM96) (As := [.ref a0, .int x1, .int x2]) (st' := [.int x2, .ref q9]) (am_site_v (y := 100) (k := 3) (ci := 8) rfl rfl (zrcv rfl h0 rfl)) (Nat.le_of_ble_eq_true rfl) (Nat.le_of_ble_eq_true rfl) rfl rfl (fun _ _ hF => zf100_ok hK h0 hF) hF (fun v10 s11 hF => ?_)
        refine Ev_p 1 (c' := (142, [some (.ref a0), some (.int x1), some (.int x2), some (.int v5)], [.ref a0, .int v10, .int x2, .ref q9])) rfl ?_
        refine Ez_gr (M := zM96) (ci := 8) (f := 10) (t := 104) rfl rfl h0 rfl ?_
        refine Ev_p 1 (c' := (146, [some (.ref a0), some (.int x1), some (.int x2), some (.int v5)], [.ref a0, .ref (zrf a0 10), .int v10, .int x2, .ref q9])) rfl ?_
        refine Ez_gr (M := zM96) (ci := 8) (f := 6) (t := 9) rfl rfl h0 rfl ?_
        refine Ev_p 0 (c' := (149, [some (.ref a0), some (.int x1), some (.int x2), some (.int v5)], [.ref (zrf a0 6), .ref (zrf a0 10), .int v10, .int x2, .ref q9])) rfl ?_
        refine Ez_gr (M := zM96) (ci := 9) (f := 1) (t := 100) rfl rfl (zty (ci := 8) (f := 6) (t := 9) h0 rfl) rfl ?_
        refine Ev_p 1 (c' := (153, [some (.ref a0), some (.int x1), some (.int x2), some (.int v5)], [.int x1, .ref (zrf (zrf a0 6) 1), .ref (zrf a0 10), .int v10, .int x2, .ref q9])) rfl ?_
        refine Ez_al (M := zM96) rfl (zty (ci := 9) (f := 1) (t := 100) (zty (ci := 8) (f := 6) (t := 9) h0 rfl) rfl) hF (fun v12 hF => ?_)
        refine Ev_p 0 (c' := (154, [some (.ref a0), some (.int x1), some (.int x2), some (.int v5)], [.int v12, .ref (zrf a0 10), .int v10, .int x2, .ref q9])) rfl ?_
        refine Ez_ar4 (M := zM96) rfl (zty (ci := 8) (f := 10) (t := 104) h0 rfl) hF (fun q13 hq13 hF => ?_)
        refine Ev_p 1 (c' := (156, [some (.ref a0), some (.int x1), some (.int x2), some (.int v5)], [.ref a0, .ref q13, .int v10, .int x2, .ref q9])) rfl ?_
        refine Ez_gr (M := zM96) (ci := 8) (f := 7) (t := 9) rfl rfl h0 rfl ?_
        refine Ev_p 0 (c' := (159, [some (.ref a0), some (.int x1), some (.int x2), some (.int v5)], [.ref (zrf a0 7), .ref q13, .int v10, .int x2, .ref q9])) rfl ?_
        refine Ez_gr (M := zM96) (ci := 9) (f := 1) (t := 100) rfl rfl (zty (ci := 8) (f := 7) (t := 9) h0 rfl) rfl ?_
        refine Ev_p 1 (c' := (163, [some (.ref a0), some (.int x1), some (.int x2), some (.int v5)], [.int x2, .ref (zrf (zrf a0 7) 1), .ref q13, .int v10, .int x2, .ref q9])) rfl ?_
        refine Ez_al (M := zM96) rfl (zty (ci := 9) (f := 1) (t := 100) (zty (ci := 8) (f := 7) (t := 9) h0 rfl) rfl) hF (fun v14 hF => ?_)
        refine Ev_p 0 (c' := (164, [some (.ref a0), some (.int x1), some (.int x2), some (.int v5)], [.int v14, .ref q13, .int v10, .int x2, .ref q9])) rfl ?_
        refine Ez_al (M := zM96) rfl hq13 hF (fun v15 hF => ?_)
        refine Ev_p 1 (c' := (166, [some (.ref a0), some (.int x1), some (.int x2), some (.int v5)], [.int (v10 + v15), .int x2, .ref q9])) rfl ?_
        refine Ez_as (M := zM96) rfl hq9 hF (fun s16 hF => ?_)
        refine Ev_p 4 (c' := (171, [some (.ref a0), some (.int x1), some (.int x2), some (.int v5)], [.int x2, .int x1, .ref a0, .int v5])) rfl ?_
        refine Ez_ci (M := zM96) (As := [.ref a0, .int x1, .int x2]) (st' := [.int v5]) (am_site_v (y := 102) (k := 3) (ci := 8) rfl rfl (zrcv rfl h0 rfl)) (Nat.le_of_ble_eq_true rfl) (Nat.le_of_ble_eq_true rfl) rfl rfl (fun _ _ hF => zf102_ok hK h0 hF) hF (fun v17 s18 hF => ?_)
        refine Ev_p 0 (c' := (174, [some (.ref a0), some (.int x1), some (.int x2), some (.int v5)], [.int v17, .int v5])) rfl ?_
        refine Ez_ci (M := zM96) (As := [.int v5, .int v17]) (st' := []) (zsite_0 (y := 31) (k := 2) (ci := 99) rfl rfl) (Nat.le_of_ble_eq_true rfl) (Nat.le_of_ble_eq_true rfl) rfl rfl (fun _ _ hF => zf31_ok hK  hF) hF (fun v19 s20 hF => ?_)
        refine Ev_p 1 (c' := (178, [some (.ref a0), some (.int x1), some (.int x2), some (.int v19)], [])) rfl ?_
        exact zf96_178_ok hK h0 hk64 (fun _ _ _ hF => ih hF) hF
noncomputable def zf96_64 (a0 : Nat)  : Nat → Int32 → zS → Option (zS)
  | 0, _, _ => none
  | n + 1, x1, s =>
    if x1 < 0 then
      some s
    else
      zar (zrf a0 10) x1 fun q1 =>
      zal s (zrf (zrf a0 6) 4) x1 fun v2 =>
      zas s q1 40 v2 fun s3 =>
      zgf s3 (zrf (zrf a0 7) 0) 6 fun v4 =>
      zf96_99 a0 (zf96_64 a0 n) zfz x1 (v4 - 1) s3
theorem zf96_64_ok {K : cx_K} (hK : Kok K) {lg : Nat → Int64} {s' : zS} {a0 : Nat} (h0 : zsh a0 = 8)   {n : Nat} : ∀ {x1 : Int32} {s : zS}, zf96_64 a0 n x1 s = some s' → Ev K zM96 (64, [some (.ref a0), some (.int x1), none, none], [], zmk lg s) 0 (.inl none) (zmk lg s') 0 := by
  induction n with
  | zero => intro x1 s hF; rw [zf96_64] at hF; cases hF
  | succ n ih =>
    intro x1 s hF
    rw [zf96_64] at hF
    refine Ev_p 1 (c' := (65, [some (.ref a0), some (.int x1), none, none], [.int x1])) rfl ?_
    refine Ez_if (M := zM96) (b := x1 < 0) rfl rfl hF (fun _ hF => ?_) (fun _ hF => ?_)
    · refine Ev_p 0 (c' := (199, [some (.ref a0), some (.int x1), none, none], [])) rfl ?_
      exact Ez_rv (M := zM96) rfl rfl hF
    · refine Ev_p 1 (c' := (69, [some (.ref a0), some (.int x1), none, none], [.ref a0])) rfl ?_
      refine Ez_gr (M := zM96) (ci := 8) (f := 10) (t := 104) rfl rfl h0 rfl ?_
      refine Ev_p 1 (c' := (73, [some (.ref a0), some (.int x1), none, none], [.int x1, .ref (zrf a0 10)])) rfl ?_
      refine Ez_ar4 (M := zM96) rfl (zty (ci := 8) (f := 10) (t := 104) h0 rfl) hF (fun q1 hq1 hF => ?_)
      refine Ev_p 2 (c' := (77, [some (.ref a0), some (.int x1), none, none], [.ref a0, .int 40, .ref q1])) rfl ?_
      refine Ez_gr (M := zM96) (ci := 8) (f := 6) (t := 9) rfl rfl h0 rfl ?_
      refine Ev_p 0 (c' := (80, [some (.ref a0), some (.int x1), none, none], [.ref (zrf a0 6), .int 40, .ref q1])) rfl ?_
      refine Ez_gr (M := zM96) (ci := 9) (f := 4) (t := 100) rfl rfl (zty (ci := 8) (f := 6) (t := 9) h0 rfl) rfl ?_
      refine Ev_p 1 (c' := (84, [some (.ref a0), some (.int x1), none, none], [.int x1, .ref (zrf (zrf a0 6) 4), .int 40, .ref q1])) rfl ?_
      refine Ez_al (M := zM96) rfl (zty (ci := 9) (f := 4) (t := 100) (zty (ci := 8) (f := 6) (t := 9) h0 rfl) rfl) hF (fun v2 hF => ?_)
      refine Ev_p 0 (c' := (85, [some (.ref a0), some (.int x1), none, none], [.int v2, .int 40, .ref q1])) rfl ?_
      refine Ez_as (M := zM96) rfl hq1 hF (fun s3 hF => ?_)
      refine Ev_p 1 (c' := (87, [some (.ref a0), some (.int x1), none, none], [.ref a0])) rfl ?_
      refine Ez_gr (M := zM96) (ci := 8) (f := 7) (t := 9) rfl rfl h0 rfl ?_
      refine Ev_p 0 (c' := (90, [some (.ref a0), some (.int x1), none, none], [.ref (zrf a0 7)])) rfl ?_
      refine Ez_gr (M := zM96) (ci := 9) (f := 0) (t := 2) rfl rfl (zty (ci := 8) (f := 7) (t := 9) h0 rfl) rfl ?_
      refine Ev_p 0 (c' := (93, [some (.ref a0), some (.int x1), none, none], [.ref (zrf (zrf a0 7) 0)])) rfl ?_
      refine Ez_gf (M := zM96) (ci := 2) (f := 6) rfl rfl (zty (ci := 9) (f := 0) (t := 2) (zty (ci := 8) (f := 7) (t := 9) h0 rfl) rfl) rfl hF (fun v4 hF => ?_)
      refine Ev_p 3 (c' := (99, [some (.ref a0), some (.int x1), some (.int (v4 - 1)), none], [])) rfl ?_
      exact zf96_99_ok hK h0 (fun _ _ hF => ih hF) hF
noncomputable def zf96_13 (a0 : Nat)  : Nat → Int32 → zS → Option (zS)
  | 0, _, _ => none
  | n + 1, x1, s =>
    zgf s (zrf (zrf a0 7) 0) 6 fun v1 =>
    if v1 ≤ x1 then
      zgf s (zrf (zrf a0 6) 0) 6 fun v2 =>
      zf96_64 a0 zfz (v2 - 1) s
    else
      zar (zrf a0 10) 40 fun q3 =>
      zal s (zrf (zrf a0 7) 4) x1 fun v4 =>
      zas s q3 x1 v4 fun s5 =>
      zf96_13 a0 n (x1 + 1) s5
theorem zf96_13_ok {K : cx_K} (hK : Kok K) {lg : Nat → Int64} {s' : zS} {a0 : Nat} (h0 : zsh a0 = 8)   {n : Nat} : ∀ {x1 : Int32} {s : zS}, zf96_13 a0 n x1 s = some s' → Ev K zM96 (13, [some (.ref a0), some (.int x1), none, none], [], zmk lg s) 0 (.inl none) (zmk lg s') 0 := by
  induction n with
  | zero => intro x1 s hF; rw [zf96_13] at hF; cases hF
  | succ n ih =>
    intro x1 s hF
    rw [zf96_13] at hF
    refine Ev_p 2 (c' := (15, [some (.ref a0), some (.int x1), none, none], [.ref a0, .int x1])) rfl ?_
    refine Ez_gr (M := zM96) (ci := 8) (f := 7) (t := 9) rfl rfl h0 rfl ?_
    refine Ev_p 0 (c' := (18, [some (.ref a0), some (.int x1), none, none], [.ref (zrf a0 7), .int x1])) rfl ?_
    refine Ez_gr (M := zM96) (ci := 9) (f := 0) (t := 2) rfl rfl (zty (ci := 8) (f := 7) (t := 9) h0 rfl) rfl ?_
    refine Ev_p 0 (c' := (21, [some (.ref a0), some (.int x1), none, none], [.ref (zrf (zrf a0 7) 0), .int x1])) rfl ?_
    refine Ez_gf (M := zM96) (ci := 2) (f := 6) rfl rfl (zty (ci := 9) (f := 0) (t := 2) (zty (ci := 8) (f := 7) (t := 9) h0 rfl) rfl) rfl hF (fun v1 hF => ?_)
    refine Ev_p 0 (c' := (24, [some (.ref a0), some (.int x1), none, none], [.int v1, .int x1])) rfl ?_
    refine Ez_if (M := zM96) (b := v1 ≤ x1) rfl rfl hF (fun _ hF => ?_) (fun _ hF => ?_)
    · refine Ev_p 1 (c' := (52, [some (.ref a0), some (.int x1), none, none], [.ref a0])) rfl ?_
      refine Ez_gr (M := zM96) (ci := 8) (f := 6) (t := 9) rfl rfl h0 rfl ?_
      refine Ev_p 0 (c' := (55, [some (.ref a0), some (.int x1), none, none], [.ref (zrf a0 6)])) rfl ?_
      refine Ez_gr (M := zM96) (ci := 9) (f := 0) (t := 2) rfl rfl (zty (ci := 8) (f := 6) (t := 9) h0 rfl) rfl ?_
      refine Ev_p 0 (c' := (58, [some (.ref a0), some (.int x1), none, none], [.ref (zrf (zrf a0 6) 0)])) rfl ?_
      refine Ez_gf (M := zM96) (ci := 2) (f := 6) rfl rfl (zty (ci := 9) (f := 0) (t := 2) (zty (ci := 8) (f := 6) (t := 9) h0 rfl) rfl) rfl hF (fun v2 hF => ?_)
      refine Ev_p 3 (c' := (64, [some (.ref a0), some (.int (v2 - 1)), none, none], [])) rfl ?_
      exact zf96_64_ok hK h0 hF
    · refine Ev_p 1 (c' := (28, [some (.ref a0), some (.int x1), none, none], [.ref a0])) rfl ?_
      refine Ez_gr (M := zM96) (ci := 8) (f := 10) (t := 104) rfl rfl h0 rfl ?_
      refine Ev_p 1 (c' := (33, [some (.ref a0), some (.int x1), none, none], [.int 40, .ref (zrf a0 10)])) rfl ?_
      refine Ez_ar4 (M := zM96) rfl (zty (ci := 8) (f := 10) (t := 104) h0 rfl) hF (fun q3 hq3 hF => ?_)
      refine Ev_p 2 (c' := (36, [some (.ref a0), some (.int x1), none, none], [.ref a0, .int x1, .ref q3])) rfl ?_
      refine Ez_gr (M := zM96) (ci := 8) (f := 7) (t := 9) rfl rfl h0 rfl ?_
      refine Ev_p 0 (c' := (39, [some (.ref a0), some (.int x1), none, none], [.ref (zrf a0 7), .int x1, .ref q3])) rfl ?_
      refine Ez_gr (M := zM96) (ci := 9) (f := 4) (t := 100) rfl rfl (zty (ci := 8) (f := 7) (t := 9) h0 rfl) rfl ?_
      refine Ev_p 1 (c' := (43, [some (.ref a0), some (.int x1), none, none], [.int x1, .ref (zrf (zrf a0 7) 4), .int x1, .ref q3])) rfl ?_
      refine Ez_al (M := zM96) rfl (zty (ci := 9) (f := 4) (t := 100) (zty (ci := 8) (f := 7) (t := 9) h0 rfl) rfl) hF (fun v4 hF => ?_)
      refine Ev_p 0 (c' := (44, [some (.ref a0), some (.int x1), none, none], [.int v4, .int x1, .ref q3])) rfl ?_
      refine Ez_as (M := zM96) rfl hq3 hF (fun s5 hF => ?_)
      refine Ev_p 2 (c' := (13, [some (.ref a0), some (.int (x1 + 1)), none, none], [])) rfl ?_
      exact ih hF
noncomputable def zf96 (a0 : Nat) (s : zS) : Option (zS) :=
  zar (zrf a0 10) 40 fun q1 =>
  zas s q1 40 0 fun s2 =>
  zf96_13 a0 zfz 0 s2
theorem zf96_ok {K : cx_K} (hK : Kok K) {lg : Nat → Int64} {s' : zS} {a0 : Nat} (h0 : zsh a0 = 8)  {s : zS} (hF : zf96 a0 s = some s') : Ct K 96 [.ref a0] (zmk lg s) (.inl none) (zmk lg s') 0 := by
  unfold zf96 at hF
  refine Ct_of hK nd_ok96 (mL := 4) (rt := none) rfl rfl (Nat.le_of_ble_eq_true rfl) zlen_le ?_
  refine Ev_p 1 (c' := (1, [some (.ref a0), none, none, none], [.ref a0])) rfl ?_
  refine Ez_gr (M := zM96) (ci := 8) (f := 10) (t := 104) rfl rfl h0 rfl ?_
  refine Ev_p 1 (c' := (6, [some (.ref a0), none, none, none], [.int 40, .ref (zrf a0 10)])) rfl ?_
  refine Ez_ar4 (M := zM96) rfl (zty (ci := 8) (f := 10) (t := 104) h0 rfl) hF (fun q1 hq1 hF => ?_)
  refine Ev_p 2 (c' := (10, [some (.ref a0), none, none, none], [.int 0, .int 40, .ref q1])) rfl ?_
  refine Ez_as (M := zM96) rfl hq1 hF (fun s2 hF => ?_)
  refine Ev_p 2 (c' := (13, [some (.ref a0), some (.int 0), none, none], [])) rfl ?_
  exact zf96_13_ok hK h0 hF
-- PaperParcels$Script.addStep(IIII)V
abbrev zM105 : ev_M := (am_in nd_i105, am_fl nd_f8, am_ct nd_k8, am_sl nd_ml nd_s105, fun _ => none, none)
noncomputable def zf105 (a0 : Nat) (x1 : Int32) (x2 : Int32) (x3 : Int32) (x4 : Int32) (s : zS) : Option (zS) :=
  zgf s a0 1 fun v1 =>
  if 80 ≤ v1 then
    some s
  else
    zgf s a0 1 fun v2 =>
    zas s (zrf a0 2) v2 x1 fun s3 =>
    zgf s3 a0 1 fun v4 =>
    zas s3 (zrf a0 3) v4 x2 fun s5 =>
    zgf s5 a0 1 fun v6 =>
    zas s5 (zrf a0 4) v6 x3 fun s7 =>
    zgf s7 a0 1 fun v8 =>
    zas s7 (zrf a0 5) v8 x4 fun s9 =>
    zgf s9 a0 1 fun v10 =>
    zpf s9 a0 1 (v10 + 1) fun s11 =>
    some s11
theorem zf105_ok {K : cx_K} (hK : Kok K) {lg : Nat → Int64} {s' : zS} {a0 : Nat} (h0 : zsh a0 = 8) {x1 : Int32} {x2 : Int32} {x3 : Int32} {x4 : Int32} {s : zS} (hF : zf105 a0 x1 x2 x3 x4 s = some s') : Ct K 105 [.ref a0, .int x1, .int x2, .int x3, .int x4] (zmk lg s) (.inl none) (zmk lg s') 0 := by
  unfold zf105 at hF
  refine Ct_of hK nd_ok105 (mL := 5) (rt := none) rfl rfl (Nat.le_of_ble_eq_true rfl) zlen_le ?_
  refine Ev_p 1 (c' := (1, [some (.ref a0), some (.int x1), some (.int x2), some (.int x3), some (.int x4)], [.ref a0])) rfl ?_
  refine Ez_gf (M := zM105) (ci := 8) (f := 1) rfl rfl h0 rfl hF (fun v1 hF => ?_)
  refine Ev_p 1 (c' := (6, [some (.ref a0), some (.int x1), some (.int x2), some (.int x3), some (.int x4)], [.int 80, .int v1])) rfl ?_
  refine Ez_if (M := zM105) (b := 80 ≤ v1) rfl rfl hF (fun _ hF => ?_) (fun _ hF => ?_)
  · refine Ev_p 0 (c' := (60, [some (.ref a0), some (.int x1), some (.int x2), some (.int x3), some (.int x4)], [])) rfl ?_
    exact Ez_rv (M := zM105) rfl rfl hF
  · refine Ev_p 1 (c' := (10, [some (.ref a0), some (.int x1), some (.int x2), some (.int x3), some (.int x4)], [.ref a0])) rfl ?_
    refine Ez_gr (M := zM105) (ci := 8) (f := 2) (t := 100) rfl rfl h0 rfl ?_
    refine Ev_p 1 (c' := (14, [some (.ref a0), some (.int x1), some (.int x2), some (.int x3), some (.int x4)], [.ref a0, .ref (zrf a0 2)])) rfl ?_
    refine Ez_gf (M := zM105) (ci := 8) (f := 1) rfl rfl h0 rfl hF (fun v2 hF => ?_)
    refine Ev_p 1 (c' := (18, [some (.ref a0), some (.int x1), some (.int x2), some (.int x3), some (.int x4)], [.int x1, .int v2, .ref (zrf a0 2)])) rfl ?_
    refine Ez_as (M := zM105) rfl (zty (ci := 8) (f := 2) (t := 100) h0 rfl) hF (fun s3 hF => ?_)
    refine Ev_p 1 (c' := (20, [some (.ref a0), some (.int x1), some (.int x2), some (.int x3), some (.int x4)], [.ref a0])) rfl ?_
    refine Ez_gr (M := zM105) (ci := 8) (f := 3) (t := 100) rfl rfl h0 rfl ?_
    refine Ev_p 1 (c' := (24, [some (.ref a0), some (.int x1), some (.int x2), some (.int x3), some (.int x4)], [.ref a0, .ref (zrf a0 3)])) rfl ?_
    refine Ez_gf (M := zM105) (ci := 8) (f := 1) rfl rfl h0 rfl hF (fun v4 hF => ?_)
    refine Ev_p 1 (c' := (28, [some (.ref a0), some (.int x1), some (.int x2), some (.int x3), some (.int x4)], [.int x2, .int v4, .ref (zrf a0 3)])) rfl ?_
    refine Ez_as (M := zM105) rfl (zty (ci := 8) (f := 3) (t := 100) h0 rfl) hF (fun s5 hF => ?_)
    refine Ev_p 1 (c' := (30, [some (.ref a0), some (.int x1), some (.int x2), some (.int x3), some (.int x4)], [.ref a0])) rfl ?_
    refine Ez_gr (M := zM105) (ci := 8) (f := 4) (t := 100) rfl rfl h0 rfl ?_
    refine Ev_p 1 (c' := (34, [some (.ref a0), some (.int x1), some (.int x2), some (.int x3), some (.int x4)], [.ref a0, .ref (zrf a0 4)])) rfl ?_
    refine Ez_gf (M := zM105) (ci := 8) (f := 1) rfl rfl h0 rfl hF (fun v6 hF => ?_)
    refine Ev_p 1 (c' := (38, [some (.ref a0), some (.int x1), some (.int x2), some (.int x3), some (.int x4)], [.int x3, .int v6, .ref (zrf a0 4)])) rfl ?_
    refine Ez_as (M := zM105) rfl (zty (ci := 8) (f := 4) (t := 100) h0 rfl) hF (fun s7 hF => ?_)
    refine Ev_p 1 (c' := (40, [some (.ref a0), some (.int x1), some (.int x2), some (.int x3), some (.int x4)], [.ref a0])) rfl ?_
    refine Ez_gr (M := zM105) (ci := 8) (f := 5) (t := 100) rfl rfl h0 rfl ?_
    refine Ev_p 1 (c' := (44, [some (.ref a0), some (.int x1), some (.int x2), some (.int x3), some (.int x4)], [.ref a0, .ref (zrf a0 5)])) rfl ?_
    refine Ez_gf (M := zM105) (ci := 8) (f := 1) rfl rfl h0 rfl hF (fun v8 hF => ?_)
    refine Ev_p 1 (c' := (49, [some (.ref a0), some (.int x1), some (.int x2), some (.int x3), some (.int x4)], [.int x4, .int v8, .ref (zrf a0 5)])) rfl ?_
    refine Ez_as (M := zM105) rfl (zty (ci := 8) (f := 5) (t := 100) h0 rfl) hF (fun s9 hF => ?_)
    refine Ev_p 2 (c' := (52, [some (.ref a0), some (.int x1), some (.int x2), some (.int x3), some (.int x4)], [.ref a0, .ref a0])) rfl ?_
    refine Ez_gf (M := zM105) (ci := 8) (f := 1) rfl rfl h0 rfl hF (fun v10 hF => ?_)
    refine Ev_p 2 (c' := (57, [some (.ref a0), some (.int x1), some (.int x2), some (.int x3), some (.int x4)], [.int (v10 + 1), .ref a0])) rfl ?_
    refine Ez_pf (M := zM105) (ci := 8) (f := 1) rfl rfl h0 rfl hF (fun s11 hF => ?_)
    refine Ev_p 0 (c' := (60, [some (.ref a0), some (.int x1), some (.int x2), some (.int x3), some (.int x4)], [])) rfl ?_
    exact Ez_rv (M := zM105) rfl rfl hF

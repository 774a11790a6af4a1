/-! The methods as functions, and that the machine goes so (printed by wip/gen/fgen.py). -/
set_option maxRecDepth 100000
set_option linter.unusedVariables false
-- PaperParcelsModel.keep(I)V
abbrev zM226 : ev_M := (am_in nd_i226, am_fl nd_f11, am_ct nd_k11, am_sl nd_ml nd_s226, fun _ => none, none)
noncomputable def zf226_36 (a0 : Nat)  (x1 : Int32) (t0 : Int32) (s : zS) : Option (zS) :=
  zal s (zrf a0 49) x1 fun v1 =>
  if 0 ≤ v1 then
    zal s (zrf a0 23) x1 fun v2 =>
    zbv (zf190 a0 2 v2 t0 s) fun s4 =>
    zal s4 (zrf a0 22) 2 fun v5 =>
    zal s4 (zrf a0 49) x1 fun v6 =>
    zbv (zf199 a0 2 (v5 - 1) 1 v6 s4) fun s8 =>
    some s8
  else
    zbv (zf198 a0 2 0 x1 t0 s) fun s10 =>
    some s10
theorem zf226_36_ok {K : cx_K} (hK : Kok K) {lg : Nat → Int64} {s' : zS} {a0 : Nat} (h0 : zsh a0 = 11)   {x1 : Int32} {t0 : Int32}  {s : zS} (hF : zf226_36 a0 x1 t0 s = some s') : Ev K zM226 (36, [some (.ref a0), some (.int x1), none], [.int t0], zmk lg s) 0 (.inl none) (zmk lg s') 0 := by
  unfold zf226_36 at hF
  refine Ev_p 2 (c' := (38, [some (.ref a0), some (.int x1), some (.int t0)], [.ref a0])) rfl ?_
  refine Ez_gr (M := zM226) (ci := 11) (f := 49) (t := 100) rfl rfl h0 rfl ?_
  refine Ev_p 1 (c' := (42, [some (.ref a0), some (.int x1), some (.int t0)], [.int x1, .ref (zrf a0 49)])) rfl ?_
  refine Ez_al (M := zM226) rfl (zty (ci := 11) (f := 49) (t := 100) h0 rfl) hF (fun v1 hF => ?_)
  refine Ev_p 0 (c' := (43, [some (.ref a0), some (.int x1), some (.int t0)], [.int v1])) rfl ?_
  refine Ez_if (M := zM226) (b := 0 ≤ v1) rfl rfl hF (fun _ hF => ?_) (fun _ hF => ?_)
  · refine Ev_p 3 (c' := (60, [some (.ref a0), some (.int x1), some (.int t0)], [.ref a0, .int 2, .ref a0])) rfl ?_
    refine Ez_gr (M := zM226) (ci := 11) (f := 23) (t := 100) rfl rfl h0 rfl ?_
    refine Ev_p 1 (c' := (64, [some (.ref a0), some (.int x1), some (.int t0)], [.int x1, .ref (zrf a0 23), .int 2, .ref a0])) rfl ?_
    refine Ez_al (M := zM226) rfl (zty (ci := 11) (f := 23) (t := 100) h0 rfl) hF (fun v2 hF => ?_)
    refine Ev_p 1 (c' := (66, [some (.ref a0), some (.int x1), some (.int t0)], [.int t0, .int v2, .int 2, .ref a0])) rfl ?_
    refine Ez_cv (M := zM226) (As := [.ref a0, .int 2, .int v2, .int t0]) (st' := []) (am_site_v (y := 190) (k := 4) (ci := 11) rfl rfl (zrcv rfl h0 rfl)) (Nat.le_of_ble_eq_true rfl) (Nat.le_of_ble_eq_true rfl) rfl rfl (fun _ hF => zf190_ok hK h0 hF) hF (fun s4 hF => ?_)
    refine Ev_p 3 (c' := (72, [some (.ref a0), some (.int x1), some (.int t0)], [.ref a0, .int 2, .ref a0])) rfl ?_
    refine Ez_gr (M := zM226) (ci := 11) (f := 22) (t := 100) rfl rfl h0 rfl ?_
    refine Ev_p 1 (c' := (76, [some (.ref a0), some (.int x1), some (.int t0)], [.int 2, .ref (zrf a0 22), .int 2, .ref a0])) rfl ?_
    refine Ez_al (M := zM226) rfl (zty (ci := 11) (f := 22) (t := 100) h0 rfl) hF (fun v5 hF => ?_)
    refine Ev_p 4 (c' := (81, [some (.ref a0), some (.int x1), some (.int t0)], [.ref a0, .int 1, .int (v5 - 1), .int 2, .ref a0])) rfl ?_
    refine Ez_gr (M := zM226) (ci := 11) (f := 49) (t := 100) rfl rfl h0 rfl ?_
    refine Ev_p 1 (c' := (85, [some (.ref a0), some (.int x1), some (.int t0)], [.int x1, .ref (zrf a0 49), .int 1, .int (v5 - 1), .int 2, .ref a0])) rfl ?_
    refine Ez_al (M := zM226) rfl (zty (ci := 11) (f := 49) (t := 100) h0 rfl) hF (fun v6 hF => ?_)
    refine Ev_p 0 (c' := (86, [some (.ref a0), some (.int x1), some (.int t0)], [.int v6, .int 1, .int (v5 - 1), .int 2, .ref a0])) rfl ?_
    refine Ez_cv (M := zM226) (As := [.ref a0, .int 2, .int (v5 - 1), .int 1, .int v6]) (st' := []) (am_site_v (y := 199) (k := 5) (ci := 11) rfl rfl (zrcv rfl h0 rfl)) (Nat.le_of_ble_eq_true rfl) (Nat.le_of_ble_eq_true rfl) rfl rfl (fun _ hF => zf199_ok hK h0 hF) hF (fun s8 hF => ?_)
    refine Ev_p 0 (c' := (89, [some (.ref a0), some (.int x1), some (.int t0)], [])) rfl ?_
    exact Ez_rv (M := zM226) rfl rfl hF
  · refine Ev_p 5 (c' := (51, [some (.ref a0), some (.int x1), some (.int t0)], [.int t0, .int x1, .int 0, .int 2, .ref a0])) rfl ?_
    refine Ez_cv (M := zM226) (As := [.ref a0, .int 2, .int 0, .int x1, .int t0]) (st' := []) (am_site_v (y := 198) (k := 5) (ci := 11) rfl rfl (zrcv rfl h0 rfl)) (Nat.le_of_ble_eq_true rfl) (Nat.le_of_ble_eq_true rfl) rfl rfl (fun _ hF => zf198_ok hK h0 hF) hF (fun s10 hF => ?_)
    refine Ev_p 1 (c' := (89, [some (.ref a0), some (.int x1), some (.int t0)], [])) rfl ?_
    exact Ez_rv (M := zM226) rfl rfl hF
noncomputable def zf226 (a0 : Nat) (x1 : Int32) (s : zS) : Option (zS) :=
  zal s (zrf a0 22) 2 fun v1 =>
  zas s (zrf a0 50) x1 v1 fun s2 =>
  zal s2 (zrf a0 24) x1 fun v3 =>
  if 0 ≤ v3 then
    zal s2 (zrf a0 24) x1 fun v4 =>
    zal s2 (zrf a0 50) v4 fun v5 =>
    zf226_36 a0 x1 v5 s2
  else
    zf226_36 a0 x1 (-1) s2
theorem zf226_ok {K : cx_K} (hK : Kok K) {lg : Nat → Int64} {s' : zS} {a0 : Nat} (h0 : zsh a0 = 11) {x1 : Int32} {s : zS} (hF : zf226 a0 x1 s = some s') : Ct K 226 [.ref a0, .int x1] (zmk lg s) (.inl none) (zmk lg s') 0 := by
  unfold zf226 at hF
  refine Ct_of hK nd_ok226 (mL := 3) (rt := none) rfl rfl (Nat.le_of_ble_eq_true rfl) zlen_le ?_
  refine Ev_p 1 (c' := (1, [some (.ref a0), some (.int x1), none], [.ref a0])) rfl ?_
  refine Ez_gr (M := zM226) (ci := 11) (f := 50) (t := 100) rfl rfl h0 rfl ?_
  refine Ev_p 2 (c' := (6, [some (.ref a0), some (.int x1), none], [.ref a0, .int x1, .ref (zrf a0 50)])) rfl ?_
  refine Ez_gr (M := zM226) (ci := 11) (f := 22) (t := 100) rfl rfl h0 rfl ?_
  refine Ev_p 1 (c' := (10, [some (.ref a0), some (.int x1), none], [.int 2, .ref (zrf a0 22), .int x1, .ref (zrf a0 50)])) rfl ?_
  refine Ez_al (M := zM226) rfl (zty (ci := 11) (f := 22) (t := 100) h0 rfl) hF (fun v1 hF => ?_)
  refine Ev_p 0 (c' := (11, [some (.ref a0), some (.int x1), none], [.int v1, .int x1, .ref (zrf a0 50)])) rfl ?_
  refine Ez_as (M := zM226) rfl (zty (ci := 11) (f := 50) (t := 100) h0 rfl) hF (fun s2 hF => ?_)
  refine Ev_p 1 (c' := (13, [some (.ref a0), some (.int x1), none], [.ref a0])) rfl ?_
  refine Ez_gr (M := zM226) (ci := 11) (f := 24) (t := 100) rfl rfl h0 rfl ?_
  refine Ev_p 1 (c' := (17, [some (.ref a0), some (.int x1), none], [.int x1, .ref (zrf a0 24)])) rfl ?_
  refine Ez_al (M := zM226) rfl (zty (ci := 11) (f := 24) (t := 100) h0 rfl) hF (fun v3 hF => ?_)
  refine Ev_p 0 (c' := (18, [some (.ref a0), some (.int x1), none], [.int v3])) rfl ?_
  refine Ez_if (M := zM226) (b := 0 ≤ v3) rfl rfl hF (fun _ hF => ?_) (fun _ hF => ?_)
  · refine Ev_p 1 (c' := (26, [some (.ref a0), some (.int x1), none], [.ref a0])) rfl ?_
    refine Ez_gr (M := zM226) (ci := 11) (f := 50) (t := 100) rfl rfl h0 rfl ?_
    refine Ev_p 1 (c' := (30, [some (.ref a0), some (.int x1), none], [.ref a0, .ref (zrf a0 50)])) rfl ?_
    refine Ez_gr (M := zM226) (ci := 11) (f := 24) (t := 100) rfl rfl h0 rfl ?_
    refine Ev_p 1 (c' := (34, [some (.ref a0), some (.int x1), none], [.int x1, .ref (zrf a0 24), .ref (zrf a0 50)])) rfl ?_
    refine Ez_al (M := zM226) rfl (zty (ci := 11) (f := 24) (t := 100) h0 rfl) hF (fun v4 hF => ?_)
    refine Ev_p 0 (c' := (35, [some (.ref a0), some (.int x1), none], [.int v4, .ref (zrf a0 50)])) rfl ?_
    refine Ez_al (M := zM226) rfl (zty (ci := 11) (f := 50) (t := 100) h0 rfl) hF (fun v5 hF => ?_)
    refine Ev_p 0 (c' := (36, [some (.ref a0), some (.int x1), none], [.int v5])) rfl ?_
    exact zf226_36_ok hK h0 hF
  · refine Ev_p 2 (c' := (36, [some (.ref a0), some (.int x1), none], [.int (-1)])) rfl ?_
    exact zf226_36_ok hK h0 hF
-- PaperParcelsModel.apply(I)I
abbrev zM222 : ev_M := (am_in nd_i222, am_fl nd_f11, am_ct nd_k11, am_sl nd_ml nd_s222, fun _ => none, some .int)
noncomputable def zf222_156 (a0 : Nat) (k62 : Int32 → Int32 → zS → Option (Int32 × zS)) (x1 : Int32) (x2 : Int32) (s : zS) : Option (Int32 × zS) :=
  zal s (zrf a0 48) x2 fun v1 =>
  if ¬ v1 = 0 then
    k62 x1 (x2 + 1) s
  else
    zbv (zf226 a0 x2 s) fun s3 =>
    k62 x1 (x2 + 1) s3
theorem zf222_156_ok {K : cx_K} (hK : Kok K) {lg : Nat → Int64} {v : Int32} {s' : zS} {a0 : Nat} (h0 : zsh a0 = 11) {k62 : Int32 → Int32 → zS → Option (Int32 × zS)} (hk62 : ∀ x1 x2 s, k62 x1 x2 s = some (v, s') → Ev K zM222 (62, [some (.ref a0), some (.int x1), some (.int x2), none], [], zmk lg s) 0 (.inl (some (.int v))) (zmk lg s') 0) {x1 : Int32} {x2 : Int32}  {s : zS} (hF : zf222_156 a0 k62 x1 x2 s = some (v, s')) : Ev K zM222 (156, [some (.ref a0), some (.int x1), some (.int x2), none], [], zmk lg s) 0 (.inl (some (.int v))) (zmk lg s') 0 := by
  unfold zf222_156 at hF
  refine Ev_p 1 (c' := (157, [some (.ref a0), some (.int x1), some (.int x2), none], [.ref a0])) rfl ?_
  refine Ez_gr (M := zM222) (ci := 11) (f := 48) (t := 101) rfl rfl h0 rfl ?_
  refine Ev_p 1 (c' := (161, [some (.ref a0), some (.int x1), some (.int x2), none], [.int x2, .ref (zrf a0 48)])) rfl ?_
  refine Ez_bl (M := zM222) rfl (zty (ci := 11) (f := 48) (t := 101) h0 rfl) hF (fun v1 hF => ?_)
  refine Ev_p 0 (c' := (162, [some (.ref a0), some (.int x1), some (.int x2), none], [.int v1])) rfl ?_
  refine Ez_if (M := zM222) (b := ¬ v1 = 0) rfl rfl hF (fun _ hF => ?_) (fun _ hF => ?_)
  · refine Ev_p 2 (c' := (62, [some (.ref a0), some (.int x1), some (.int (x2 + 1)), none], [])) rfl ?_
    exact hk62 _ _ _ hF
  · refine Ev_p 2 (c' := (167, [some (.ref a0), some (.int x1), some (.int x2), none], [.int x2, .ref a0])) rfl ?_
    refine Ez_cv (M := zM222) (As := [.ref a0, .int x2]) (st' := []) (am_site_v (y := 226) (k := 2) (ci := 11) rfl rfl (zrcv rfl h0 rfl)) (Nat.le_of_ble_eq_true rfl) (Nat.le_of_ble_eq_true rfl) rfl rfl (fun _ hF => zf226_ok hK h0 hF) hF (fun s3 hF => ?_)
    refine Ev_p 2 (c' := (62, [some (.ref a0), some (.int x1), some (.int (x2 + 1)), none], [])) rfl ?_
    exact hk62 _ _ _ hF
noncomputable def zf222_116 (a0 : Nat) (k62 : Int32 → Int32 → zS → Option (Int32 × zS)) (x1 : Int32) (x2 : Int32) (s : zS) : Option (Int32 × zS) :=
  zal s (zrf a0 22) 0 fun v1 =>
  if v1 ≤ x2 then
    k62 x1 (x2 + 1) s
  else
    if x2 ≤ 0 then
      zf222_156 a0 k62 x1 x2 s
    else
      zal s (zrf a0 24) x2 fun v2 =>
      zal s (zrf a0 48) v2 fun v3 =>
      if ¬ v3 = 0 then
        zf222_156 a0 k62 x1 x2 s
      else
        zal s (zrf a0 24) x2 fun v4 =>
        zbv (zf225 a0 v4 x2 x1 s) fun s6 =>
        zf222_156 a0 k62 x1 x2 s6
theorem zf222_116_ok {K : cx_K} (hK : Kok K) {lg : Nat → Int64} {v : Int32} {s' : zS} {a0 : Nat} (h0 : zsh a0 = 11) {k62 : Int32 → Int32 → zS → Option (Int32 × zS)} (hk62 : ∀ x1 x2 s, k62 x1 x2 s = some (v, s') → Ev K zM222 (62, [some (.ref a0), some (.int x1), some (.int x2), none], [], zmk lg s) 0 (.inl (some (.int v))) (zmk lg s') 0) {x1 : Int32} {x2 : Int32}  {s : zS} (hF : zf222_116 a0 k62 x1 x2 s = some (v, s')) : Ev K zM222 (116, [some (.ref a0), some (.int x1), some (.int x2), none], [], zmk lg s) 0 (.inl (some (.int v))) (zmk lg s') 0 := by
  unfold zf222_116 at hF
  refine Ev_p 2 (c' := (118, [some (.ref a0), some (.int x1), some (.int x2), none], [.ref a0, .int x2])) rfl ?_
  refine Ez_gr (M := zM222) (ci := 11) (f := 22) (t := 100) rfl rfl h0 rfl ?_
  refine Ev_p 1 (c' := (122, [some (.ref a0), some (.int x1), some (.int x2), none], [.int 0, .ref (zrf a0 22), .int x2])) rfl ?_
  refine Ez_al (M := zM222) rfl (zty (ci := 11) (f := 22) (t := 100) h0 rfl) hF (fun v1 hF => ?_)
  refine Ev_p 0 (c' := (123, [some (.ref a0), some (.int x1), some (.int x2), none], [.int v1, .int x2])) rfl ?_
  refine Ez_if (M := zM222) (b := v1 ≤ x2) rfl rfl hF (fun _ hF => ?_) (fun _ hF => ?_)
  · refine Ev_p 2 (c' := (62, [some (.ref a0), some (.int x1), some (.int (x2 + 1)), none], [])) rfl ?_
    exact hk62 _ _ _ hF
  · refine Ev_p 1 (c' := (127, [some (.ref a0), some (.int x1), some (.int x2), none], [.int x2])) rfl ?_
    refine Ez_if (M := zM222) (b := x2 ≤ 0) rfl rfl hF (fun _ hF => ?_) (fun _ hF => ?_)
    · refine Ev_p 0 (c' := (156, [some (.ref a0), some (.int x1), some (.int x2), none], [])) rfl ?_
      exact zf222_156_ok hK h0 hk62 hF
    · refine Ev_p 1 (c' := (131, [some (.ref a0), some (.int x1), some (.int x2), none], [.ref a0])) rfl ?_
      refine Ez_gr (M := zM222) (ci := 11) (f := 48) (t := 101) rfl rfl h0 rfl ?_
      refine Ev_p 1 (c' := (135, [some (.ref a0), some (.int x1), some (.int x2), none], [.ref a0, .ref (zrf a0 48)])) rfl ?_
      refine Ez_gr (M := zM222) (ci := 11) (f := 24) (t := 100) rfl rfl h0 rfl ?_
      refine Ev_p 1 (c' := (139, [some (.ref a0), some (.int x1), some (.int x2), none], [.int x2, .ref (zrf a0 24), .ref (zrf a0 48)])) rfl ?_
      refine Ez_al (M := zM222) rfl (zty (ci := 11) (f := 24) (t := 100) h0 rfl) hF (fun v2 hF => ?_)
      refine Ev_p 0 (c' := (140, [some (.ref a0), some (.int x1), some (.int x2), none], [.int v2, .ref (zrf a0 48)])) rfl ?_
      refine Ez_bl (M := zM222) rfl (zty (ci := 11) (f := 48) (t := 101) h0 rfl) hF (fun v3 hF => ?_)
      refine Ev_p 0 (c' := (141, [some (.ref a0), some (.int x1), some (.int x2), none], [.int v3])) rfl ?_
      refine Ez_if (M := zM222) (b := ¬ v3 = 0) rfl rfl hF (fun _ hF => ?_) (fun _ hF => ?_)
      · refine Ev_p 0 (c' := (156, [some (.ref a0), some (.int x1), some (.int x2), none], [])) rfl ?_
        exact zf222_156_ok hK h0 hk62 hF
      · refine Ev_p 2 (c' := (146, [some (.ref a0), some (.int x1), some (.int x2), none], [.ref a0, .ref a0])) rfl ?_
        refine Ez_gr (M := zM222) (ci := 11) (f := 24) (t := 100) rfl rfl h0 rfl ?_
        refine Ev_p 1 (c' := (150, [some (.ref a0), some (.int x1), some (.int x2), none], [.int x2, .ref (zrf a0 24), .ref a0])) rfl ?_
        refine Ez_al (M := zM222) rfl (zty (ci := 11) (f := 24) (t := 100) h0 rfl) hF (fun v4 hF => ?_)
        refine Ev_p 2 (c' := (153, [some (.ref a0), some (.int x1), some (.int x2), none], [.int x1, .int x2, .int v4, .ref a0])) rfl ?_
        refine Ez_cv (M := zM222) (As := [.ref a0, .int v4, .int x2, .int x1]) (st' := []) (am_site_v (y := 225) (k := 4) (ci := 11) rfl rfl (zrcv rfl h0 rfl)) (Nat.le_of_ble_eq_true rfl) (Nat.le_of_ble_eq_true rfl) rfl rfl (fun _ hF => zf225_ok hK h0 hF) hF (fun s6 hF => ?_)
        refine Ev_p 0 (c' := (156, [some (.ref a0), some (.int x1), some (.int x2), none], [])) rfl ?_
        exact zf222_156_ok hK h0 hk62 hF
noncomputable def zf222_76 (a0 : Nat) (k62 : Int32 → Int32 → zS → Option (Int32 × zS)) : Nat → Int32 → Int32 → Int32 → zS → Option (Int32 × zS)
  | 0, _, _, _, _ => none
  | n + 1, x1, x2, x3, s =>
    if x3 < 0 then
      zf222_116 a0 k62 x1 x2 s
    else
      zbi (zf224 a0 0 x3 s) fun v1 s2 =>
      if ¬ v1 = x2 then
        zf222_116 a0 k62 x1 x2 s2
      else
        zal s2 (zrf a0 48) x3 fun v3 =>
        if ¬ v3 = 0 then
          zal s2 (zrf a0 24) x3 fun v4 =>
          zf222_76 a0 k62 n x1 x2 v4 s2
        else
          zbv (zf225 a0 x3 (-1) x1 s2) fun s6 =>
          zal s6 (zrf a0 24) x3 fun v7 =>
          zf222_76 a0 k62 n x1 x2 v7 s6
theorem zf222_76_ok {K : cx_K} (hK : Kok K) {lg : Nat → Int64} {v : Int32} {s' : zS} {a0 : Nat} (h0 : zsh a0 = 11) {k62 : Int32 → Int32 → zS → Option (Int32 × zS)} (hk62 : ∀ x1 x2 s, k62 x1 x2 s = some (v, s') → Ev K zM222 (62, [some (.ref a0), some (.int x1), some (.int x2), none], [], zmk lg s) 0 (.inl (some (.int v))) (zmk lg s') 0) {n : Nat} : ∀ {x1 : Int32} {x2 : Int32} {x3 : Int32} {s : zS}, zf222_76 a0 k62 n x1 x2 x3 s = some (v, s') → Ev K zM222 (76, [some (.ref a0), some (.int x1), some (.int x2), some (.int x3)], [], zmk lg s) 0 (.inl (some (.int v))) (zmk lg s') 0 := by
  induction n with
  | zero => intro x1 x2 x3 s hF; rw [zf222_76] at hF; cases hF
  | succ n ih =>
    intro x1 x2 x3 s hF
    rw [zf222_76] at hF
    refine Ev_p 1 (c' := (77, [some (.ref a0), some (.int x1), some (.int x2), some (.int x3)], [.int x3])) rfl ?_
    refine Ez_if (M := zM222) (b := x3 < 0) rfl rfl hF (fun _ hF => ?_) (fun _ hF => ?_)
    · refine Ev_p 0 (c' := (116, [some (.ref a0), some (.int x1), some (.int x2), some (.int x3)], [])) rfl ?_
      refine Ev_w (L' := [some (.ref a0), some (.int x1), some (.int x2), none]) (zle_c (zle_c (zle_c (zle_n zle_0)))) ?_
      exact zf222_116_ok hK h0 hk62 hF
    · refine Ev_p 3 (c' := (83, [some (.ref a0), some (.int x1), some (.int x2), some (.int x3)], [.int x3, .int 0, .ref a0])) rfl ?_
      refine Ez_ci (M := zM222) (As := [.ref a0, .int 0, .int x3]) (st' := []) (am_site_v (y := 224) (k := 3) (ci := 11) rfl rfl (zrcv rfl h0 rfl)) (Nat.le_of_ble_eq_true rfl) (Nat.le_of_ble_eq_true rfl) rfl rfl (fun _ _ hF => zf224_ok hK h0 hF) hF (fun v1 s2 hF => ?_)
      refine Ev_p 1 (c' := (87, [some (.ref a0), some (.int x1), some (.int x2), some (.int x3)], [.int x2, .int v1])) rfl ?_
      refine Ez_if (M := zM222) (b := ¬ v1 = x2) rfl rfl hF (fun _ hF => ?_) (fun _ hF => ?_)
      · refine Ev_p 0 (c' := (116, [some (.ref a0), some (.int x1), some (.int x2), some (.int x3)], [])) rfl ?_
        refine Ev_w (L' := [some (.ref a0), some (.int x1), some (.int x2), none]) (zle_c (zle_c (zle_c (zle_n zle_0)))) ?_
        exact zf222_116_ok hK h0 hk62 hF
      · refine Ev_p 1 (c' := (91, [some (.ref a0), some (.int x1), some (.int x2), some (.int x3)], [.ref a0])) rfl ?_
        refine Ez_gr (M := zM222) (ci := 11) (f := 48) (t := 101) rfl rfl h0 rfl ?_
        refine Ev_p 1 (c' := (95, [some (.ref a0), some (.int x1), some (.int x2), some (.int x3)], [.int x3, .ref (zrf a0 48)])) rfl ?_
        refine Ez_bl (M := zM222) rfl (zty (ci := 11) (f := 48) (t := 101) h0 rfl) hF (fun v3 hF => ?_)
        refine Ev_p 0 (c' := (96, [some (.ref a0), some (.int x1), some (.int x2), some (.int x3)], [.int v3])) rfl ?_
        refine Ez_if (M := zM222) (b := ¬ v3 = 0) rfl rfl hF (fun _ hF => ?_) (fun _ hF => ?_)
        · refine Ev_p 1 (c' := (107, [some (.ref a0), some (.int x1), some (.int x2), some (.int x3)], [.ref a0])) rfl ?_
          refine Ez_gr (M := zM222) (ci := 11) (f := 24) (t := 100) rfl rfl h0 rfl ?_
          refine Ev_p 1 (c' := (111, [some (.ref a0), some (.int x1), some (.int x2), some (.int x3)], [.int x3, .ref (zrf a0 24)])) rfl ?_
          refine Ez_al (M := zM222) rfl (zty (ci := 11) (f := 24) (t := 100) h0 rfl) hF (fun v4 hF => ?_)
          refine Ev_p 2 (c' := (76, [some (.ref a0), some (.int x1), some (.int x2), some (.int v4)], [])) rfl ?_
          exact ih hF
        · refine Ev_p 4 (c' := (103, [some (.ref a0), some (.int x1), some (.int x2), some (.int x3)], [.int x1, .int (-1), .int x3, .ref a0])) rfl ?_
          refine Ez_cv (M := zM222) (As := [.ref a0, .int x3, .int (-1), .int x1]) (st' := []) (am_site_v (y := 225) (k := 4) (ci := 11) rfl rfl (zrcv rfl h0 rfl)) (Nat.le_of_ble_eq_true rfl) (Nat.le_of_ble_eq_true rfl) rfl rfl (fun _ hF => zf225_ok hK h0 hF) hF (fun s6 hF => ?_)
          refine Ev_p 1 (c' := (107, [some (.ref a0), some (.int x1), some (.int x2), some (.int x3)], [.ref a0])) rfl ?_
          refine Ez_gr (M := zM222) (ci := 11) (f := 24) (t := 100) rfl rfl h0 rfl ?_
          refine Ev_p 1 (c' := (111, [some (.ref a0), some (.int x1), some (.int x2), some (.int x3)], [.int x3, .ref (zrf a0 24)])) rfl ?_
          refine Ez_al (M := zM222) rfl (zty (ci := 11) (f := 24) (t := 100) h0 rfl) hF (fun v7 hF => ?_)
          refine Ev_p 2 (c' := (76, [some (.ref a0), some (.int x1), some (.int x2), some (.int v7)], [])) rfl ?_
          exact ih hF
noncomputable def zf222_62 (a0 : Nat)  : Nat → Int32 → Int32 → zS → Option (Int32 × zS)
  | 0, _, _, _ => none
  | n + 1, x1, x2, s =>
    zal s (zrf a0 22) 0 fun v1 =>
    if v1 < x2 then
      zal s (zrf a0 22) 2 fun v2 =>
      some (v2, s)
    else
      zf222_76 a0 (zf222_62 a0 n) zfz x1 x2 (x2 - 1) s
theorem zf222_62_ok {K : cx_K} (hK : Kok K) {lg : Nat → Int64} {v : Int32} {s' : zS} {a0 : Nat} (h0 : zsh a0 = 11)   {n : Nat} : ∀ {x1 : Int32} {x2 : Int32} {s : zS}, zf222_62 a0 n x1 x2 s = some (v, s') → Ev K zM222 (62, [some (.ref a0), some (.int x1), some (.int x2), none], [], zmk lg s) 0 (.inl (some (.int v))) (zmk lg s') 0 := by
  induction n with
  | zero => intro x1 x2 s hF; rw [zf222_62] at hF; cases hF
  | succ n ih =>
    intro x1 x2 s hF
    rw [zf222_62] at hF
    refine Ev_p 2 (c' := (64, [some (.ref a0), some (.int x1), some (.int x2), none], [.ref a0, .int x2])) rfl ?_
    refine Ez_gr (M := zM222) (ci := 11) (f := 22) (t := 100) rfl rfl h0 rfl ?_
    refine Ev_p 1 (c' := (68, [some (.ref a0), some (.int x1), some (.int x2), none], [.int 0, .ref (zrf a0 22), .int x2])) rfl ?_
    refine Ez_al (M := zM222) rfl (zty (ci := 11) (f := 22) (t := 100) h0 rfl) hF (fun v1 hF => ?_)
    refine Ev_p 0 (c' := (69, [some (.ref a0), some (.int x1), some (.int x2), none], [.int v1, .int x2])) rfl ?_
    refine Ez_if (M := zM222) (b := v1 < x2) rfl rfl hF (fun _ hF => ?_) (fun _ hF => ?_)
    · refine Ev_p 1 (c' := (177, [some (.ref a0), some (.int x1), some (.int x2), none], [.ref a0])) rfl ?_
      refine Ez_gr (M := zM222) (ci := 11) (f := 22) (t := 100) rfl rfl h0 rfl ?_
      refine Ev_p 1 (c' := (181, [some (.ref a0), some (.int x1), some (.int x2), none], [.int 2, .ref (zrf a0 22)])) rfl ?_
      refine Ez_al (M := zM222) rfl (zty (ci := 11) (f := 22) (t := 100) h0 rfl) hF (fun v2 hF => ?_)
      refine Ev_p 0 (c' := (182, [some (.ref a0), some (.int x1), some (.int x2), none], [.int v2])) rfl ?_
      exact Ez_ri (M := zM222) rfl rfl hF
    · refine Ev_p 4 (c' := (76, [some (.ref a0), some (.int x1), some (.int x2), some (.int (x2 - 1))], [])) rfl ?_
      exact zf222_76_ok hK h0 (fun _ _ _ hF => ih hF) hF
noncomputable def zf222_29 (a0 : Nat)  (x1 : Int32) (t0 : Int32) (s : zS) : Option (Int32 × zS) :=
  zpf s a0 0 t0 fun s1 =>
  zgf s1 a0 0 fun v2 =>
  if v2 ≤ 0 then
    zbv (zf223 a0 x1 s1) fun s4 =>
    zas s4 (zrf a0 22) 2 0 fun s5 =>
    zas s5 (zrf a0 28) 2 0 fun s6 =>
    zf222_62 a0 zfz x1 0 s6
  else
    some (0, s1)
theorem zf222_29_ok {K : cx_K} (hK : Kok K) {lg : Nat → Int64} {v : Int32} {s' : zS} {a0 : Nat} (h0 : zsh a0 = 11)   {x1 : Int32} {t0 : Int32}  {s : zS} (hF : zf222_29 a0 x1 t0 s = some (v, s')) : Ev K zM222 (29, [some (.ref a0), some (.int x1), none, none], [.int t0, .ref a0], zmk lg s) 0 (.inl (some (.int v))) (zmk lg s') 0 := by
  unfold zf222_29 at hF
  refine Ev_p 0 (c' := (29, [some (.ref a0), some (.int x1), none, none], [.int t0, .ref a0])) rfl ?_
  refine Ez_pf (M := zM222) (ci := 11) (f := 0) rfl rfl h0 rfl hF (fun s1 hF => ?_)
  refine Ev_p 1 (c' := (33, [some (.ref a0), some (.int x1), none, none], [.ref a0])) rfl ?_
  refine Ez_gf (M := zM222) (ci := 11) (f := 0) rfl rfl h0 rfl hF (fun v2 hF => ?_)
  refine Ev_p 0 (c' := (36, [some (.ref a0), some (.int x1), none, none], [.int v2])) rfl ?_
  refine Ez_if (M := zM222) (b := v2 ≤ 0) rfl rfl hF (fun _ hF => ?_) (fun _ hF => ?_)
  · refine Ev_p 2 (c' := (43, [some (.ref a0), some (.int x1), none, none], [.int x1, .ref a0])) rfl ?_
    refine Ez_cv (M := zM222) (As := [.ref a0, .int x1]) (st' := []) (am_site_v (y := 223) (k := 2) (ci := 11) rfl rfl (zrcv rfl h0 rfl)) (Nat.le_of_ble_eq_true rfl) (Nat.le_of_ble_eq_true rfl) rfl rfl (fun _ hF => zf223_ok hK h0 hF) hF (fun s4 hF => ?_)
    refine Ev_p 1 (c' := (47, [some (.ref a0), some (.int x1), none, none], [.ref a0])) rfl ?_
    refine Ez_gr (M := zM222) (ci := 11) (f := 22) (t := 100) rfl rfl h0 rfl ?_
    refine Ev_p 2 (c' := (52, [some (.ref a0), some (.int x1), none, none], [.int 0, .int 2, .ref (zrf a0 22)])) rfl ?_
    refine Ez_as (M := zM222) rfl (zty (ci := 11) (f := 22) (t := 100) h0 rfl) hF (fun s5 hF => ?_)
    refine Ev_p 1 (c' := (54, [some (.ref a0), some (.int x1), none, none], [.ref a0])) rfl ?_
    refine Ez_gr (M := zM222) (ci := 11) (f := 28) (t := 100) rfl rfl h0 rfl ?_
    refine Ev_p 2 (c' := (59, [some (.ref a0), some (.int x1), none, none], [.int 0, .int 2, .ref (zrf a0 28)])) rfl ?_
    refine Ez_as (M := zM222) rfl (zty (ci := 11) (f := 28) (t := 100) h0 rfl) hF (fun s6 hF => ?_)
    refine Ev_p 2 (c' := (62, [some (.ref a0), some (.int x1), some (.int 0), none], [])) rfl ?_
    exact zf222_62_ok hK h0 hF
  · refine Ev_p 1 (c' := (40, [some (.ref a0), some (.int x1), none, none], [.int 0])) rfl ?_
    exact Ez_ri (M := zM222) rfl rfl hF
noncomputable def zf222 (a0 : Nat) (x1 : Int32) (s : zS) : Option (Int32 × zS) :=
  zgf s a0 31 fun v1 =>
  if ¬ v1 = 0 then
    if x1 < 0 then
      zf222_29 a0 x1 2 s
    else
      zgf s a0 32 fun v2 =>
      if x1 ≤ v2 then
        zf222_29 a0 x1 0 s
      else
        zf222_29 a0 x1 2 s
  else
    zf222_29 a0 x1 1 s
theorem zf222_ok {K : cx_K} (hK : Kok K) {lg : Nat → Int64} {v : Int32} {s' : zS} {a0 : Nat} (h0 : zsh a0 = 11) {x1 : Int32} {s : zS} (hF : zf222 a0 x1 s = some (v, s')) : Ct K 222 [.ref a0, .int x1] (zmk lg s) (.inl (some (.int v))) (zmk lg s') 0 := by
  unfold zf222 at hF
  refine Ct_of hK nd_ok222 (mL := 4) (rt := some .int) rfl rfl (Nat.le_of_ble_eq_true rfl) zlen_le ?_
  refine Ev_p 2 (c' := (2, [some (.ref a0), some (.int x1), none, none], [.ref a0, .ref a0])) rfl ?_
  refine Ez_gf (M := zM222) (ci := 11) (f := 31) rfl rfl h0 rfl hF (fun v1 hF => ?_)
  refine Ev_p 0 (c' := (5, [some (.ref a0), some (.int x1), none, none], [.int v1, .ref a0])) rfl ?_
  refine Ez_if (M := zM222) (b := ¬ v1 = 0) rfl rfl hF (fun _ hF => ?_) (fun _ hF => ?_)
  · refine Ev_p 1 (c' := (13, [some (.ref a0), some (.int x1), none, none], [.int x1, .ref a0])) rfl ?_
    refine Ez_if (M := zM222) (b := x1 < 0) rfl rfl hF (fun _ hF => ?_) (fun _ hF => ?_)
    · refine Ev_p 2 (c' := (29, [some (.ref a0), some (.int x1), none, none], [.int 2, .ref a0])) rfl ?_
      exact zf222_29_ok hK h0 hF
    · refine Ev_p 2 (c' := (18, [some (.ref a0), some (.int x1), none, none], [.ref a0, .int x1, .ref a0])) rfl ?_
      refine Ez_gf (M := zM222) (ci := 11) (f := 32) rfl rfl h0 rfl hF (fun v2 hF => ?_)
      refine Ev_p 0 (c' := (21, [some (.ref a0), some (.int x1), none, none], [.int v2, .int x1, .ref a0])) rfl ?_
      refine Ez_if (M := zM222) (b := x1 ≤ v2) rfl rfl hF (fun _ hF => ?_) (fun _ hF => ?_)
      · refine Ev_p 1 (c' := (29, [some (.ref a0), some (.int x1), none, none], [.int 0, .ref a0])) rfl ?_
        exact zf222_29_ok hK h0 hF
      · refine Ev_p 2 (c' := (29, [some (.ref a0), some (.int x1), none, none], [.int 2, .ref a0])) rfl ?_
        exact zf222_29_ok hK h0 hF
  · refine Ev_p 2 (c' := (29, [some (.ref a0), some (.int x1), none, none], [.int 1, .ref a0])) rfl ?_
    exact zf222_29_ok hK h0 hF
-- PaperParcelsModel.needs(II)Z
abbrev zM229 : ev_M := (am_in nd_i229, am_fl nd_f11, am_ct nd_k11, am_sl nd_ml nd_s229, fun _ => none, some .boolean)
noncomputable def zf229 (a0 : Nat) (x1 : Int32) (x2 : Int32) (s : zS) : Option (Int32 × zS) :=
  zal s (zrf a0 23) ((100 * x1) + x2) fun v1 =>
  if ¬ v1 = 1 then
    zal s (zrf a0 23) ((100 * x1) + x2) fun v2 =>
    if v2 = 2 then
      zal s (zrf a0 24) ((100 * x1) + x2) fun v3 =>
      zal s (zrf a0 25) (3 * ((100 * x1) + x2)) fun v4 =>
      zal s (zrf a0 25) (3 * ((100 * x1) + v3)) fun v5 =>
      if ¬ v4 = v5 then
        zrb 1 s
      else
        zal s (zrf a0 25) ((3 * ((100 * x1) + x2)) + 1) fun v6 =>
        zal s (zrf a0 25) ((3 * ((100 * x1) + v3)) + 1) fun v7 =>
        if ¬ v6 = v7 then
          zrb 1 s
        else
          zal s (zrf a0 25) ((3 * ((100 * x1) + x2)) + 2) fun v8 =>
          zal s (zrf a0 25) ((3 * ((100 * x1) + v3)) + 2) fun v9 =>
          if v8 = v9 then
            zrb 0 s
          else
            zrb 1 s
    else
      zrb 0 s
  else
    zal s (zrf a0 25) (3 * ((100 * x1) + x2)) fun v10 =>
    if ¬ v10 = 0 then
      zrb 1 s
    else
      zal s (zrf a0 25) ((3 * ((100 * x1) + x2)) + 1) fun v11 =>
      if ¬ v11 = 10 then
        zrb 1 s
      else
        zal s (zrf a0 25) ((3 * ((100 * x1) + x2)) + 2) fun v12 =>
        if v12 = 0 then
          zrb 0 s
        else
          zrb 1 s
theorem zf229_ok {K : cx_K} (hK : Kok K) {lg : Nat → Int64} {v : Int32} {s' : zS} {a0 : Nat} (h0 : zsh a0 = 11) {x1 : Int32} {x2 : Int32} {s : zS} (hF : zf229 a0 x1 x2 s = some (v, s')) : Ct K 229 [.ref a0, .int x1, .int x2] (zmk lg s) (.inl (some (.int v))) (zmk lg s') 0 := by
  unfold zf229 at hF
  refine Ct_of hK nd_ok229 (mL := 5) (rt := some .boolean) rfl rfl (Nat.le_of_ble_eq_true rfl) zlen_le ?_
  refine Ev_p 9 (c' := (10, [some (.ref a0), some (.int x1), some (.int x2), some (.int (3 * ((100 * x1) + x2))), none], [.ref a0])) rfl ?_
  refine Ez_gr (M := zM229) (ci := 11) (f := 23) (t := 100) rfl rfl h0 rfl ?_
  refine Ev_p 5 (c' := (19, [some (.ref a0), some (.int x1), some (.int x2), some (.int (3 * ((100 * x1) + x2))), none], [.int ((100 * x1) + x2), .ref (zrf a0 23)])) rfl ?_
  refine Ez_al (M := zM229) rfl (zty (ci := 11) (f := 23) (t := 100) h0 rfl) hF (fun v1 hF => ?_)
  refine Ev_p 1 (c' := (21, [some (.ref a0), some (.int x1), some (.int x2), some (.int (3 * ((100 * x1) + x2))), none], [.int 1, .int v1])) rfl ?_
  refine Ez_if (M := zM229) (b := ¬ v1 = 1) rfl rfl hF (fun _ hF => ?_) (fun _ hF => ?_)
  · refine Ev_p 1 (c' := (64, [some (.ref a0), some (.int x1), some (.int x2), some (.int (3 * ((100 * x1) + x2))), none], [.ref a0])) rfl ?_
    refine Ez_gr (M := zM229) (ci := 11) (f := 23) (t := 100) rfl rfl h0 rfl ?_
    refine Ev_p 5 (c' := (73, [some (.ref a0), some (.int x1), some (.int x2), some (.int (3 * ((100 * x1) + x2))), none], [.int ((100 * x1) + x2), .ref (zrf a0 23)])) rfl ?_
    refine Ez_al (M := zM229) rfl (zty (ci := 11) (f := 23) (t := 100) h0 rfl) hF (fun v2 hF => ?_)
    refine Ev_p 1 (c' := (75, [some (.ref a0), some (.int x1), some (.int x2), some (.int (3 * ((100 * x1) + x2))), none], [.int 2, .int v2])) rfl ?_
    refine Ez_if (M := zM229) (b := v2 = 2) rfl rfl hF (fun _ hF => ?_) (fun _ hF => ?_)
    · refine Ev_p 5 (c' := (86, [some (.ref a0), some (.int x1), some (.int x2), some (.int (3 * ((100 * x1) + x2))), none], [.ref a0, .int (100 * x1), .int 3])) rfl ?_
      refine Ez_gr (M := zM229) (ci := 11) (f := 24) (t := 100) rfl rfl h0 rfl ?_
      refine Ev_p 5 (c' := (95, [some (.ref a0), some (.int x1), some (.int x2), some (.int (3 * ((100 * x1) + x2))), none], [.int ((100 * x1) + x2), .ref (zrf a0 24), .int (100 * x1), .int 3])) rfl ?_
      refine Ez_al (M := zM229) rfl (zty (ci := 11) (f := 24) (t := 100) h0 rfl) hF (fun v3 hF => ?_)
      refine Ev_p 4 (c' := (101, [some (.ref a0), some (.int x1), some (.int x2), some (.int (3 * ((100 * x1) + x2))), some (.int (3 * ((100 * x1) + v3)))], [.ref a0])) rfl ?_
      refine Ez_gr (M := zM229) (ci := 11) (f := 25) (t := 100) rfl rfl h0 rfl ?_
      refine Ev_p 1 (c' := (105, [some (.ref a0), some (.int x1), some (.int x2), some (.int (3 * ((100 * x1) + x2))), some (.int (3 * ((100 * x1) + v3)))], [.int (3 * ((100 * x1) + x2)), .ref (zrf a0 25)])) rfl ?_
      refine Ez_al (M := zM229) rfl (zty (ci := 11) (f := 25) (t := 100) h0 rfl) hF (fun v4 hF => ?_)
      refine Ev_p 1 (c' := (107, [some (.ref a0), some (.int x1), some (.int x2), some (.int (3 * ((100 * x1) + x2))), some (.int (3 * ((100 * x1) + v3)))], [.ref a0, .int v4])) rfl ?_
      refine Ez_gr (M := zM229) (ci := 11) (f := 25) (t := 100) rfl rfl h0 rfl ?_
      refine Ev_p 1 (c' := (112, [some (.ref a0), some (.int x1), some (.int x2), some (.int (3 * ((100 * x1) + x2))), some (.int (3 * ((100 * x1) + v3)))], [.int (3 * ((100 * x1) + v3)), .ref (zrf a0 25), .int v4])) rfl ?_
      refine Ez_al (M := zM229) rfl (zty (ci := 11) (f := 25) (t := 100) h0 rfl) hF (fun v5 hF => ?_)
      refine Ev_p 0 (c' := (113, [some (.ref a0), some (.int x1), some (.int x2), some (.int (3 * ((100 * x1) + x2))), some (.int (3 * ((100 * x1) + v3)))], [.int v5, .int v4])) rfl ?_
      refine Ez_if (M := zM229) (b := ¬ v4 = v5) rfl rfl hF (fun _ hF => ?_) (fun _ hF => ?_)
      · refine Ev_p 2 (c' := (161, [some (.ref a0), some (.int x1), some (.int x2), some (.int (3 * ((100 * x1) + x2))), some (.int (3 * ((100 * x1) + v3)))], [.int 1])) rfl ?_
        exact Ez_rb (M := zM229) rfl rfl hF
      · refine Ev_p 1 (c' := (117, [some (.ref a0), some (.int x1), some (.int x2), some (.int (3 * ((100 * x1) + x2))), some (.int (3 * ((100 * x1) + v3)))], [.ref a0])) rfl ?_
        refine Ez_gr (M := zM229) (ci := 11) (f := 25) (t := 100) rfl rfl h0 rfl ?_
        refine Ev_p 3 (c' := (123, [some (.ref a0), some (.int x1), some (.int x2), some (.int (3 * ((100 * x1) + x2))), some (.int (3 * ((100 * x1) + v3)))], [.int ((3 * ((100 * x1) + x2)) + 1), .ref (zrf a0 25)])) rfl ?_
        refine Ez_al (M := zM229) rfl (zty (ci := 11) (f := 25) (t := 100) h0 rfl) hF (fun v6 hF => ?_)
        refine Ev_p 1 (c' := (125, [some (.ref a0), some (.int x1), some (.int x2), some (.int (3 * ((100 * x1) + x2))), some (.int (3 * ((100 * x1) + v3)))], [.ref a0, .int v6])) rfl ?_
        refine Ez_gr (M := zM229) (ci := 11) (f := 25) (t := 100) rfl rfl h0 rfl ?_
        refine Ev_p 3 (c' := (132, [some (.ref a0), some (.int x1), some (.int x2), some (.int (3 * ((100 * x1) + x2))), some (.int (3 * ((100 * x1) + v3)))], [.int ((3 * ((100 * x1) + v3)) + 1), .ref (zrf a0 25), .int v6])) rfl ?_
        refine Ez_al (M := zM229) rfl (zty (ci := 11) (f := 25) (t := 100) h0 rfl) hF (fun v7 hF => ?_)
        refine Ev_p 0 (c' := (133, [some (.ref a0), some (.int x1), some (.int x2), some (.int (3 * ((100 * x1) + x2))), some (.int (3 * ((100 * x1) + v3)))], [.int v7, .int v6])) rfl ?_
        refine Ez_if (M := zM229) (b := ¬ v6 = v7) rfl rfl hF (fun _ hF => ?_) (fun _ hF => ?_)
        · refine Ev_p 2 (c' := (161, [some (.ref a0), some (.int x1), some (.int x2), some (.int (3 * ((100 * x1) + x2))), some (.int (3 * ((100 * x1) + v3)))], [.int 1])) rfl ?_
          exact Ez_rb (M := zM229) rfl rfl hF
        · refine Ev_p 1 (c' := (137, [some (.ref a0), some (.int x1), some (.int x2), some (.int (3 * ((100 * x1) + x2))), some (.int (3 * ((100 * x1) + v3)))], [.ref a0])) rfl ?_
          refine Ez_gr (M := zM229) (ci := 11) (f := 25) (t := 100) rfl rfl h0 rfl ?_
          refine Ev_p 3 (c' := (143, [some (.ref a0), some (.int x1), some (.int x2), some (.int (3 * ((100 * x1) + x2))), some (.int (3 * ((100 * x1) + v3)))], [.int ((3 * ((100 * x1) + x2)) + 2), .ref (zrf a0 25)])) rfl ?_
          refine Ez_al (M := zM229) rfl (zty (ci := 11) (f := 25) (t := 100) h0 rfl) hF (fun v8 hF => ?_)
          refine Ev_p 1 (c' := (145, [some (.ref a0), some (.int x1), some (.int x2), some (.int (3 * ((100 * x1) + x2))), some (.int (3 * ((100 * x1) + v3)))], [.ref a0, .int v8])) rfl ?_
          refine Ez_gr (M := zM229) (ci := 11) (f := 25) (t := 100) rfl rfl h0 rfl ?_
          refine Ev_p 3 (c' := (152, [some (.ref a0), some (.int x1), some (.int x2), some (.int (3 * ((100 * x1) + x2))), some (.int (3 * ((100 * x1) + v3)))], [.int ((3 * ((100 * x1) + v3)) + 2), .ref (zrf a0 25), .int v8])) rfl ?_
          refine Ez_al (M := zM229) rfl (zty (ci := 11) (f := 25) (t := 100) h0 rfl) hF (fun v9 hF => ?_)
          refine Ev_p 0 (c' := (153, [some (.ref a0), some (.int x1), some (.int x2), some (.int (3 * ((100 * x1) + x2))), some (.int (3 * ((100 * x1) + v3)))], [.int v9, .int v8])) rfl ?_
          refine Ez_if (M := zM229) (b := v8 = v9) rfl rfl hF (fun _ hF => ?_) (fun _ hF => ?_)
          · refine Ev_p 1 (c' := (161, [some (.ref a0), some (.int x1), some (.int x2), some (.int (3 * ((100 * x1) + x2))), some (.int (3 * ((100 * x1) + v3)))], [.int 0])) rfl ?_
            exact Ez_rb (M := zM229) rfl rfl hF
          · refine Ev_p 2 (c' := (161, [some (.ref a0), some (.int x1), some (.int x2), some (.int (3 * ((100 * x1) + x2))), some (.int (3 * ((100 * x1) + v3)))], [.int 1])) rfl ?_
            exact Ez_rb (M := zM229) rfl rfl hF
    · refine Ev_p 1 (c' := (79, [some (.ref a0), some (.int x1), some (.int x2), some (.int (3 * ((100 * x1) + x2))), none], [.int 0])) rfl ?_
      exact Ez_rb (M := zM229) rfl rfl hF
  · refine Ev_p 1 (c' := (25, [some (.ref a0), some (.int x1), some (.int x2), some (.int (3 * ((100 * x1) + x2))), none], [.ref a0])) rfl ?_
    refine Ez_gr (M := zM229) (ci := 11) (f := 25) (t := 100) rfl rfl h0 rfl ?_
    refine Ev_p 1 (c' := (29, [some (.ref a0), some (.int x1), some (.int x2), some (.int (3 * ((100 * x1) + x2))), none], [.int (3 * ((100 * x1) + x2)), .ref (zrf a0 25)])) rfl ?_
    refine Ez_al (M := zM229) rfl (zty (ci := 11) (f := 25) (t := 100) h0 rfl) hF (fun v10 hF => ?_)
    refine Ev_p 0 (c' := (30, [some (.ref a0), some (.int x1), some (.int x2), some (.int (3 * ((100 * x1) + x2))), none], [.int v10])) rfl ?_
    refine Ez_if (M := zM229) (b := ¬ v10 = 0) rfl rfl hF (fun _ hF => ?_) (fun _ hF => ?_)
    · refine Ev_p 2 (c' := (62, [some (.ref a0), some (.int x1), some (.int x2), some (.int (3 * ((100 * x1) + x2))), none], [.int 1])) rfl ?_
      exact Ez_rb (M := zM229) rfl rfl hF
    · refine Ev_p 1 (c' := (34, [some (.ref a0), some (.int x1), some (.int x2), some (.int (3 * ((100 * x1) + x2))), none], [.ref a0])) rfl ?_
      refine Ez_gr (M := zM229) (ci := 11) (f := 25) (t := 100) rfl rfl h0 rfl ?_
      refine Ev_p 3 (c' := (40, [some (.ref a0), some (.int x1), some (.int x2), some (.int (3 * ((100 * x1) + x2))), none], [.int ((3 * ((100 * x1) + x2)) + 1), .ref (zrf a0 25)])) rfl ?_
      refine Ez_al (M := zM229) rfl (zty (ci := 11) (f := 25) (t := 100) h0 rfl) hF (fun v11 hF => ?_)
      refine Ev_p 1 (c' := (43, [some (.ref a0), some (.int x1), some (.int x2), some (.int (3 * ((100 * x1) + x2))), none], [.int 10, .int v11])) rfl ?_
      refine Ez_if (M := zM229) (b := ¬ v11 = 10) rfl rfl hF (fun _ hF => ?_) (fun _ hF => ?_)
      · refine Ev_p 2 (c' := (62, [some (.ref a0), some (.int x1), some (.int x2), some (.int (3 * ((100 * x1) + x2))), none], [.int 1])) rfl ?_
        exact Ez_rb (M := zM229) rfl rfl hF
      · refine Ev_p 1 (c' := (47, [some (.ref a0), some (.int x1), some (.int x2), some (.int (3 * ((100 * x1) + x2))), none], [.ref a0])) rfl ?_
        refine Ez_gr (M := zM229) (ci := 11) (f := 25) (t := 100) rfl rfl h0 rfl ?_
        refine Ev_p 3 (c' := (53, [some (.ref a0), some (.int x1), some (.int x2), some (.int (3 * ((100 * x1) + x2))), none], [.int ((3 * ((100 * x1) + x2)) + 2), .ref (zrf a0 25)])) rfl ?_
        refine Ez_al (M := zM229) rfl (zty (ci := 11) (f := 25) (t := 100) h0 rfl) hF (fun v12 hF => ?_)
        refine Ev_p 0 (c' := (54, [some (.ref a0), some (.int x1), some (.int x2), some (.int (3 * ((100 * x1) + x2))), none], [.int v12])) rfl ?_
        refine Ez_if (M := zM229) (b := v12 = 0) rfl rfl hF (fun _ hF => ?_) (fun _ hF => ?_)
        · refine Ev_p 1 (c' := (62, [some (.ref a0), some (.int x1), some (.int x2), some (.int (3 * ((100 * x1) + x2))), none], [.int 0])) rfl ?_
          exact Ez_rb (M := zM229) rfl rfl hF
        · refine Ev_p 2 (c' := (62, [some (.ref a0), some (.int x1), some (.int x2), some (.int (3 * ((100 * x1) + x2))), none], [.int 1])) rfl ?_
          exact Ez_rb (M := zM229) rfl rfl hF
-- PaperParcelsModel.placeOfLook(II)I
abbrev zM230 : ev_M := (am_in nd_i230, am_fl nd_f11, am_ct nd_k11, am_sl nd_ml nd_s230, fun _ => none, some .int)
noncomputable def zf230_95 (a0 : Nat)  : Nat → Int32 → Int32 → zS → Option (Int32 × zS)
  | 0, _, _, _ => none
  | n + 1, x3, x4, s =>
    if 3 ≤ x4 then
      zgf s a0 56 fun v1 =>
      zpf s a0 56 (v1 + 1) fun s2 =>
      zgf s2 a0 56 fun v3 =>
      some ((v3 - 1), s2)
    else
      zgf s a0 56 fun v4 =>
      zal s (zrf a0 25) (x3 + x4) fun v5 =>
      zas s (zrf a0 55) ((3 * v4) + x4) v5 fun s6 =>
      zf230_95 a0 n x3 (x4 + 1) s6
theorem zf230_95_ok {K : cx_K} (hK : Kok K) {lg : Nat → Int64} {v : Int32} {s' : zS} {a0 : Nat} (h0 : zsh a0 = 11)   {n : Nat} : ∀ {x3 : Int32} {x4 : Int32} {s : zS}, zf230_95 a0 n x3 x4 s = some (v, s') → Ev K zM230 (95, [some (.ref a0), none, none, some (.int x3), some (.int x4)], [], zmk lg s) 0 (.inl (some (.int v))) (zmk lg s') 0 := by
  induction n with
  | zero => intro x3 x4 s hF; rw [zf230_95] at hF; cases hF
  | succ n ih =>
    intro x3 x4 s hF
    rw [zf230_95] at hF
    refine Ev_p 2 (c' := (98, [some (.ref a0), none, none, some (.int x3), some (.int x4)], [.int 3, .int x4])) rfl ?_
    refine Ez_if (M := zM230) (b := 3 ≤ x4) rfl rfl hF (fun _ hF => ?_) (fun _ hF => ?_)
    · refine Ev_p 2 (c' := (132, [some (.ref a0), none, none, some (.int x3), some (.int x4)], [.ref a0, .ref a0])) rfl ?_
      refine Ez_gf (M := zM230) (ci := 11) (f := 56) rfl rfl h0 rfl hF (fun v1 hF => ?_)
      refine Ev_p 2 (c' := (137, [some (.ref a0), none, none, some (.int x3), some (.int x4)], [.int (v1 + 1), .ref a0])) rfl ?_
      refine Ez_pf (M := zM230) (ci := 11) (f := 56) rfl rfl h0 rfl hF (fun s2 hF => ?_)
      refine Ev_p 1 (c' := (141, [some (.ref a0), none, none, some (.int x3), some (.int x4)], [.ref a0])) rfl ?_
      refine Ez_gf (M := zM230) (ci := 11) (f := 56) rfl rfl h0 rfl hF (fun v3 hF => ?_)
      refine Ev_p 2 (c' := (146, [some (.ref a0), none, none, some (.int x3), some (.int x4)], [.int (v3 - 1)])) rfl ?_
      exact Ez_ri (M := zM230) rfl rfl hF
    · refine Ev_p 1 (c' := (102, [some (.ref a0), none, none, some (.int x3), some (.int x4)], [.ref a0])) rfl ?_
      refine Ez_gr (M := zM230) (ci := 11) (f := 55) (t := 100) rfl rfl h0 rfl ?_
      refine Ev_p 2 (c' := (107, [some (.ref a0), none, none, some (.int x3), some (.int x4)], [.ref a0, .int 3, .ref (zrf a0 55)])) rfl ?_
      refine Ez_gf (M := zM230) (ci := 11) (f := 56) rfl rfl h0 rfl hF (fun v4 hF => ?_)
      refine Ev_p 4 (c' := (115, [some (.ref a0), none, none, some (.int x3), some (.int x4)], [.ref a0, .int ((3 * v4) + x4), .ref (zrf a0 55)])) rfl ?_
      refine Ez_gr (M := zM230) (ci := 11) (f := 25) (t := 100) rfl rfl h0 rfl ?_
      refine Ev_p 3 (c' := (122, [some (.ref a0), none, none, some (.int x3), some (.int x4)], [.int (x3 + x4), .ref (zrf a0 25), .int ((3 * v4) + x4), .ref (zrf a0 55)])) rfl ?_
      refine Ez_al (M := zM230) rfl (zty (ci := 11) (f := 25) (t := 100) h0 rfl) hF (fun v5 hF => ?_)
      refine Ev_p 0 (c' := (123, [some (.ref a0), none, none, some (.int x3), some (.int x4)], [.int v5, .int ((3 * v4) + x4), .ref (zrf a0 55)])) rfl ?_
      refine Ez_as (M := zM230) rfl (zty (ci := 11) (f := 55) (t := 100) h0 rfl) hF (fun s6 hF => ?_)
      refine Ev_p 2 (c' := (95, [some (.ref a0), none, none, some (.int x3), some (.int (x4 + 1))], [])) rfl ?_
      exact ih hF
noncomputable def zf230_12 (a0 : Nat)  : Nat → Int32 → Int32 → zS → Option (Int32 × zS)
  | 0, _, _, _ => none
  | n + 1, x3, x4, s =>
    zgf s a0 56 fun v1 =>
    if v1 ≤ x4 then
      zf230_95 a0 zfz x3 0 s
    else
      zal s (zrf a0 55) (3 * x4) fun v2 =>
      zal s (zrf a0 25) x3 fun v3 =>
      if ¬ v2 = v3 then
        zf230_12 a0 n x3 (x4 + 1) s
      else
        zal s (zrf a0 55) ((3 * x4) + 1) fun v4 =>
        zal s (zrf a0 25) (x3 + 1) fun v5 =>
        if ¬ v4 = v5 then
          zf230_12 a0 n x3 (x4 + 1) s
        else
          zal s (zrf a0 55) ((3 * x4) + 2) fun v6 =>
          zal s (zrf a0 25) (x3 + 2) fun v7 =>
          if ¬ v6 = v7 then
            zf230_12 a0 n x3 (x4 + 1) s
          else
            some (x4, s)
theorem zf230_12_ok {K : cx_K} (hK : Kok K) {lg : Nat → Int64} {v : Int32} {s' : zS} {a0 : Nat} (h0 : zsh a0 = 11)   {n : Nat} : ∀ {x3 : Int32} {x4 : Int32} {s : zS}, zf230_12 a0 n x3 x4 s = some (v, s') → Ev K zM230 (12, [some (.ref a0), none, none, some (.int x3), some (.int x4)], [], zmk lg s) 0 (.inl (some (.int v))) (zmk lg s') 0 := by
  induction n with
  | zero => intro x3 x4 s hF; rw [zf230_12] at hF; cases hF
  | succ n ih =>
    intro x3 x4 s hF
    rw [zf230_12] at hF
    refine Ev_p 2 (c' := (15, [some (.ref a0), none, none, some (.int x3), some (.int x4)], [.ref a0, .int x4])) rfl ?_
    refine Ez_gf (M := zM230) (ci := 11) (f := 56) rfl rfl h0 rfl hF (fun v1 hF => ?_)
    refine Ev_p 0 (c' := (18, [some (.ref a0), none, none, some (.int x3), some (.int x4)], [.int v1, .int x4])) rfl ?_
    refine Ez_if (M := zM230) (b := v1 ≤ x4) rfl rfl hF (fun _ hF => ?_) (fun _ hF => ?_)
    · refine Ev_p 2 (c' := (95, [some (.ref a0), none, none, some (.int x3), some (.int 0)], [])) rfl ?_
      exact zf230_95_ok hK h0 hF
    · refine Ev_p 1 (c' := (22, [some (.ref a0), none, none, some (.int x3), some (.int x4)], [.ref a0])) rfl ?_
      refine Ez_gr (M := zM230) (ci := 11) (f := 55) (t := 100) rfl rfl h0 rfl ?_
      refine Ev_p 3 (c' := (29, [some (.ref a0), none, none, some (.int x3), some (.int x4)], [.int (3 * x4), .ref (zrf a0 55)])) rfl ?_
      refine Ez_al (M := zM230) rfl (zty (ci := 11) (f := 55) (t := 100) h0 rfl) hF (fun v2 hF => ?_)
      refine Ev_p 1 (c' := (31, [some (.ref a0), none, none, some (.int x3), some (.int x4)], [.ref a0, .int v2])) rfl ?_
      refine Ez_gr (M := zM230) (ci := 11) (f := 25) (t := 100) rfl rfl h0 rfl ?_
      refine Ev_p 1 (c' := (35, [some (.ref a0), none, none, some (.int x3), some (.int x4)], [.int x3, .ref (zrf a0 25), .int v2])) rfl ?_
      refine Ez_al (M := zM230) rfl (zty (ci := 11) (f := 25) (t := 100) h0 rfl) hF (fun v3 hF => ?_)
      refine Ev_p 0 (c' := (36, [some (.ref a0), none, none, some (.int x3), some (.int x4)], [.int v3, .int v2])) rfl ?_
      refine Ez_if (M := zM230) (b := ¬ v2 = v3) rfl rfl hF (fun _ hF => ?_) (fun _ hF => ?_)
      · refine Ev_p 2 (c' := (12, [some (.ref a0), none, none, some (.int x3), some (.int (x4 + 1))], [])) rfl ?_
        exact ih hF
      · refine Ev_p 1 (c' := (40, [some (.ref a0), none, none, some (.int x3), some (.int x4)], [.ref a0])) rfl ?_
        refine Ez_gr (M := zM230) (ci := 11) (f := 55) (t := 100) rfl rfl h0 rfl ?_
        refine Ev_p 5 (c' := (49, [some (.ref a0), none, none, some (.int x3), some (.int x4)], [.int ((3 * x4) + 1), .ref (zrf a0 55)])) rfl ?_
        refine Ez_al (M := zM230) rfl (zty (ci := 11) (f := 55) (t := 100) h0 rfl) hF (fun v4 hF => ?_)
        refine Ev_p 1 (c' := (51, [some (.ref a0), none, none, some (.int x3), some (.int x4)], [.ref a0, .int v4])) rfl ?_
        refine Ez_gr (M := zM230) (ci := 11) (f := 25) (t := 100) rfl rfl h0 rfl ?_
        refine Ev_p 3 (c' := (57, [some (.ref a0), none, none, some (.int x3), some (.int x4)], [.int (x3 + 1), .ref (zrf a0 25), .int v4])) rfl ?_
        refine Ez_al (M := zM230) rfl (zty (ci := 11) (f := 25) (t := 100) h0 rfl) hF (fun v5 hF => ?_)
        refine Ev_p 0 (c' := (58, [some (.ref a0), none, none, some (.int x3), some (.int x4)], [.int v5, .int v4])) rfl ?_
        refine Ez_if (M := zM230) (b := ¬ v4 = v5) rfl rfl hF (fun _ hF => ?_) (fun _ hF => ?_)
        · refine Ev_p 2 (c' := (12, [some (.ref a0), none, none, some (.int x3), some (.int (x4 + 1))], [])) rfl ?_
          exact ih hF
        · refine Ev_p 1 (c' := (62, [some (.ref a0), none, none, some (.int x3), some (.int x4)], [.ref a0])) rfl ?_
          refine Ez_gr (M := zM230) (ci := 11) (f := 55) (t := 100) rfl rfl h0 rfl ?_
          refine Ev_p 5 (c' := (71, [some (.ref a0), none, none, some (.int x3), some (.int x4)], [.int ((3 * x4) + 2), .ref (zrf a0 55)])) rfl ?_
          refine Ez_al (M := zM230) rfl (zty (ci := 11) (f := 55) (t := 100) h0 rfl) hF (fun v6 hF => ?_)
          refine Ev_p 1 (c' := (73, [some (.ref a0), none, none, some (.int x3), some (.int x4)], [.ref a0, .int v6])) rfl ?_
          refine Ez_gr (M := zM230) (ci := 11) (f := 25) (t := 100) rfl rfl h0 rfl ?_
          refine Ev_p 3 (c' := (79, [some (.ref a0), none, none, some (.int x3), some (.int x4)], [.int (x3 + 2), .ref (zrf a0 25), .int v6])) rfl ?_
          refine Ez_al (M := zM230) rfl (zty (ci := 11) (f := 25) (t := 100) h0 rfl) hF (fun v7 hF => ?_)
          refine Ev_p 0 (c' := (80, [some (.ref a0), none, none, some (.int x3), some (.int x4)], [.int v7, .int v6])) rfl ?_
          refine Ez_if (M := zM230) (b := ¬ v6 = v7) rfl rfl hF (fun _ hF => ?_) (fun _ hF => ?_)
          · refine Ev_p 2 (c' := (12, [some (.ref a0), none, none, some (.int x3), some (.int (x4 + 1))], [])) rfl ?_
            exact ih hF
          · refine Ev_p 1 (c' := (85, [some (.ref a0), none, none, some (.int x3), some (.int x4)], [.int x4])) rfl ?_
            exact Ez_ri (M := zM230) rfl rfl hF
noncomputable def zf230 (a0 : Nat) (x1 : Int32) (x2 : Int32) (s : zS) : Option (Int32 × zS) :=
  zf230_12 a0 zfz (3 * ((100 * x1) + x2)) 0 s
theorem zf230_ok {K : cx_K} (hK : Kok K) {lg : Nat → Int64} {v : Int32} {s' : zS} {a0 : Nat} (h0 : zsh a0 = 11) {x1 : Int32} {x2 : Int32} {s : zS} (hF : zf230 a0 x1 x2 s = some (v, s')) : Ct K 230 [.ref a0, .int x1, .int x2] (zmk lg s) (.inl (some (.int v))) (zmk lg s') 0 := by
  unfold zf230 at hF
  refine Ct_of hK nd_ok230 (mL := 5) (rt := some .int) rfl rfl (Nat.le_of_ble_eq_true rfl) zlen_le ?_
  refine Ev_p 10 (c' := (12, [some (.ref a0), some (.int x1), some (.int x2), some (.int (3 * ((100 * x1) + x2))), some (.int 0)], [])) rfl ?_
  refine Ev_w (L' := [some (.ref a0), none, none, some (.int (3 * ((100 * x1) + x2))), some (.int 0)]) (zle_c (zle_n (zle_n (zle_c (zle_c zle_0))))) ?_
  exact zf230_12_ok hK h0 hF

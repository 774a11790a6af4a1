/-! The methods as functions, and that the machine goes so (printed by wip/gen/fgen.py). -/
set_option maxRecDepth 100000
set_option linter.unusedVariables false
-- PaperParcelsModel.ends(I)Z
abbrev zM187 : ev_M := (am_in nd_i187, am_fl nd_f11, am_ct nd_k11, am_sl nd_ml nd_s187, fun _ => none, some .boolean)
noncomputable def zf187_27 (a0 : Nat)  (x2 : Int32) (s : zS) : Option (Int32 × zS) :=
  if 0 ≤ x2 then
    zrb 0 s
  else
    zrb 1 s
theorem zf187_27_ok {K : cx_K} (hK : Kok K) {lg : Nat → Int64} {v : Int32} {s' : zS} {a0 : Nat} (h0 : zsh a0 = 11)   {x2 : Int32}  {s : zS} (hF : zf187_27 a0 x2 s = some (v, s')) : Ev K zM187 (27, [some (.ref a0), none, some (.int x2), none], [], zmk lg s) 0 (.inl (some (.int v))) (zmk lg s') 0 := by
  unfold zf187_27 at hF
  refine Ev_p 1 (c' := (28, [some (.ref a0), none, some (.int x2), none], [.int x2])) rfl ?_
  refine Ez_if (M := zM187) (b := 0 ≤ x2) rfl rfl hF (fun _ hF => ?_) (fun _ hF => ?_)
  · refine Ev_p 1 (c' := (36, [some (.ref a0), none, some (.int x2), none], [.int 0])) rfl ?_
    exact Ez_rb (M := zM187) rfl rfl hF
  · refine Ev_p 2 (c' := (36, [some (.ref a0), none, some (.int x2), none], [.int 1])) rfl ?_
    exact Ez_rb (M := zM187) rfl rfl hF
noncomputable def zf187_4 (a0 : Nat)  : Nat → Int32 → Int32 → zS → Option (Int32 × zS)
  | 0, _, _, _ => none
  | n + 1, x2, x3, s =>
    if 27 ≤ x3 then
      zf187_27 a0 x2 s
    else
      if x2 < 0 then
        zf187_27 a0 x2 s
      else
        zal s (zrf a0 20) x2 fun v1 =>
        zf187_4 a0 n v1 (x3 + 1) s
theorem zf187_4_ok {K : cx_K} (hK : Kok K) {lg : Nat → Int64} {v : Int32} {s' : zS} {a0 : Nat} (h0 : zsh a0 = 11)   {n : Nat} : ∀ {x2 : Int32} {x3 : Int32} {s : zS}, zf187_4 a0 n x2 x3 s = some (v, s') → Ev K zM187 (4, [some (.ref a0), none, some (.int x2), some (.int x3)], [], zmk lg s) 0 (.inl (some (.int v))) (zmk lg s') 0 := by
  induction n with
  | zero => intro x2 x3 s hF; rw [zf187_4] at hF; cases hF
  | succ n ih =>
    intro x2 x3 s hF
    rw [zf187_4] at hF
    refine Ev_p 2 (c' := (7, [some (.ref a0), none, some (.int x2), some (.int x3)], [.int 27, .int x3])) rfl ?_
    refine Ez_if (M := zM187) (b := 27 ≤ x3) rfl rfl hF (fun _ hF => ?_) (fun _ hF => ?_)
    · refine Ev_p 0 (c' := (27, [some (.ref a0), none, some (.int x2), some (.int x3)], [])) rfl ?_
      refine Ev_w (L' := [some (.ref a0), none, some (.int x2), none]) (zle_c (zle_c (zle_c (zle_n zle_0)))) ?_
      exact zf187_27_ok hK h0 hF
    · refine Ev_p 1 (c' := (11, [some (.ref a0), none, some (.int x2), some (.int x3)], [.int x2])) rfl ?_
      refine Ez_if (M := zM187) (b := x2 < 0) rfl rfl hF (fun _ hF => ?_) (fun _ hF => ?_)
      · refine Ev_p 0 (c' := (27, [some (.ref a0), none, some (.int x2), some (.int x3)], [])) rfl ?_
        refine Ev_w (L' := [some (.ref a0), none, some (.int x2), none]) (zle_c (zle_c (zle_c (zle_n zle_0)))) ?_
        exact zf187_27_ok hK h0 hF
      · refine Ev_p 1 (c' := (15, [some (.ref a0), none, some (.int x2), some (.int x3)], [.ref a0])) rfl ?_
        refine Ez_gr (M := zM187) (ci := 11) (f := 20) (t := 100) rfl rfl h0 rfl ?_
        refine Ev_p 1 (c' := (19, [some (.ref a0), none, some (.int x2), some (.int x3)], [.int x2, .ref (zrf a0 20)])) rfl ?_
        refine Ez_al (M := zM187) rfl (zty (ci := 11) (f := 20) (t := 100) h0 rfl) hF (fun v1 hF => ?_)
        refine Ev_p 3 (c' := (4, [some (.ref a0), none, some (.int v1), some (.int (x3 + 1))], [])) rfl ?_
        exact ih hF
noncomputable def zf187 (a0 : Nat) (x1 : Int32) (s : zS) : Option (Int32 × zS) :=
  zf187_4 a0 zfz x1 0 s
theorem zf187_ok {K : cx_K} (hK : Kok K) {lg : Nat → Int64} {v : Int32} {s' : zS} {a0 : Nat} (h0 : zsh a0 = 11) {x1 : Int32} {s : zS} (hF : zf187 a0 x1 s = some (v, s')) : Ct K 187 [.ref a0, .int x1] (zmk lg s) (.inl (some (.int v))) (zmk lg s') 0 := by
  unfold zf187 at hF
  refine Ct_of hK nd_ok187 (mL := 4) (rt := some .boolean) rfl rfl (Nat.le_of_ble_eq_true rfl) zlen_le ?_
  refine Ev_p 4 (c' := (4, [some (.ref a0), some (.int x1), some (.int x1), some (.int 0)], [])) rfl ?_
  refine Ev_w (L' := [some (.ref a0), none, some (.int x1), some (.int 0)]) (zle_c (zle_n (zle_c (zle_c zle_0)))) ?_
  exact zf187_4_ok hK h0 hF
-- PaperParcelsModel.noteStyles()I
abbrev zM184 : ev_M := (am_in nd_i184, am_fl nd_f11, am_ct nd_k11, am_sl nd_ml nd_s184, fun _ => none, some .int)
noncomputable def zf184_183 (a0 : Nat)  : Nat → Int32 → zS → Option (Int32 × zS)
  | 0, _, _ => none
  | n + 1, x1, s =>
    zal s (zrf a0 9) 0 fun v1 =>
    if v1 ≤ x1 then
      some ((-1), s)
    else
      zbi (zf185 a0 0 x1 110 s) fun v2 s3 =>
      zbi (zf187 a0 v2 s3) fun v4 s5 =>
      if ¬ v4 = 0 then
        zf184_183 a0 n (x1 + 1) s5
      else
        zal s5 (zrf a0 11) x1 fun v6 =>
        some (v6, s5)
theorem zf184_183_ok {K : cx_K} (hK : Kok K) {lg : Nat → Int64} {v : Int32} {s' : zS} {a0 : Nat} (h0 : zsh a0 = 11)   {n : Nat} : ∀ {x1 : Int32} {s : zS}, zf184_183 a0 n x1 s = some (v, s') → Ev K zM184 (183, [some (.ref a0), some (.int x1), none], [], zmk lg s) 0 (.inl (some (.int v))) (zmk lg s') 0 := by
  induction n with
  | zero => intro x1 s hF; rw [zf184_183] at hF; cases hF
  | succ n ih =>
    intro x1 s hF
    rw [zf184_183] at hF
    refine Ev_p 2 (c' := (185, [some (.ref a0), some (.int x1), none], [.ref a0, .int x1])) rfl ?_
    refine Ez_gr (M := zM184) (ci := 11) (f := 9) (t := 100) rfl rfl h0 rfl ?_
    refine Ev_p 1 (c' := (189, [some (.ref a0), some (.int x1), none], [.int 0, .ref (zrf a0 9), .int x1])) rfl ?_
    refine Ez_al (M := zM184) rfl (zty (ci := 11) (f := 9) (t := 100) h0 rfl) hF (fun v1 hF => ?_)
    refine Ev_p 0 (c' := (190, [some (.ref a0), some (.int x1), none], [.int v1, .int x1])) rfl ?_
    refine Ez_if (M := zM184) (b := v1 ≤ x1) rfl rfl hF (fun _ hF => ?_) (fun _ hF => ?_)
    · refine Ev_p 1 (c' := (222, [some (.ref a0), some (.int x1), none], [.int (-1)])) rfl ?_
      exact Ez_ri (M := zM184) rfl rfl hF
    · refine Ev_p 5 (c' := (199, [some (.ref a0), some (.int x1), none], [.int 110, .int x1, .int 0, .ref a0, .ref a0])) rfl ?_
      refine Ez_ci (M := zM184) (As := [.ref a0, .int 0, .int x1, .int 110]) (st' := [.ref a0]) (am_site_v (y := 185) (k := 4) (ci := 11) rfl rfl (zrcv rfl h0 rfl)) (Nat.le_of_ble_eq_true rfl) (Nat.le_of_ble_eq_true rfl) rfl rfl (fun _ _ hF => zf185_ok hK h0 hF) hF (fun v2 s3 hF => ?_)
      refine Ev_p 0 (c' := (202, [some (.ref a0), some (.int x1), none], [.int v2, .ref a0])) rfl ?_
      refine Ez_ci (M := zM184) (As := [.ref a0, .int v2]) (st' := []) (am_site_v (y := 187) (k := 2) (ci := 11) rfl rfl (zrcv rfl h0 rfl)) (Nat.le_of_ble_eq_true rfl) (Nat.le_of_ble_eq_true rfl) rfl rfl (fun _ _ hF => zf187_ok hK h0 hF) hF (fun v4 s5 hF => ?_)
      refine Ev_p 0 (c' := (205, [some (.ref a0), some (.int x1), none], [.int v4])) rfl ?_
      refine Ez_if (M := zM184) (b := ¬ v4 = 0) rfl rfl hF (fun _ hF => ?_) (fun _ hF => ?_)
      · refine Ev_p 2 (c' := (183, [some (.ref a0), some (.int (x1 + 1)), none], [])) rfl ?_
        exact ih hF
      · refine Ev_p 1 (c' := (209, [some (.ref a0), some (.int x1), none], [.ref a0])) rfl ?_
        refine Ez_gr (M := zM184) (ci := 11) (f := 11) (t := 100) rfl rfl h0 rfl ?_
        refine Ev_p 1 (c' := (213, [some (.ref a0), some (.int x1), none], [.int x1, .ref (zrf a0 11)])) rfl ?_
        refine Ez_al (M := zM184) rfl (zty (ci := 11) (f := 11) (t := 100) h0 rfl) hF (fun v6 hF => ?_)
        refine Ev_p 0 (c' := (214, [some (.ref a0), some (.int x1), none], [.int v6])) rfl ?_
        exact Ez_ri (M := zM184) rfl rfl hF
noncomputable def zf184_136 (a0 : Nat)  : Nat → Int32 → zS → Option (Int32 × zS)
  | 0, _, _ => none
  | n + 1, x1, s =>
    zal s (zrf a0 9) 0 fun v1 =>
    if v1 ≤ x1 then
      zf184_183 a0 zfz 1 s
    else
      zbi (zf185 a0 0 x1 102 s) fun v2 s3 =>
      if v2 < 0 then
        zf184_136 a0 n (x1 + 1) s3
      else
        zal s3 (zrf a0 19) v2 fun v4 =>
        if ¬ v4 = 0 then
          zf184_136 a0 n (x1 + 1) s3
        else
          zal s3 (zrf a0 11) x1 fun v5 =>
          some (v5, s3)
theorem zf184_136_ok {K : cx_K} (hK : Kok K) {lg : Nat → Int64} {v : Int32} {s' : zS} {a0 : Nat} (h0 : zsh a0 = 11)   {n : Nat} : ∀ {x1 : Int32} {s : zS}, zf184_136 a0 n x1 s = some (v, s') → Ev K zM184 (136, [some (.ref a0), some (.int x1), none], [], zmk lg s) 0 (.inl (some (.int v))) (zmk lg s') 0 := by
  induction n with
  | zero => intro x1 s hF; rw [zf184_136] at hF; cases hF
  | succ n ih =>
    intro x1 s hF
    rw [zf184_136] at hF
    refine Ev_p 2 (c' := (138, [some (.ref a0), some (.int x1), none], [.ref a0, .int x1])) rfl ?_
    refine Ez_gr (M := zM184) (ci := 11) (f := 9) (t := 100) rfl rfl h0 rfl ?_
    refine Ev_p 1 (c' := (142, [some (.ref a0), some (.int x1), none], [.int 0, .ref (zrf a0 9), .int x1])) rfl ?_
    refine Ez_al (M := zM184) rfl (zty (ci := 11) (f := 9) (t := 100) h0 rfl) hF (fun v1 hF => ?_)
    refine Ev_p 0 (c' := (143, [some (.ref a0), some (.int x1), none], [.int v1, .int x1])) rfl ?_
    refine Ez_if (M := zM184) (b := v1 ≤ x1) rfl rfl hF (fun _ hF => ?_) (fun _ hF => ?_)
    · refine Ev_p 2 (c' := (183, [some (.ref a0), some (.int 1), none], [])) rfl ?_
      exact zf184_183_ok hK h0 hF
    · refine Ev_p 4 (c' := (151, [some (.ref a0), some (.int x1), none], [.int 102, .int x1, .int 0, .ref a0])) rfl ?_
      refine Ez_ci (M := zM184) (As := [.ref a0, .int 0, .int x1, .int 102]) (st' := []) (am_site_v (y := 185) (k := 4) (ci := 11) rfl rfl (zrcv rfl h0 rfl)) (Nat.le_of_ble_eq_true rfl) (Nat.le_of_ble_eq_true rfl) rfl rfl (fun _ _ hF => zf185_ok hK h0 hF) hF (fun v2 s3 hF => ?_)
      refine Ev_p 2 (c' := (156, [some (.ref a0), some (.int x1), some (.int v2)], [.int v2])) rfl ?_
      refine Ez_if (M := zM184) (b := v2 < 0) rfl rfl hF (fun _ hF => ?_) (fun _ hF => ?_)
      · refine Ev_p 2 (c' := (136, [some (.ref a0), some (.int (x1 + 1)), some (.int v2)], [])) rfl ?_
        refine Ev_w (L' := [some (.ref a0), some (.int (x1 + 1)), none]) (zle_c (zle_c (zle_n zle_0))) ?_
        exact ih hF
      · refine Ev_p 1 (c' := (160, [some (.ref a0), some (.int x1), some (.int v2)], [.ref a0])) rfl ?_
        refine Ez_gr (M := zM184) (ci := 11) (f := 19) (t := 101) rfl rfl h0 rfl ?_
        refine Ev_p 1 (c' := (164, [some (.ref a0), some (.int x1), some (.int v2)], [.int v2, .ref (zrf a0 19)])) rfl ?_
        refine Ez_bl (M := zM184) rfl (zty (ci := 11) (f := 19) (t := 101) h0 rfl) hF (fun v4 hF => ?_)
        refine Ev_p 0 (c' := (165, [some (.ref a0), some (.int x1), some (.int v2)], [.int v4])) rfl ?_
        refine Ez_if (M := zM184) (b := ¬ v4 = 0) rfl rfl hF (fun _ hF => ?_) (fun _ hF => ?_)
        · refine Ev_p 2 (c' := (136, [some (.ref a0), some (.int (x1 + 1)), some (.int v2)], [])) rfl ?_
          refine Ev_w (L' := [some (.ref a0), some (.int (x1 + 1)), none]) (zle_c (zle_c (zle_n zle_0))) ?_
          exact ih hF
        · refine Ev_p 1 (c' := (169, [some (.ref a0), some (.int x1), some (.int v2)], [.ref a0])) rfl ?_
          refine Ez_gr (M := zM184) (ci := 11) (f := 11) (t := 100) rfl rfl h0 rfl ?_
          refine Ev_p 1 (c' := (173, [some (.ref a0), some (.int x1), some (.int v2)], [.int x1, .ref (zrf a0 11)])) rfl ?_
          refine Ez_al (M := zM184) rfl (zty (ci := 11) (f := 11) (t := 100) h0 rfl) hF (fun v5 hF => ?_)
          refine Ev_p 0 (c' := (174, [some (.ref a0), some (.int x1), some (.int v2)], [.int v5])) rfl ?_
          exact Ez_ri (M := zM184) rfl rfl hF
noncomputable def zf184_23 (a0 : Nat)  : Nat → Int32 → zS → Option (Int32 × zS)
  | 0, _, _ => none
  | n + 1, x1, s =>
    zal s (zrf a0 9) 0 fun v1 =>
    if v1 ≤ x1 then
      zf184_136 a0 zfz 1 s
    else
      zbi (zf185 a0 0 x1 110 s) fun v2 s3 =>
      zal s3 (zrf a0 19) v2 fun v4 =>
      if v4 = 0 then
        zbs s3 (zrf a0 19) v2 1 fun s5 =>
        zbi (zf185 a0 0 x1 102 s5) fun v6 s7 =>
        zas s7 (zrf a0 20) v2 v6 fun s8 =>
        zbi (zf186 a0 x1 98 s8) fun v9 s10 =>
        zas s10 (zrf a0 21) (3 * v2) v9 fun s11 =>
        zbi (zf186 a0 x1 122 s11) fun v12 s13 =>
        zas s13 (zrf a0 21) ((3 * v2) + 1) v12 fun s14 =>
        zbi (zf186 a0 x1 107 s14) fun v15 s16 =>
        zas s16 (zrf a0 21) ((3 * v2) + 2) v15 fun s17 =>
        zf184_23 a0 n (x1 + 1) s17
      else
        zal s3 (zrf a0 11) x1 fun v18 =>
        some (v18, s3)
theorem zf184_23_ok {K : cx_K} (hK : Kok K) {lg : Nat → Int64} {v : Int32} {s' : zS} {a0 : Nat} (h0 : zsh a0 = 11)   {n : Nat} : ∀ {x1 : Int32} {s : zS}, zf184_23 a0 n x1 s = some (v, s') → Ev K zM184 (23, [some (.ref a0), some (.int x1), none], [], zmk lg s) 0 (.inl (some (.int v))) (zmk lg s') 0 := by
  induction n with
  | zero => intro x1 s hF; rw [zf184_23] at hF; cases hF
  | succ n ih =>
    intro x1 s hF
    rw [zf184_23] at hF
    refine Ev_p 2 (c' := (25, [some (.ref a0), some (.int x1), none], [.ref a0, .int x1])) rfl ?_
    refine Ez_gr (M := zM184) (ci := 11) (f := 9) (t := 100) rfl rfl h0 rfl ?_
    refine Ev_p 1 (c' := (29, [some (.ref a0), some (.int x1), none], [.int 0, .ref (zrf a0 9), .int x1])) rfl ?_
    refine Ez_al (M := zM184) rfl (zty (ci := 11) (f := 9) (t := 100) h0 rfl) hF (fun v1 hF => ?_)
    refine Ev_p 0 (c' := (30, [some (.ref a0), some (.int x1), none], [.int v1, .int x1])) rfl ?_
    refine Ez_if (M := zM184) (b := v1 ≤ x1) rfl rfl hF (fun _ hF => ?_) (fun _ hF => ?_)
    · refine Ev_p 2 (c' := (136, [some (.ref a0), some (.int 1), none], [])) rfl ?_
      exact zf184_136_ok hK h0 hF
    · refine Ev_p 4 (c' := (38, [some (.ref a0), some (.int x1), none], [.int 110, .int x1, .int 0, .ref a0])) rfl ?_
      refine Ez_ci (M := zM184) (As := [.ref a0, .int 0, .int x1, .int 110]) (st' := []) (am_site_v (y := 185) (k := 4) (ci := 11) rfl rfl (zrcv rfl h0 rfl)) (Nat.le_of_ble_eq_true rfl) (Nat.le_of_ble_eq_true rfl) rfl rfl (fun _ _ hF => zf185_ok hK h0 hF) hF (fun v2 s3 hF => ?_)
      refine Ev_p 2 (c' := (43, [some (.ref a0), some (.int x1), some (.int v2)], [.ref a0])) rfl ?_
      refine Ez_gr (M := zM184) (ci := 11) (f := 19) (t := 101) rfl rfl h0 rfl ?_
      refine Ev_p 1 (c' := (47, [some (.ref a0), some (.int x1), some (.int v2)], [.int v2, .ref (zrf a0 19)])) rfl ?_
      refine Ez_bl (M := zM184) rfl (zty (ci := 11) (f := 19) (t := 101) h0 rfl) hF (fun v4 hF => ?_)
      refine Ev_p 0 (c' := (48, [some (.ref a0), some (.int x1), some (.int v2)], [.int v4])) rfl ?_
      refine Ez_if (M := zM184) (b := v4 = 0) rfl rfl hF (fun _ hF => ?_) (fun _ hF => ?_)
      · refine Ev_p 1 (c' := (59, [some (.ref a0), some (.int x1), some (.int v2)], [.ref a0])) rfl ?_
        refine Ez_gr (M := zM184) (ci := 11) (f := 19) (t := 101) rfl rfl h0 rfl ?_
        refine Ev_p 2 (c' := (64, [some (.ref a0), some (.int x1), some (.int v2)], [.int 1, .int v2, .ref (zrf a0 19)])) rfl ?_
        refine Ez_bs (M := zM184) rfl (zty (ci := 11) (f := 19) (t := 101) h0 rfl) hF (fun s5 hF => ?_)
        refine Ev_p 1 (c' := (66, [some (.ref a0), some (.int x1), some (.int v2)], [.ref a0])) rfl ?_
        refine Ez_gr (M := zM184) (ci := 11) (f := 20) (t := 100) rfl rfl h0 rfl ?_
        refine Ev_p 5 (c' := (75, [some (.ref a0), some (.int x1), some (.int v2)], [.int 102, .int x1, .int 0, .ref a0, .int v2, .ref (zrf a0 20)])) rfl ?_
        refine Ez_ci (M := zM184) (As := [.ref a0, .int 0, .int x1, .int 102]) (st' := [.int v2, .ref (zrf a0 20)]) (am_site_v (y := 185) (k := 4) (ci := 11) rfl rfl (zrcv rfl h0 rfl)) (Nat.le_of_ble_eq_true rfl) (Nat.le_of_ble_eq_true rfl) rfl rfl (fun _ _ hF => zf185_ok hK h0 hF) hF (fun v6 s7 hF => ?_)
        refine Ev_p 0 (c' := (78, [some (.ref a0), some (.int x1), some (.int v2)], [.int v6, .int v2, .ref (zrf a0 20)])) rfl ?_
        refine Ez_as (M := zM184) rfl (zty (ci := 11) (f := 20) (t := 100) h0 rfl) hF (fun s8 hF => ?_)
        refine Ev_p 1 (c' := (80, [some (.ref a0), some (.int x1), some (.int v2)], [.ref a0])) rfl ?_
        refine Ez_gr (M := zM184) (ci := 11) (f := 21) (t := 100) rfl rfl h0 rfl ?_
        refine Ev_p 6 (c' := (90, [some (.ref a0), some (.int x1), some (.int v2)], [.int 98, .int x1, .ref a0, .int (3 * v2), .ref (zrf a0 21)])) rfl ?_
        refine Ez_ci (M := zM184) (As := [.ref a0, .int x1, .int 98]) (st' := [.int (3 * v2), .ref (zrf a0 21)]) (am_site_v (y := 186) (k := 3) (ci := 11) rfl rfl (zrcv rfl h0 rfl)) (Nat.le_of_ble_eq_true rfl) (Nat.le_of_ble_eq_true rfl) rfl rfl (fun _ _ hF => zf186_ok hK h0 hF) hF (fun v9 s10 hF => ?_)
        refine Ev_p 0 (c' := (93, [some (.ref a0), some (.int x1), some (.int v2)], [.int v9, .int (3 * v2), .ref (zrf a0 21)])) rfl ?_
        refine Ez_as (M := zM184) rfl (zty (ci := 11) (f := 21) (t := 100) h0 rfl) hF (fun s11 hF => ?_)
        refine Ev_p 1 (c' := (95, [some (.ref a0), some (.int x1), some (.int v2)], [.ref a0])) rfl ?_
        refine Ez_gr (M := zM184) (ci := 11) (f := 21) (t := 100) rfl rfl h0 rfl ?_
        refine Ev_p 8 (c' := (107, [some (.ref a0), some (.int x1), some (.int v2)], [.int 122, .int x1, .ref a0, .int ((3 * v2) + 1), .ref (zrf a0 21)])) rfl ?_
        refine Ez_ci (M := zM184) (As := [.ref a0, .int x1, .int 122]) (st' := [.int ((3 * v2) + 1), .ref (zrf a0 21)]) (am_site_v (y := 186) (k := 3) (ci := 11) rfl rfl (zrcv rfl h0 rfl)) (Nat.le_of_ble_eq_true rfl) (Nat.le_of_ble_eq_true rfl) rfl rfl (fun _ _ hF => zf186_ok hK h0 hF) hF (fun v12 s13 hF => ?_)
        refine Ev_p 0 (c' := (110, [some (.ref a0), some (.int x1), some (.int v2)], [.int v12, .int ((3 * v2) + 1), .ref (zrf a0 21)])) rfl ?_
        refine Ez_as (M := zM184) rfl (zty (ci := 11) (f := 21) (t := 100) h0 rfl) hF (fun s14 hF => ?_)
        refine Ev_p 1 (c' := (112, [some (.ref a0), some (.int x1), some (.int v2)], [.ref a0])) rfl ?_
        refine Ez_gr (M := zM184) (ci := 11) (f := 21) (t := 100) rfl rfl h0 rfl ?_
        refine Ev_p 8 (c' := (124, [some (.ref a0), some (.int x1), some (.int v2)], [.int 107, .int x1, .ref a0, .int ((3 * v2) + 2), .ref (zrf a0 21)])) rfl ?_
        refine Ez_ci (M := zM184) (As := [.ref a0, .int x1, .int 107]) (st' := [.int ((3 * v2) + 2), .ref (zrf a0 21)]) (am_site_v (y := 186) (k := 3) (ci := 11) rfl rfl (zrcv rfl h0 rfl)) (Nat.le_of_ble_eq_true rfl) (Nat.le_of_ble_eq_true rfl) rfl rfl (fun _ _ hF => zf186_ok hK h0 hF) hF (fun v15 s16 hF => ?_)
        refine Ev_p 0 (c' := (127, [some (.ref a0), some (.int x1), some (.int v2)], [.int v15, .int ((3 * v2) + 2), .ref (zrf a0 21)])) rfl ?_
        refine Ez_as (M := zM184) rfl (zty (ci := 11) (f := 21) (t := 100) h0 rfl) hF (fun s17 hF => ?_)
        refine Ev_p 2 (c' := (23, [some (.ref a0), some (.int (x1 + 1)), some (.int v2)], [])) rfl ?_
        refine Ev_w (L' := [some (.ref a0), some (.int (x1 + 1)), none]) (zle_c (zle_c (zle_n zle_0))) ?_
        exact ih hF
      · refine Ev_p 1 (c' := (52, [some (.ref a0), some (.int x1), some (.int v2)], [.ref a0])) rfl ?_
        refine Ez_gr (M := zM184) (ci := 11) (f := 11) (t := 100) rfl rfl h0 rfl ?_
        refine Ev_p 1 (c' := (56, [some (.ref a0), some (.int x1), some (.int v2)], [.int x1, .ref (zrf a0 11)])) rfl ?_
        refine Ez_al (M := zM184) rfl (zty (ci := 11) (f := 11) (t := 100) h0 rfl) hF (fun v18 hF => ?_)
        refine Ev_p 0 (c' := (57, [some (.ref a0), some (.int x1), some (.int v2)], [.int v18])) rfl ?_
        exact Ez_ri (M := zM184) rfl rfl hF
noncomputable def zf184_2 (a0 : Nat)  : Nat → Int32 → zS → Option (Int32 × zS)
  | 0, _, _ => none
  | n + 1, x1, s =>
    if 26 ≤ x1 then
      zf184_23 a0 zfz 1 s
    else
      zbs s (zrf a0 19) x1 0 fun s1 =>
      zf184_2 a0 n (x1 + 1) s1
theorem zf184_2_ok {K : cx_K} (hK : Kok K) {lg : Nat → Int64} {v : Int32} {s' : zS} {a0 : Nat} (h0 : zsh a0 = 11)   {n : Nat} : ∀ {x1 : Int32} {s : zS}, zf184_2 a0 n x1 s = some (v, s') → Ev K zM184 (2, [some (.ref a0), some (.int x1), none], [], zmk lg s) 0 (.inl (some (.int v))) (zmk lg s') 0 := by
  induction n with
  | zero => intro x1 s hF; rw [zf184_2] at hF; cases hF
  | succ n ih =>
    intro x1 s hF
    rw [zf184_2] at hF
    refine Ev_p 2 (c' := (5, [some (.ref a0), some (.int x1), none], [.int 26, .int x1])) rfl ?_
    refine Ez_if (M := zM184) (b := 26 ≤ x1) rfl rfl hF (fun _ hF => ?_) (fun _ hF => ?_)
    · refine Ev_p 2 (c' := (23, [some (.ref a0), some (.int 1), none], [])) rfl ?_
      exact zf184_23_ok hK h0 hF
    · refine Ev_p 1 (c' := (9, [some (.ref a0), some (.int x1), none], [.ref a0])) rfl ?_
      refine Ez_gr (M := zM184) (ci := 11) (f := 19) (t := 101) rfl rfl h0 rfl ?_
      refine Ev_p 2 (c' := (14, [some (.ref a0), some (.int x1), none], [.int 0, .int x1, .ref (zrf a0 19)])) rfl ?_
      refine Ez_bs (M := zM184) rfl (zty (ci := 11) (f := 19) (t := 101) h0 rfl) hF (fun s1 hF => ?_)
      refine Ev_p 2 (c' := (2, [some (.ref a0), some (.int (x1 + 1)), none], [])) rfl ?_
      exact ih hF
noncomputable def zf184 (a0 : Nat) (s : zS) : Option (Int32 × zS) :=
  zf184_2 a0 zfz 0 s
theorem zf184_ok {K : cx_K} (hK : Kok K) {lg : Nat → Int64} {v : Int32} {s' : zS} {a0 : Nat} (h0 : zsh a0 = 11)  {s : zS} (hF : zf184 a0 s = some (v, s')) : Ct K 184 [.ref a0] (zmk lg s) (.inl (some (.int v))) (zmk lg s') 0 := by
  unfold zf184 at hF
  refine Ct_of hK nd_ok184 (mL := 3) (rt := some .int) rfl rfl (Nat.le_of_ble_eq_true rfl) zlen_le ?_
  refine Ev_p 2 (c' := (2, [some (.ref a0), some (.int 0), none], [])) rfl ?_
  exact zf184_2_ok hK h0 hF
-- PaperParcelsModel.unknownStyle()I
abbrev zM188 : ev_M := (am_in nd_i188, am_fl nd_f11, am_ct nd_k11, am_sl nd_ml nd_s188, fun _ => none, some .int)
noncomputable def zf188_2 (a0 : Nat)  : Nat → Int32 → zS → Option (Int32 × zS)
  | 0, _, _ => none
  | n + 1, x1, s =>
    zal s (zrf a0 9) 1 fun v1 =>
    if v1 ≤ x1 then
      some ((-1), s)
    else
      zbi (zf185 a0 1 x1 121 s) fun v2 s3 =>
      if v2 < 0 then
        zf188_2 a0 n (x1 + 1) s3
      else
        zal s3 (zrf a0 19) v2 fun v4 =>
        if ¬ v4 = 0 then
          zf188_2 a0 n (x1 + 1) s3
        else
          zal s3 (zrf a0 11) (30 + x1) fun v5 =>
          some ((1000 + v5), s3)
theorem zf188_2_ok {K : cx_K} (hK : Kok K) {lg : Nat → Int64} {v : Int32} {s' : zS} {a0 : Nat} (h0 : zsh a0 = 11)   {n : Nat} : ∀ {x1 : Int32} {s : zS}, zf188_2 a0 n x1 s = some (v, s') → Ev K zM188 (2, [some (.ref a0), some (.int x1), none], [], zmk lg s) 0 (.inl (some (.int v))) (zmk lg s') 0 := by
  induction n with
  | zero => intro x1 s hF; rw [zf188_2] at hF; cases hF
  | succ n ih =>
    intro x1 s hF
    rw [zf188_2] at hF
    refine Ev_p 2 (c' := (4, [some (.ref a0), some (.int x1), none], [.ref a0, .int x1])) rfl ?_
    refine Ez_gr (M := zM188) (ci := 11) (f := 9) (t := 100) rfl rfl h0 rfl ?_
    refine Ev_p 1 (c' := (8, [some (.ref a0), some (.int x1), none], [.int 1, .ref (zrf a0 9), .int x1])) rfl ?_
    refine Ez_al (M := zM188) rfl (zty (ci := 11) (f := 9) (t := 100) h0 rfl) hF (fun v1 hF => ?_)
    refine Ev_p 0 (c' := (9, [some (.ref a0), some (.int x1), none], [.int v1, .int x1])) rfl ?_
    refine Ez_if (M := zM188) (b := v1 ≤ x1) rfl rfl hF (fun _ hF => ?_) (fun _ hF => ?_)
    · refine Ev_p 1 (c' := (55, [some (.ref a0), some (.int x1), none], [.int (-1)])) rfl ?_
      exact Ez_ri (M := zM188) rfl rfl hF
    · refine Ev_p 4 (c' := (17, [some (.ref a0), some (.int x1), none], [.int 121, .int x1, .int 1, .ref a0])) rfl ?_
      refine Ez_ci (M := zM188) (As := [.ref a0, .int 1, .int x1, .int 121]) (st' := []) (am_site_v (y := 185) (k := 4) (ci := 11) rfl rfl (zrcv rfl h0 rfl)) (Nat.le_of_ble_eq_true rfl) (Nat.le_of_ble_eq_true rfl) rfl rfl (fun _ _ hF => zf185_ok hK h0 hF) hF (fun v2 s3 hF => ?_)
      refine Ev_p 2 (c' := (22, [some (.ref a0), some (.int x1), some (.int v2)], [.int v2])) rfl ?_
      refine Ez_if (M := zM188) (b := v2 < 0) rfl rfl hF (fun _ hF => ?_) (fun _ hF => ?_)
      · refine Ev_p 2 (c' := (2, [some (.ref a0), some (.int (x1 + 1)), some (.int v2)], [])) rfl ?_
        refine Ev_w (L' := [some (.ref a0), some (.int (x1 + 1)), none]) (zle_c (zle_c (zle_n zle_0))) ?_
        exact ih hF
      · refine Ev_p 1 (c' := (26, [some (.ref a0), some (.int x1), some (.int v2)], [.ref a0])) rfl ?_
        refine Ez_gr (M := zM188) (ci := 11) (f := 19) (t := 101) rfl rfl h0 rfl ?_
        refine Ev_p 1 (c' := (30, [some (.ref a0), some (.int x1), some (.int v2)], [.int v2, .ref (zrf a0 19)])) rfl ?_
        refine Ez_bl (M := zM188) rfl (zty (ci := 11) (f := 19) (t := 101) h0 rfl) hF (fun v4 hF => ?_)
        refine Ev_p 0 (c' := (31, [some (.ref a0), some (.int x1), some (.int v2)], [.int v4])) rfl ?_
        refine Ez_if (M := zM188) (b := ¬ v4 = 0) rfl rfl hF (fun _ hF => ?_) (fun _ hF => ?_)
        · refine Ev_p 2 (c' := (2, [some (.ref a0), some (.int (x1 + 1)), some (.int v2)], [])) rfl ?_
          refine Ev_w (L' := [some (.ref a0), some (.int (x1 + 1)), none]) (zle_c (zle_c (zle_n zle_0))) ?_
          exact ih hF
        · refine Ev_p 2 (c' := (38, [some (.ref a0), some (.int x1), some (.int v2)], [.ref a0, .int 1000])) rfl ?_
          refine Ez_gr (M := zM188) (ci := 11) (f := 11) (t := 100) rfl rfl h0 rfl ?_
          refine Ev_p 3 (c' := (45, [some (.ref a0), some (.int x1), some (.int v2)], [.int (30 + x1), .ref (zrf a0 11), .int 1000])) rfl ?_
          refine Ez_al (M := zM188) rfl (zty (ci := 11) (f := 11) (t := 100) h0 rfl) hF (fun v5 hF => ?_)
          refine Ev_p 1 (c' := (47, [some (.ref a0), some (.int x1), some (.int v2)], [.int (1000 + v5)])) rfl ?_
          exact Ez_ri (M := zM188) rfl rfl hF
noncomputable def zf188 (a0 : Nat) (s : zS) : Option (Int32 × zS) :=
  zf188_2 a0 zfz 0 s
theorem zf188_ok {K : cx_K} (hK : Kok K) {lg : Nat → Int64} {v : Int32} {s' : zS} {a0 : Nat} (h0 : zsh a0 = 11)  {s : zS} (hF : zf188 a0 s = some (v, s')) : Ct K 188 [.ref a0] (zmk lg s) (.inl (some (.int v))) (zmk lg s') 0 := by
  unfold zf188 at hF
  refine Ct_of hK nd_ok188 (mL := 3) (rt := some .int) rfl rfl (Nat.le_of_ble_eq_true rfl) zlen_le ?_
  refine Ev_p 2 (c' := (2, [some (.ref a0), some (.int 0), none], [])) rfl ?_
  exact zf188_2_ok hK h0 hF
-- PaperParcelsModel.addNode(III)V
abbrev zM190 : ev_M := (am_in nd_i190, am_fl nd_f11, am_ct nd_k11, am_sl nd_ml nd_s190, fun _ => none, none)
noncomputable def zf190_53 (a0 : Nat)  : Nat → Int32 → Int32 → Int32 → zS → Option (zS)
  | 0, _, _, _, _ => none
  | n + 1, x1, x4, x5, s =>
    if 3 ≤ x5 then
      zal s (zrf a0 22) x1 fun v1 =>
      zas s (zrf a0 22) x1 (v1 + 1) fun s2 =>
      some s2
    else
      zas s (zrf a0 25) ((3 * x4) + x5) (-1) fun s3 =>
      zf190_53 a0 n x1 x4 (x5 + 1) s3
theorem zf190_53_ok {K : cx_K} (hK : Kok K) {lg : Nat → Int64} {s' : zS} {a0 : Nat} (h0 : zsh a0 = 11)   {n : Nat} : ∀ {x1 : Int32} {x4 : Int32} {x5 : Int32} {s : zS}, zf190_53 a0 n x1 x4 x5 s = some s' → Ev K zM190 (53, [some (.ref a0), some (.int x1), none, none, some (.int x4), some (.int x5)], [], zmk lg s) 0 (.inl none) (zmk lg s') 0 := by
  induction n with
  | zero => intro x1 x4 x5 s hF; rw [zf190_53] at hF; cases hF
  | succ n ih =>
    intro x1 x4 x5 s hF
    rw [zf190_53] at hF
    refine Ev_p 2 (c' := (56, [some (.ref a0), some (.int x1), none, none, some (.int x4), some (.int x5)], [.int 3, .int x5])) rfl ?_
    refine Ez_if (M := zM190) (b := 3 ≤ x5) rfl rfl hF (fun _ hF => ?_) (fun _ hF => ?_)
    · refine Ev_p 1 (c' := (79, [some (.ref a0), some (.int x1), none, none, some (.int x4), some (.int x5)], [.ref a0])) rfl ?_
      refine Ez_gr (M := zM190) (ci := 11) (f := 22) (t := 100) rfl rfl h0 rfl ?_
      refine Ev_p 2 (c' := (84, [some (.ref a0), some (.int x1), none, none, some (.int x4), some (.int x5)], [.int x1, .ref (zrf a0 22), .int x1, .ref (zrf a0 22)])) rfl ?_
      refine Ez_al (M := zM190) rfl (zty (ci := 11) (f := 22) (t := 100) h0 rfl) hF (fun v1 hF => ?_)
      refine Ev_p 2 (c' := (87, [some (.ref a0), some (.int x1), none, none, some (.int x4), some (.int x5)], [.int (v1 + 1), .int x1, .ref (zrf a0 22)])) rfl ?_
      refine Ez_as (M := zM190) rfl (zty (ci := 11) (f := 22) (t := 100) h0 rfl) hF (fun s2 hF => ?_)
      refine Ev_p 0 (c' := (88, [some (.ref a0), some (.int x1), none, none, some (.int x4), some (.int x5)], [])) rfl ?_
      exact Ez_rv (M := zM190) rfl rfl hF
    · refine Ev_p 1 (c' := (60, [some (.ref a0), some (.int x1), none, none, some (.int x4), some (.int x5)], [.ref a0])) rfl ?_
      refine Ez_gr (M := zM190) (ci := 11) (f := 25) (t := 100) rfl rfl h0 rfl ?_
      refine Ev_p 6 (c' := (71, [some (.ref a0), some (.int x1), none, none, some (.int x4), some (.int x5)], [.int (-1), .int ((3 * x4) + x5), .ref (zrf a0 25)])) rfl ?_
      refine Ez_as (M := zM190) rfl (zty (ci := 11) (f := 25) (t := 100) h0 rfl) hF (fun s3 hF => ?_)
      refine Ev_p 2 (c' := (53, [some (.ref a0), some (.int x1), none, none, some (.int x4), some (.int (x5 + 1))], [])) rfl ?_
      exact ih hF
noncomputable def zf190 (a0 : Nat) (x1 : Int32) (x2 : Int32) (x3 : Int32) (s : zS) : Option (zS) :=
  zal s (zrf a0 22) x1 fun v1 =>
  zas s (zrf a0 23) ((100 * x1) + v1) x2 fun s2 =>
  zas s2 (zrf a0 24) ((100 * x1) + v1) x3 fun s3 =>
  zal s3 (zrf a0 28) x1 fun v4 =>
  zas s3 (zrf a0 26) ((100 * x1) + v1) v4 fun s5 =>
  zas s5 (zrf a0 27) ((100 * x1) + v1) 0 fun s6 =>
  zf190_53 a0 zfz x1 ((100 * x1) + v1) 0 s6
theorem zf190_ok {K : cx_K} (hK : Kok K) {lg : Nat → Int64} {s' : zS} {a0 : Nat} (h0 : zsh a0 = 11) {x1 : Int32} {x2 : Int32} {x3 : Int32} {s : zS} (hF : zf190 a0 x1 x2 x3 s = some s') : Ct K 190 [.ref a0, .int x1, .int x2, .int x3] (zmk lg s) (.inl none) (zmk lg s') 0 := by
  unfold zf190 at hF
  refine Ct_of hK nd_ok190 (mL := 6) (rt := none) rfl rfl (Nat.le_of_ble_eq_true rfl) zlen_le ?_
  refine Ev_p 4 (c' := (5, [some (.ref a0), some (.int x1), some (.int x2), some (.int x3), none, none], [.ref a0, .int (100 * x1)])) rfl ?_
  refine Ez_gr (M := zM190) (ci := 11) (f := 22) (t := 100) rfl rfl h0 rfl ?_
  refine Ev_p 1 (c' := (9, [some (.ref a0), some (.int x1), some (.int x2), some (.int x3), none, none], [.int x1, .ref (zrf a0 22), .int (100 * x1)])) rfl ?_
  refine Ez_al (M := zM190) rfl (zty (ci := 11) (f := 22) (t := 100) h0 rfl) hF (fun v1 hF => ?_)
  refine Ev_p 3 (c' := (14, [some (.ref a0), some (.int x1), some (.int x2), some (.int x3), some (.int ((100 * x1) + v1)), none], [.ref a0])) rfl ?_
  refine Ez_gr (M := zM190) (ci := 11) (f := 23) (t := 100) rfl rfl h0 rfl ?_
  refine Ev_p 2 (c' := (20, [some (.ref a0), some (.int x1), some (.int x2), some (.int x3), some (.int ((100 * x1) + v1)), none], [.int x2, .int ((100 * x1) + v1), .ref (zrf a0 23)])) rfl ?_
  refine Ez_as (M := zM190) rfl (zty (ci := 11) (f := 23) (t := 100) h0 rfl) hF (fun s2 hF => ?_)
  refine Ev_p 1 (c' := (22, [some (.ref a0), some (.int x1), some (.int x2), some (.int x3), some (.int ((100 * x1) + v1)), none], [.ref a0])) rfl ?_
  refine Ez_gr (M := zM190) (ci := 11) (f := 24) (t := 100) rfl rfl h0 rfl ?_
  refine Ev_p 2 (c' := (28, [some (.ref a0), some (.int x1), some (.int x2), some (.int x3), some (.int ((100 * x1) + v1)), none], [.int x3, .int ((100 * x1) + v1), .ref (zrf a0 24)])) rfl ?_
  refine Ez_as (M := zM190) rfl (zty (ci := 11) (f := 24) (t := 100) h0 rfl) hF (fun s3 hF => ?_)
  refine Ev_p 1 (c' := (30, [some (.ref a0), some (.int x1), some (.int x2), some (.int x3), some (.int ((100 * x1) + v1)), none], [.ref a0])) rfl ?_
  refine Ez_gr (M := zM190) (ci := 11) (f := 26) (t := 100) rfl rfl h0 rfl ?_
  refine Ev_p 2 (c' := (36, [some (.ref a0), some (.int x1), some (.int x2), some (.int x3), some (.int ((100 * x1) + v1)), none], [.ref a0, .int ((100 * x1) + v1), .ref (zrf a0 26)])) rfl ?_
  refine Ez_gr (M := zM190) (ci := 11) (f := 28) (t := 100) rfl rfl h0 rfl ?_
  refine Ev_p 1 (c' := (40, [some (.ref a0), some (.int x1), some (.int x2), some (.int x3), some (.int ((100 * x1) + v1)), none], [.int x1, .ref (zrf a0 28), .int ((100 * x1) + v1), .ref (zrf a0 26)])) rfl ?_
  refine Ez_al (M := zM190) rfl (zty (ci := 11) (f := 28) (t := 100) h0 rfl) hF (fun v4 hF => ?_)
  refine Ev_p 0 (c' := (41, [some (.ref a0), some (.int x1), some (.int x2), some (.int x3), some (.int ((100 * x1) + v1)), none], [.int v4, .int ((100 * x1) + v1), .ref (zrf a0 26)])) rfl ?_
  refine Ez_as (M := zM190) rfl (zty (ci := 11) (f := 26) (t := 100) h0 rfl) hF (fun s5 hF => ?_)
  refine Ev_p 1 (c' := (43, [some (.ref a0), some (.int x1), some (.int x2), some (.int x3), some (.int ((100 * x1) + v1)), none], [.ref a0])) rfl ?_
  refine Ez_gr (M := zM190) (ci := 11) (f := 27) (t := 100) rfl rfl h0 rfl ?_
  refine Ev_p 2 (c' := (49, [some (.ref a0), some (.int x1), some (.int x2), some (.int x3), some (.int ((100 * x1) + v1)), none], [.int 0, .int ((100 * x1) + v1), .ref (zrf a0 27)])) rfl ?_
  refine Ez_as (M := zM190) rfl (zty (ci := 11) (f := 27) (t := 100) h0 rfl) hF (fun s6 hF => ?_)
  refine Ev_p 2 (c' := (53, [some (.ref a0), some (.int x1), some (.int x2), some (.int x3), some (.int ((100 * x1) + v1)), some (.int 0)], [])) rfl ?_
  refine Ev_w (L' := [some (.ref a0), some (.int x1), none, none, some (.int ((100 * x1) + v1)), some (.int 0)]) (zle_c (zle_c (zle_n (zle_n (zle_c (zle_c zle_0)))))) ?_
  exact zf190_53_ok hK h0 hF
-- PaperParcelsModel.given(II)I
abbrev zM194 : ev_M := (am_in nd_i194, am_fl nd_f11, am_ct nd_k11, am_sl nd_ml nd_s194, fun _ => none, some .int)
noncomputable def zf194_29 (a0 : Nat)  (x2 : Int32) (x3 : Int32) (s : zS) : Option (Int32 × zS) :=
  if 0 ≤ x3 then
    zal s (zrf a0 21) ((3 * x3) + x2) fun v1 =>
    some (v1, s)
  else
    some ((-1), s)
theorem zf194_29_ok {K : cx_K} (hK : Kok K) {lg : Nat → Int64} {v : Int32} {s' : zS} {a0 : Nat} (h0 : zsh a0 = 11)   {x2 : Int32} {x3 : Int32}  {s : zS} (hF : zf194_29 a0 x2 x3 s = some (v, s')) : Ev K zM194 (29, [some (.ref a0), none, some (.int x2), some (.int x3)], [], zmk lg s) 0 (.inl (some (.int v))) (zmk lg s') 0 := by
  unfold zf194_29 at hF
  refine Ev_p 1 (c' := (30, [some (.ref a0), none, some (.int x2), some (.int x3)], [.int x3])) rfl ?_
  refine Ez_if (M := zM194) (b := 0 ≤ x3) rfl rfl hF (fun _ hF => ?_) (fun _ hF => ?_)
  · refine Ev_p 1 (c' := (38, [some (.ref a0), none, some (.int x2), some (.int x3)], [.ref a0])) rfl ?_
    refine Ez_gr (M := zM194) (ci := 11) (f := 21) (t := 100) rfl rfl h0 rfl ?_
    refine Ev_p 5 (c' := (46, [some (.ref a0), none, some (.int x2), some (.int x3)], [.int ((3 * x3) + x2), .ref (zrf a0 21)])) rfl ?_
    refine Ez_al (M := zM194) rfl (zty (ci := 11) (f := 21) (t := 100) h0 rfl) hF (fun v1 hF => ?_)
    refine Ev_p 0 (c' := (47, [some (.ref a0), none, some (.int x2), some (.int x3)], [.int v1])) rfl ?_
    exact Ez_ri (M := zM194) rfl rfl hF
  · refine Ev_p 2 (c' := (47, [some (.ref a0), none, some (.int x2), some (.int x3)], [.int (-1)])) rfl ?_
    exact Ez_ri (M := zM194) rfl rfl hF
noncomputable def zf194_2 (a0 : Nat)  : Nat → Int32 → Int32 → zS → Option (Int32 × zS)
  | 0, _, _, _ => none
  | n + 1, x2, x3, s =>
    if x3 < 0 then
      zf194_29 a0 x2 x3 s
    else
      zal s (zrf a0 21) ((3 * x3) + x2) fun v1 =>
      if 0 ≤ v1 then
        zf194_29 a0 x2 x3 s
      else
        zal s (zrf a0 20) x3 fun v2 =>
        zf194_2 a0 n x2 v2 s
theorem zf194_2_ok {K : cx_K} (hK : Kok K) {lg : Nat → Int64} {v : Int32} {s' : zS} {a0 : Nat} (h0 : zsh a0 = 11)   {n : Nat} : ∀ {x2 : Int32} {x3 : Int32} {s : zS}, zf194_2 a0 n x2 x3 s = some (v, s') → Ev K zM194 (2, [some (.ref a0), none, some (.int x2), some (.int x3)], [], zmk lg s) 0 (.inl (some (.int v))) (zmk lg s') 0 := by
  induction n with
  | zero => intro x2 x3 s hF; rw [zf194_2] at hF; cases hF
  | succ n ih =>
    intro x2 x3 s hF
    rw [zf194_2] at hF
    refine Ev_p 1 (c' := (3, [some (.ref a0), none, some (.int x2), some (.int x3)], [.int x3])) rfl ?_
    refine Ez_if (M := zM194) (b := x3 < 0) rfl rfl hF (fun _ hF => ?_) (fun _ hF => ?_)
    · refine Ev_p 0 (c' := (29, [some (.ref a0), none, some (.int x2), some (.int x3)], [])) rfl ?_
      exact zf194_29_ok hK h0 hF
    · refine Ev_p 1 (c' := (7, [some (.ref a0), none, some (.int x2), some (.int x3)], [.ref a0])) rfl ?_
      refine Ez_gr (M := zM194) (ci := 11) (f := 21) (t := 100) rfl rfl h0 rfl ?_
      refine Ev_p 5 (c' := (15, [some (.ref a0), none, some (.int x2), some (.int x3)], [.int ((3 * x3) + x2), .ref (zrf a0 21)])) rfl ?_
      refine Ez_al (M := zM194) rfl (zty (ci := 11) (f := 21) (t := 100) h0 rfl) hF (fun v1 hF => ?_)
      refine Ev_p 0 (c' := (16, [some (.ref a0), none, some (.int x2), some (.int x3)], [.int v1])) rfl ?_
      refine Ez_if (M := zM194) (b := 0 ≤ v1) rfl rfl hF (fun _ hF => ?_) (fun _ hF => ?_)
      · refine Ev_p 0 (c' := (29, [some (.ref a0), none, some (.int x2), some (.int x3)], [])) rfl ?_
        exact zf194_29_ok hK h0 hF
      · refine Ev_p 1 (c' := (20, [some (.ref a0), none, some (.int x2), some (.int x3)], [.ref a0])) rfl ?_
        refine Ez_gr (M := zM194) (ci := 11) (f := 20) (t := 100) rfl rfl h0 rfl ?_
        refine Ev_p 1 (c' := (24, [some (.ref a0), none, some (.int x2), some (.int x3)], [.int x3, .ref (zrf a0 20)])) rfl ?_
        refine Ez_al (M := zM194) rfl (zty (ci := 11) (f := 20) (t := 100) h0 rfl) hF (fun v2 hF => ?_)
        refine Ev_p 2 (c' := (2, [some (.ref a0), none, some (.int x2), some (.int v2)], [])) rfl ?_
        exact ih hF
noncomputable def zf194 (a0 : Nat) (x1 : Int32) (x2 : Int32) (s : zS) : Option (Int32 × zS) :=
  zf194_2 a0 zfz x2 x1 s
theorem zf194_ok {K : cx_K} (hK : Kok K) {lg : Nat → Int64} {v : Int32} {s' : zS} {a0 : Nat} (h0 : zsh a0 = 11) {x1 : Int32} {x2 : Int32} {s : zS} (hF : zf194 a0 x1 x2 s = some (v, s')) : Ct K 194 [.ref a0, .int x1, .int x2] (zmk lg s) (.inl (some (.int v))) (zmk lg s') 0 := by
  unfold zf194 at hF
  refine Ct_of hK nd_ok194 (mL := 4) (rt := some .int) rfl rfl (Nat.le_of_ble_eq_true rfl) zlen_le ?_
  refine Ev_p 2 (c' := (2, [some (.ref a0), some (.int x1), some (.int x2), some (.int x1)], [])) rfl ?_
  refine Ev_w (L' := [some (.ref a0), none, some (.int x2), some (.int x1)]) (zle_c (zle_n (zle_c (zle_c zle_0)))) ?_
  exact zf194_2_ok hK h0 hF
-- PaperParcelsModel.lookOf(II)I
abbrev zM193 : ev_M := (am_in nd_i193, am_fl nd_f11, am_ct nd_k11, am_sl nd_ml nd_s193, fun _ => none, some .int)
noncomputable def zf193_68 (a0 : Nat) (k5 : Int32 → Int32 → Int32 → zS → Option (Int32 × zS)) (x2 : Int32) (x3 : Int32) (t0 : Int32) (s : zS) : Option (Int32 × zS) :=
  zal s (zrf a0 12) (30 + x3) fun v1 =>
  k5 x2 v1 t0 s
theorem zf193_68_ok {K : cx_K} (hK : Kok K) {lg : Nat → Int64} {v : Int32} {s' : zS} {a0 : Nat} (h0 : zsh a0 = 11) {k5 : Int32 → Int32 → Int32 → zS → Option (Int32 × zS)} (hk5 : ∀ x2 x3 x4 s, k5 x2 x3 x4 s = some (v, s') → Ev K zM193 (5, [some (.ref a0), none, some (.int x2), some (.int x3), some (.int x4), none], [], zmk lg s) 0 (.inl (some (.int v))) (zmk lg s') 0) {x2 : Int32} {x3 : Int32} {t0 : Int32}  {s : zS} (hF : zf193_68 a0 k5 x2 x3 t0 s = some (v, s')) : Ev K zM193 (68, [some (.ref a0), none, some (.int x2), some (.int x3), none, none], [.int t0], zmk lg s) 0 (.inl (some (.int v))) (zmk lg s') 0 := by
  unfold zf193_68 at hF
  refine Ev_p 2 (c' := (71, [some (.ref a0), none, some (.int x2), some (.int x3), some (.int t0), none], [.ref a0])) rfl ?_
  refine Ez_gr (M := zM193) (ci := 11) (f := 12) (t := 100) rfl rfl h0 rfl ?_
  refine Ev_p 3 (c' := (78, [some (.ref a0), none, some (.int x2), some (.int x3), some (.int t0), none], [.int (30 + x3), .ref (zrf a0 12)])) rfl ?_
  refine Ez_al (M := zM193) rfl (zty (ci := 11) (f := 12) (t := 100) h0 rfl) hF (fun v1 hF => ?_)
  refine Ev_p 2 (c' := (5, [some (.ref a0), none, some (.int x2), some (.int v1), some (.int t0), none], [])) rfl ?_
  exact hk5 _ _ _ _ hF
noncomputable def zf193_42 (a0 : Nat) (k5 : Int32 → Int32 → Int32 → zS → Option (Int32 × zS)) (x2 : Int32) (x3 : Int32) (s : zS) : Option (Int32 × zS) :=
  zbi (zf185 a0 1 x3 121 s) fun v1 s2 =>
  if 0 ≤ v1 then
    zbi (zf194 a0 v1 x2 s2) fun v3 s4 =>
    zf193_68 a0 k5 x2 x3 v3 s4
  else
    zf193_68 a0 k5 x2 x3 (-1) s2
theorem zf193_42_ok {K : cx_K} (hK : Kok K) {lg : Nat → Int64} {v : Int32} {s' : zS} {a0 : Nat} (h0 : zsh a0 = 11) {k5 : Int32 → Int32 → Int32 → zS → Option (Int32 × zS)} (hk5 : ∀ x2 x3 x4 s, k5 x2 x3 x4 s = some (v, s') → Ev K zM193 (5, [some (.ref a0), none, some (.int x2), some (.int x3), some (.int x4), none], [], zmk lg s) 0 (.inl (some (.int v))) (zmk lg s') 0) {x2 : Int32} {x3 : Int32}  {s : zS} (hF : zf193_42 a0 k5 x2 x3 s = some (v, s')) : Ev K zM193 (42, [some (.ref a0), none, some (.int x2), some (.int x3), none, none], [], zmk lg s) 0 (.inl (some (.int v))) (zmk lg s') 0 := by
  unfold zf193_42 at hF
  refine Ev_p 4 (c' := (47, [some (.ref a0), none, some (.int x2), some (.int x3), none, none], [.int 121, .int x3, .int 1, .ref a0])) rfl ?_
  refine Ez_ci (M := zM193) (As := [.ref a0, .int 1, .int x3, .int 121]) (st' := []) (am_site_v (y := 185) (k := 4) (ci := 11) rfl rfl (zrcv rfl h0 rfl)) (Nat.le_of_ble_eq_true rfl) (Nat.le_of_ble_eq_true rfl) rfl rfl (fun _ _ hF => zf185_ok hK h0 hF) hF (fun v1 s2 hF => ?_)
  refine Ev_p 2 (c' := (54, [some (.ref a0), none, some (.int x2), some (.int x3), none, some (.int v1)], [.int v1])) rfl ?_
  refine Ez_if (M := zM193) (b := 0 ≤ v1) rfl rfl hF (fun _ hF => ?_) (fun _ hF => ?_)
  · refine Ev_p 3 (c' := (65, [some (.ref a0), none, some (.int x2), some (.int x3), none, some (.int v1)], [.int x2, .int v1, .ref a0])) rfl ?_
    refine Ez_ci (M := zM193) (As := [.ref a0, .int v1, .int x2]) (st' := []) (am_site_v (y := 194) (k := 3) (ci := 11) rfl rfl (zrcv rfl h0 rfl)) (Nat.le_of_ble_eq_true rfl) (Nat.le_of_ble_eq_true rfl) rfl rfl (fun _ _ hF => zf194_ok hK h0 hF) hF (fun v3 s4 hF => ?_)
    refine Ev_p 0 (c' := (68, [some (.ref a0), none, some (.int x2), some (.int x3), none, some (.int v1)], [.int v3])) rfl ?_
    refine Ev_w (L' := [some (.ref a0), none, some (.int x2), some (.int x3), none, none]) (zle_c (zle_c (zle_c (zle_c (zle_c (zle_n zle_0)))))) ?_
    exact zf193_68_ok hK h0 hk5 hF
  · refine Ev_p 2 (c' := (68, [some (.ref a0), none, some (.int x2), some (.int x3), none, some (.int v1)], [.int (-1)])) rfl ?_
    refine Ev_w (L' := [some (.ref a0), none, some (.int x2), some (.int x3), none, none]) (zle_c (zle_c (zle_c (zle_c (zle_c (zle_n zle_0)))))) ?_
    exact zf193_68_ok hK h0 hk5 hF
noncomputable def zf193_83 (a0 : Nat)  (x2 : Int32) (x4 : Int32) (s : zS) : Option (Int32 × zS) :=
  if x4 < 0 then
    if ¬ x2 = 1 then
      some (0, s)
    else
      some (10, s)
  else
    some (x4, s)
theorem zf193_83_ok {K : cx_K} (hK : Kok K) {lg : Nat → Int64} {v : Int32} {s' : zS} {a0 : Nat} (h0 : zsh a0 = 11)   {x2 : Int32} {x4 : Int32}  {s : zS} (hF : zf193_83 a0 x2 x4 s = some (v, s')) : Ev K zM193 (83, [some (.ref a0), none, some (.int x2), none, some (.int x4), none], [], zmk lg s) 0 (.inl (some (.int v))) (zmk lg s') 0 := by
  unfold zf193_83 at hF
  refine Ev_p 1 (c' := (85, [some (.ref a0), none, some (.int x2), none, some (.int x4), none], [.int x4])) rfl ?_
  refine Ez_if (M := zM193) (b := x4 < 0) rfl rfl hF (fun _ hF => ?_) (fun _ hF => ?_)
  · refine Ev_p 2 (c' := (95, [some (.ref a0), none, some (.int x2), none, some (.int x4), none], [.int 1, .int x2])) rfl ?_
    refine Ez_if (M := zM193) (b := ¬ x2 = 1) rfl rfl hF (fun _ hF => ?_) (fun _ hF => ?_)
    · refine Ev_p 1 (c' := (104, [some (.ref a0), none, some (.int x2), none, some (.int x4), none], [.int 0])) rfl ?_
      exact Ez_ri (M := zM193) rfl rfl hF
    · refine Ev_p 2 (c' := (104, [some (.ref a0), none, some (.int x2), none, some (.int x4), none], [.int 10])) rfl ?_
      exact Ez_ri (M := zM193) rfl rfl hF
  · refine Ev_p 2 (c' := (104, [some (.ref a0), none, some (.int x2), none, some (.int x4), none], [.int x4])) rfl ?_
    exact Ez_ri (M := zM193) rfl rfl hF
noncomputable def zf193_5 (a0 : Nat)  : Nat → Int32 → Int32 → Int32 → zS → Option (Int32 × zS)
  | 0, _, _, _, _ => none
  | n + 1, x2, x3, x4, s =>
    if 0 ≤ x4 then
      zf193_83 a0 x2 x4 s
    else
      if x3 < 0 then
        zf193_83 a0 x2 x4 s
      else
        zal s (zrf a0 10) (30 + x3) fun v1 =>
        if v1 = 112 then
          zf193_42 a0 (zf193_5 a0 n) x2 x3 s
        else
          zal s (zrf a0 10) (30 + x3) fun v2 =>
          if ¬ v2 = 120 then
            zf193_83 a0 x2 x4 s
          else
            zf193_42 a0 (zf193_5 a0 n) x2 x3 s
theorem zf193_5_ok {K : cx_K} (hK : Kok K) {lg : Nat → Int64} {v : Int32} {s' : zS} {a0 : Nat} (h0 : zsh a0 = 11)   {n : Nat} : ∀ {x2 : Int32} {x3 : Int32} {x4 : Int32} {s : zS}, zf193_5 a0 n x2 x3 x4 s = some (v, s') → Ev K zM193 (5, [some (.ref a0), none, some (.int x2), some (.int x3), some (.int x4), none], [], zmk lg s) 0 (.inl (some (.int v))) (zmk lg s') 0 := by
  induction n with
  | zero => intro x2 x3 x4 s hF; rw [zf193_5] at hF; cases hF
  | succ n ih =>
    intro x2 x3 x4 s hF
    rw [zf193_5] at hF
    refine Ev_p 1 (c' := (7, [some (.ref a0), none, some (.int x2), some (.int x3), some (.int x4), none], [.int x4])) rfl ?_
    refine Ez_if (M := zM193) (b := 0 ≤ x4) rfl rfl hF (fun _ hF => ?_) (fun _ hF => ?_)
    · refine Ev_p 0 (c' := (83, [some (.ref a0), none, some (.int x2), some (.int x3), some (.int x4), none], [])) rfl ?_
      refine Ev_w (L' := [some (.ref a0), none, some (.int x2), none, some (.int x4), none]) (zle_c (zle_c (zle_c (zle_n (zle_c (zle_c zle_0)))))) ?_
      exact zf193_83_ok hK h0 hF
    · refine Ev_p 1 (c' := (11, [some (.ref a0), none, some (.int x2), some (.int x3), some (.int x4), none], [.int x3])) rfl ?_
      refine Ez_if (M := zM193) (b := x3 < 0) rfl rfl hF (fun _ hF => ?_) (fun _ hF => ?_)
      · refine Ev_p 0 (c' := (83, [some (.ref a0), none, some (.int x2), some (.int x3), some (.int x4), none], [])) rfl ?_
        refine Ev_w (L' := [some (.ref a0), none, some (.int x2), none, some (.int x4), none]) (zle_c (zle_c (zle_c (zle_n (zle_c (zle_c zle_0)))))) ?_
        exact zf193_83_ok hK h0 hF
      · refine Ev_p 1 (c' := (15, [some (.ref a0), none, some (.int x2), some (.int x3), some (.int x4), none], [.ref a0])) rfl ?_
        refine Ez_gr (M := zM193) (ci := 11) (f := 10) (t := 100) rfl rfl h0 rfl ?_
        refine Ev_p 3 (c' := (22, [some (.ref a0), none, some (.int x2), some (.int x3), some (.int x4), none], [.int (30 + x3), .ref (zrf a0 10)])) rfl ?_
        refine Ez_al (M := zM193) rfl (zty (ci := 11) (f := 10) (t := 100) h0 rfl) hF (fun v1 hF => ?_)
        refine Ev_p 1 (c' := (25, [some (.ref a0), none, some (.int x2), some (.int x3), some (.int x4), none], [.int 112, .int v1])) rfl ?_
        refine Ez_if (M := zM193) (b := v1 = 112) rfl rfl hF (fun _ hF => ?_) (fun _ hF => ?_)
        · refine Ev_p 0 (c' := (42, [some (.ref a0), none, some (.int x2), some (.int x3), some (.int x4), none], [])) rfl ?_
          refine Ev_w (L' := [some (.ref a0), none, some (.int x2), some (.int x3), none, none]) (zle_c (zle_c (zle_c (zle_c (zle_n (zle_c zle_0)))))) ?_
          exact zf193_42_ok hK h0 (fun _ _ _ _ hF => ih hF) hF
        · refine Ev_p 1 (c' := (29, [some (.ref a0), none, some (.int x2), some (.int x3), some (.int x4), none], [.ref a0])) rfl ?_
          refine Ez_gr (M := zM193) (ci := 11) (f := 10) (t := 100) rfl rfl h0 rfl ?_
          refine Ev_p 3 (c' := (36, [some (.ref a0), none, some (.int x2), some (.int x3), some (.int x4), none], [.int (30 + x3), .ref (zrf a0 10)])) rfl ?_
          refine Ez_al (M := zM193) rfl (zty (ci := 11) (f := 10) (t := 100) h0 rfl) hF (fun v2 hF => ?_)
          refine Ev_p 1 (c' := (39, [some (.ref a0), none, some (.int x2), some (.int x3), some (.int x4), none], [.int 120, .int v2])) rfl ?_
          refine Ez_if (M := zM193) (b := ¬ v2 = 120) rfl rfl hF (fun _ hF => ?_) (fun _ hF => ?_)
          · refine Ev_p 0 (c' := (83, [some (.ref a0), none, some (.int x2), some (.int x3), some (.int x4), none], [])) rfl ?_
            refine Ev_w (L' := [some (.ref a0), none, some (.int x2), none, some (.int x4), none]) (zle_c (zle_c (zle_c (zle_n (zle_c (zle_c zle_0)))))) ?_
            exact zf193_83_ok hK h0 hF
          · refine Ev_p 0 (c' := (42, [some (.ref a0), none, some (.int x2), some (.int x3), some (.int x4), none], [])) rfl ?_
            refine Ev_w (L' := [some (.ref a0), none, some (.int x2), some (.int x3), none, none]) (zle_c (zle_c (zle_c (zle_c (zle_n (zle_c zle_0)))))) ?_
            exact zf193_42_ok hK h0 (fun _ _ _ _ hF => ih hF) hF
noncomputable def zf193 (a0 : Nat) (x1 : Int32) (x2 : Int32) (s : zS) : Option (Int32 × zS) :=
  zf193_5 a0 zfz x2 x1 (-1) s
theorem zf193_ok {K : cx_K} (hK : Kok K) {lg : Nat → Int64} {v : Int32} {s' : zS} {a0 : Nat} (h0 : zsh a0 = 11) {x1 : Int32} {x2 : Int32} {s : zS} (hF : zf193 a0 x1 x2 s = some (v, s')) : Ct K 193 [.ref a0, .int x1, .int x2] (zmk lg s) (.inl (some (.int v))) (zmk lg s') 0 := by
  unfold zf193 at hF
  refine Ct_of hK nd_ok193 (mL := 6) (rt := some .int) rfl rfl (Nat.le_of_ble_eq_true rfl) zlen_le ?_
  refine Ev_p 4 (c' := (5, [some (.ref a0), some (.int x1), some (.int x2), some (.int x1), some (.int (-1)), none], [])) rfl ?_
  refine Ev_w (L' := [some (.ref a0), none, some (.int x2), some (.int x1), some (.int (-1)), none]) (zle_c (zle_n (zle_c (zle_c (zle_c (zle_c zle_0)))))) ?_
  exact zf193_5_ok hK h0 hF

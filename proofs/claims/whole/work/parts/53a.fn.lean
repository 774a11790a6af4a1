/-! The methods as functions, and that the machine goes so (printed by wip/gen/fgen.py). -/
set_option maxRecDepth 100000
set_option linter.unusedVariables false
-- PaperParcels$Row.put(I)V
abbrev zM13 : ev_M := (am_in nd_i13, am_fl nd_f1, am_ct nd_k1, am_sl nd_ml nd_s13, fun _ => none, none)
noncomputable def zf13 (a0 : Nat) (x1 : Int32) (s : zS) : Option (zS) :=
  zgf s a0 1 fun v1 =>
  if (nI (zca (zrf a0 0))) ≤ v1 then
    zpb s a0 2 1 fun s2 =>
    some s2
  else
    zgf s a0 1 fun v3 =>
    zas s (zrf a0 0) v3 x1 fun s4 =>
    zgf s4 a0 1 fun v5 =>
    zpf s4 a0 1 (v5 + 1) fun s6 =>
    some s6
theorem zf13_ok {K : cx_K} (hK : Kok K) {lg : Nat → Int64} {s' : zS} {a0 : Nat} (h0 : zsh a0 = 1) {x1 : Int32} {s : zS} (hF : zf13 a0 x1 s = some s') : Ct K 13 [.ref a0, .int x1] (zmk lg s) (.inl none) (zmk lg s') 0 := by
  unfold zf13 at hF
  refine Ct_of hK nd_ok13 (mL := 2) (rt := none) rfl rfl (Nat.le_of_ble_eq_true rfl) zlen_le ?_
  refine Ev_p 1 (c' := (1, [some (.ref a0), some (.int x1)], [.ref a0])) rfl ?_
  refine Ez_gf (M := zM13) (ci := 1) (f := 1) rfl rfl h0 rfl hF (fun v1 hF => ?_)
  refine Ev_p 1 (c' := (5, [some (.ref a0), some (.int x1)], [.ref a0, .int v1])) rfl ?_
  refine Ez_gr (M := zM13) (ci := 1) (f := 0) (t := 100) rfl rfl h0 rfl ?_
  refine Ev_p 0 (c' := (8, [some (.ref a0), some (.int x1)], [.ref (zrf a0 0), .int v1])) rfl ?_
  refine Ez_len (M := zM13) rfl (zty (ci := 1) (f := 0) (t := 100) h0 rfl) ?_
  refine Ev_p 0 (c' := (9, [some (.ref a0), some (.int x1)], [.int (nI (zca (zrf a0 0))), .int v1])) rfl ?_
  refine Ez_if (M := zM13) (b := (nI (zca (zrf a0 0))) ≤ v1) rfl rfl hF (fun _ hF => ?_) (fun _ hF => ?_)
  · refine Ev_p 2 (c' := (37, [some (.ref a0), some (.int x1)], [.int 1, .ref a0])) rfl ?_
    refine Ez_pb (M := zM13) (ci := 1) (f := 2) rfl rfl h0 rfl hF (fun s2 hF => ?_)
    refine Ev_p 0 (c' := (40, [some (.ref a0), some (.int x1)], [])) rfl ?_
    exact Ez_rv (M := zM13) rfl rfl hF
  · refine Ev_p 1 (c' := (13, [some (.ref a0), some (.int x1)], [.ref a0])) rfl ?_
    refine Ez_gr (M := zM13) (ci := 1) (f := 0) (t := 100) rfl rfl h0 rfl ?_
    refine Ev_p 1 (c' := (17, [some (.ref a0), some (.int x1)], [.ref a0, .ref (zrf a0 0)])) rfl ?_
    refine Ez_gf (M := zM13) (ci := 1) (f := 1) rfl rfl h0 rfl hF (fun v3 hF => ?_)
    refine Ev_p 1 (c' := (21, [some (.ref a0), some (.int x1)], [.int x1, .int v3, .ref (zrf a0 0)])) rfl ?_
    refine Ez_as (M := zM13) rfl (zty (ci := 1) (f := 0) (t := 100) h0 rfl) hF (fun s4 hF => ?_)
    refine Ev_p 2 (c' := (24, [some (.ref a0), some (.int x1)], [.ref a0, .ref a0])) rfl ?_
    refine Ez_gf (M := zM13) (ci := 1) (f := 1) rfl rfl h0 rfl hF (fun v5 hF => ?_)
    refine Ev_p 2 (c' := (29, [some (.ref a0), some (.int x1)], [.int (v5 + 1), .ref a0])) rfl ?_
    refine Ez_pf (M := zM13) (ci := 1) (f := 1) rfl rfl h0 rfl hF (fun s6 hF => ?_)
    refine Ev_p 1 (c' := (40, [some (.ref a0), some (.int x1)], [])) rfl ?_
    exact Ez_rv (M := zM13) rfl rfl hF
-- PaperParcels.write(J)Z
abbrev zM12 : ev_M := (am_in nd_i12, am_fl nd_f0, am_ct nd_k0, am_sl nd_ml nd_s12, fun _ => none, some .boolean)
noncomputable def zf12_73 (a0 : Nat)  : Nat → Int64 → Int32 → zS → Option (Int32 × zS)
  | 0, _, _, _ => none
  | n + 1, x1, x4, s =>
    if 64 ≤ x4 then
      zrb 1 s
    else
      if ((Int64.toInt32 ((Int64.toUInt64 x1 >>> (Int64.toUInt64 (Int32.toInt64 x4) &&& Int64.toUInt64 63)).toInt64)) &&& 255) = 0 then
        zf12_73 a0 n x1 (x4 + 8) s
      else
        zbv (zf13 (zrf a0 0) ((Int64.toInt32 ((Int64.toUInt64 x1 >>> (Int64.toUInt64 (Int32.toInt64 x4) &&& Int64.toUInt64 63)).toInt64)) &&& 255) s) fun s2 =>
        zf12_73 a0 n x1 (x4 + 8) s2
theorem zf12_73_ok {K : cx_K} (hK : Kok K) {lg : Nat → Int64} {v : Int32} {s' : zS} {a0 : Nat} (h0 : zsh a0 = 0)   {n : Nat} : ∀ {x1 : Int64} {x4 : Int32} {s : zS}, zf12_73 a0 n x1 x4 s = some (v, s') → Ev K zM12 (73, [some (.ref a0), some (.long x1), none, none, some (.int x4), none], [], zmk lg s) 0 (.inl (some (.int v))) (zmk lg s') 0 := by
  induction n with
  | zero => intro x1 x4 s hF; rw [zf12_73] at hF; cases hF
  | succ n ih =>
    intro x1 x4 s hF
    rw [zf12_73] at hF
    refine Ev_p 2 (c' := (77, [some (.ref a0), some (.long x1), none, none, some (.int x4), none], [.int 64, .int x4])) rfl ?_
    refine Ez_if (M := zM12) (b := 64 ≤ x4) rfl rfl hF (fun _ hF => ?_) (fun _ hF => ?_)
    · refine Ev_p 1 (c' := (112, [some (.ref a0), some (.long x1), none, none, some (.int x4), none], [.int 1])) rfl ?_
      exact Ez_rb (M := zM12) rfl rfl hF
    · refine Ev_p 8 (c' := (93, [some (.ref a0), some (.long x1), none, none, some (.int x4), some (.int ((Int64.toInt32 ((Int64.toUInt64 x1 >>> (Int64.toUInt64 (Int32.toInt64 x4) &&& Int64.toUInt64 63)).toInt64)) &&& 255))], [.int ((Int64.toInt32 ((Int64.toUInt64 x1 >>> (Int64.toUInt64 (Int32.toInt64 x4) &&& Int64.toUInt64 63)).toInt64)) &&& 255)])) rfl ?_
      refine Ez_if (M := zM12) (b := ((Int64.toInt32 ((Int64.toUInt64 x1 >>> (Int64.toUInt64 (Int32.toInt64 x4) &&& Int64.toUInt64 63)).toInt64)) &&& 255) = 0) rfl rfl hF (fun _ hF => ?_) (fun _ hF => ?_)
      · refine Ev_p 2 (c' := (73, [some (.ref a0), some (.long x1), none, none, some (.int (x4 + 8)), some (.int ((Int64.toInt32 ((Int64.toUInt64 x1 >>> (Int64.toUInt64 (Int32.toInt64 x4) &&& Int64.toUInt64 63)).toInt64)) &&& 255))], [])) rfl ?_
        refine Ev_w (L' := [some (.ref a0), some (.long x1), none, none, some (.int (x4 + 8)), none]) (zle_c (zle_c (zle_c (zle_c (zle_c (zle_n zle_0)))))) ?_
        exact ih hF
      · refine Ev_p 1 (c' := (97, [some (.ref a0), some (.long x1), none, none, some (.int x4), some (.int ((Int64.toInt32 ((Int64.toUInt64 x1 >>> (Int64.toUInt64 (Int32.toInt64 x4) &&& Int64.toUInt64 63)).toInt64)) &&& 255))], [.ref a0])) rfl ?_
        refine Ez_gr (M := zM12) (ci := 0) (f := 0) (t := 1) rfl rfl h0 rfl ?_
        refine Ev_p 1 (c' := (102, [some (.ref a0), some (.long x1), none, none, some (.int x4), some (.int ((Int64.toInt32 ((Int64.toUInt64 x1 >>> (Int64.toUInt64 (Int32.toInt64 x4) &&& Int64.toUInt64 63)).toInt64)) &&& 255))], [.int ((Int64.toInt32 ((Int64.toUInt64 x1 >>> (Int64.toUInt64 (Int32.toInt64 x4) &&& Int64.toUInt64 63)).toInt64)) &&& 255), .ref (zrf a0 0)])) rfl ?_
        refine Ez_cv (M := zM12) (As := [.ref (zrf a0 0), .int ((Int64.toInt32 ((Int64.toUInt64 x1 >>> (Int64.toUInt64 (Int32.toInt64 x4) &&& Int64.toUInt64 63)).toInt64)) &&& 255)]) (st' := []) (am_site_v (y := 13) (k := 2) (ci := 1) rfl rfl (zrcv rfl (zty (ci := 0) (f := 0) (t := 1) h0 rfl) rfl)) (Nat.le_of_ble_eq_true rfl) (Nat.le_of_ble_eq_true rfl) rfl rfl (fun _ hF => zf13_ok hK (zty (ci := 0) (f := 0) (t := 1) h0 rfl) hF) hF (fun s2 hF => ?_)
        refine Ev_p 2 (c' := (73, [some (.ref a0), some (.long x1), none, none, some (.int (x4 + 8)), some (.int ((Int64.toInt32 ((Int64.toUInt64 x1 >>> (Int64.toUInt64 (Int32.toInt64 x4) &&& Int64.toUInt64 63)).toInt64)) &&& 255))], [])) rfl ?_
        refine Ev_w (L' := [some (.ref a0), some (.long x1), none, none, some (.int (x4 + 8)), none]) (zle_c (zle_c (zle_c (zle_c (zle_c (zle_n zle_0)))))) ?_
        exact ih hF
noncomputable def zf12_5 (a0 : Nat)  : Nat → Int64 → Int32 → Int32 → zS → Option (Int32 × zS)
  | 0, _, _, _, _ => none
  | n + 1, x1, x3, x4, s =>
    if 64 ≤ x4 then
      zgf s (zrf a0 0) 1 fun v1 =>
      if (v1 + x3) ≤ 480 then
        zf12_73 a0 zfz x1 0 s
      else
        zrb 0 s
    else
      if ((Int64.toInt32 ((Int64.toUInt64 x1 >>> (Int64.toUInt64 (Int32.toInt64 x4) &&& Int64.toUInt64 63)).toInt64)) &&& 255) = 0 then
        zf12_5 a0 n x1 x3 (x4 + 8) s
      else
        if ((Int64.toInt32 ((Int64.toUInt64 x1 >>> (Int64.toUInt64 (Int32.toInt64 x4) &&& Int64.toUInt64 63)).toInt64)) &&& 255) < 32 then
          zrb 0 s
        else
          if ((Int64.toInt32 ((Int64.toUInt64 x1 >>> (Int64.toUInt64 (Int32.toInt64 x4) &&& Int64.toUInt64 63)).toInt64)) &&& 255) ≤ 126 then
            zf12_5 a0 n x1 (x3 + 1) (x4 + 8) s
          else
            zrb 0 s
theorem zf12_5_ok {K : cx_K} (hK : Kok K) {lg : Nat → Int64} {v : Int32} {s' : zS} {a0 : Nat} (h0 : zsh a0 = 0)   {n : Nat} : ∀ {x1 : Int64} {x3 : Int32} {x4 : Int32} {s : zS}, zf12_5 a0 n x1 x3 x4 s = some (v, s') → Ev K zM12 (5, [some (.ref a0), some (.long x1), none, some (.int x3), some (.int x4), none], [], zmk lg s) 0 (.inl (some (.int v))) (zmk lg s') 0 := by
  induction n with
  | zero => intro x1 x3 x4 s hF; rw [zf12_5] at hF; cases hF
  | succ n ih =>
    intro x1 x3 x4 s hF
    rw [zf12_5] at hF
    refine Ev_p 2 (c' := (9, [some (.ref a0), some (.long x1), none, some (.int x3), some (.int x4), none], [.int 64, .int x4])) rfl ?_
    refine Ez_if (M := zM12) (b := 64 ≤ x4) rfl rfl hF (fun _ hF => ?_) (fun _ hF => ?_)
    · refine Ev_p 1 (c' := (54, [some (.ref a0), some (.long x1), none, some (.int x3), some (.int x4), none], [.ref a0])) rfl ?_
      refine Ez_gr (M := zM12) (ci := 0) (f := 0) (t := 1) rfl rfl h0 rfl ?_
      refine Ev_p 0 (c' := (57, [some (.ref a0), some (.long x1), none, some (.int x3), some (.int x4), none], [.ref (zrf a0 0)])) rfl ?_
      refine Ez_gf (M := zM12) (ci := 1) (f := 1) rfl rfl (zty (ci := 0) (f := 0) (t := 1) h0 rfl) rfl hF (fun v1 hF => ?_)
      refine Ev_p 3 (c' := (65, [some (.ref a0), some (.long x1), none, some (.int x3), some (.int x4), none], [.int 480, .int (v1 + x3)])) rfl ?_
      refine Ez_if (M := zM12) (b := (v1 + x3) ≤ 480) rfl rfl hF (fun _ hF => ?_) (fun _ hF => ?_)
      · refine Ev_p 2 (c' := (73, [some (.ref a0), some (.long x1), none, some (.int x3), some (.int 0), none], [])) rfl ?_
        refine Ev_w (L' := [some (.ref a0), some (.long x1), none, none, some (.int 0), none]) (zle_c (zle_c (zle_c (zle_n (zle_c (zle_c zle_0)))))) ?_
        exact zf12_73_ok hK h0 hF
      · refine Ev_p 1 (c' := (69, [some (.ref a0), some (.long x1), none, some (.int x3), some (.int x4), none], [.int 0])) rfl ?_
        exact Ez_rb (M := zM12) rfl rfl hF
    · refine Ev_p 8 (c' := (25, [some (.ref a0), some (.long x1), none, some (.int x3), some (.int x4), some (.int ((Int64.toInt32 ((Int64.toUInt64 x1 >>> (Int64.toUInt64 (Int32.toInt64 x4) &&& Int64.toUInt64 63)).toInt64)) &&& 255))], [.int ((Int64.toInt32 ((Int64.toUInt64 x1 >>> (Int64.toUInt64 (Int32.toInt64 x4) &&& Int64.toUInt64 63)).toInt64)) &&& 255)])) rfl ?_
      refine Ez_if (M := zM12) (b := ((Int64.toInt32 ((Int64.toUInt64 x1 >>> (Int64.toUInt64 (Int32.toInt64 x4) &&& Int64.toUInt64 63)).toInt64)) &&& 255) = 0) rfl rfl hF (fun _ hF => ?_) (fun _ hF => ?_)
      · refine Ev_p 2 (c' := (5, [some (.ref a0), some (.long x1), none, some (.int x3), some (.int (x4 + 8)), some (.int ((Int64.toInt32 ((Int64.toUInt64 x1 >>> (Int64.toUInt64 (Int32.toInt64 x4) &&& Int64.toUInt64 63)).toInt64)) &&& 255))], [])) rfl ?_
        refine Ev_w (L' := [some (.ref a0), some (.long x1), none, some (.int x3), some (.int (x4 + 8)), none]) (zle_c (zle_c (zle_c (zle_c (zle_c (zle_n zle_0)))))) ?_
        exact ih hF
      · refine Ev_p 2 (c' := (32, [some (.ref a0), some (.long x1), none, some (.int x3), some (.int x4), some (.int ((Int64.toInt32 ((Int64.toUInt64 x1 >>> (Int64.toUInt64 (Int32.toInt64 x4) &&& Int64.toUInt64 63)).toInt64)) &&& 255))], [.int 32, .int ((Int64.toInt32 ((Int64.toUInt64 x1 >>> (Int64.toUInt64 (Int32.toInt64 x4) &&& Int64.toUInt64 63)).toInt64)) &&& 255)])) rfl ?_
        refine Ez_if (M := zM12) (b := ((Int64.toInt32 ((Int64.toUInt64 x1 >>> (Int64.toUInt64 (Int32.toInt64 x4) &&& Int64.toUInt64 63)).toInt64)) &&& 255) < 32) rfl rfl hF (fun _ hF => ?_) (fun _ hF => ?_)
        · refine Ev_p 1 (c' := (43, [some (.ref a0), some (.long x1), none, some (.int x3), some (.int x4), some (.int ((Int64.toInt32 ((Int64.toUInt64 x1 >>> (Int64.toUInt64 (Int32.toInt64 x4) &&& Int64.toUInt64 63)).toInt64)) &&& 255))], [.int 0])) rfl ?_
          exact Ez_rb (M := zM12) rfl rfl hF
        · refine Ev_p 2 (c' := (39, [some (.ref a0), some (.long x1), none, some (.int x3), some (.int x4), some (.int ((Int64.toInt32 ((Int64.toUInt64 x1 >>> (Int64.toUInt64 (Int32.toInt64 x4) &&& Int64.toUInt64 63)).toInt64)) &&& 255))], [.int 126, .int ((Int64.toInt32 ((Int64.toUInt64 x1 >>> (Int64.toUInt64 (Int32.toInt64 x4) &&& Int64.toUInt64 63)).toInt64)) &&& 255)])) rfl ?_
          refine Ez_if (M := zM12) (b := ((Int64.toInt32 ((Int64.toUInt64 x1 >>> (Int64.toUInt64 (Int32.toInt64 x4) &&& Int64.toUInt64 63)).toInt64)) &&& 255) ≤ 126) rfl rfl hF (fun _ hF => ?_) (fun _ hF => ?_)
          · refine Ev_p 3 (c' := (5, [some (.ref a0), some (.long x1), none, some (.int (x3 + 1)), some (.int (x4 + 8)), some (.int ((Int64.toInt32 ((Int64.toUInt64 x1 >>> (Int64.toUInt64 (Int32.toInt64 x4) &&& Int64.toUInt64 63)).toInt64)) &&& 255))], [])) rfl ?_
            refine Ev_w (L' := [some (.ref a0), some (.long x1), none, some (.int (x3 + 1)), some (.int (x4 + 8)), none]) (zle_c (zle_c (zle_c (zle_c (zle_c (zle_n zle_0)))))) ?_
            exact ih hF
          · refine Ev_p 1 (c' := (43, [some (.ref a0), some (.long x1), none, some (.int x3), some (.int x4), some (.int ((Int64.toInt32 ((Int64.toUInt64 x1 >>> (Int64.toUInt64 (Int32.toInt64 x4) &&& Int64.toUInt64 63)).toInt64)) &&& 255))], [.int 0])) rfl ?_
            exact Ez_rb (M := zM12) rfl rfl hF
noncomputable def zf12 (a0 : Nat) (x1 : Int64) (s : zS) : Option (Int32 × zS) :=
  zf12_5 a0 zfz x1 0 0 s
theorem zf12_ok {K : cx_K} (hK : Kok K) {lg : Nat → Int64} {v : Int32} {s' : zS} {a0 : Nat} (h0 : zsh a0 = 0) {x1 : Int64} {s : zS} (hF : zf12 a0 x1 s = some (v, s')) : Ct K 12 [.ref a0, .long x1] (zmk lg s) (.inl (some (.int v))) (zmk lg s') 0 := by
  unfold zf12 at hF
  refine Ct_of hK nd_ok12 (mL := 6) (rt := some .boolean) rfl rfl (Nat.le_of_ble_eq_true rfl) zlen_le ?_
  refine Ev_p 4 (c' := (5, [some (.ref a0), some (.long x1), none, some (.int 0), some (.int 0), none], [])) rfl ?_
  exact zf12_5_ok hK h0 hF
-- PaperParcels$Row.clear()V
abbrev zM15 : ev_M := (am_in nd_i15, am_fl nd_f1, am_ct nd_k1, am_sl nd_ml nd_s15, fun _ => none, none)
noncomputable def zf15 (a0 : Nat) (s : zS) : Option (zS) :=
  zpf s a0 1 0 fun s1 =>
  zpb s1 a0 2 0 fun s2 =>
  some s2
theorem zf15_ok {K : cx_K} (hK : Kok K) {lg : Nat → Int64} {s' : zS} {a0 : Nat} (h0 : zsh a0 = 1)  {s : zS} (hF : zf15 a0 s = some s') : Ct K 15 [.ref a0] (zmk lg s) (.inl none) (zmk lg s') 0 := by
  unfold zf15 at hF
  refine Ct_of hK nd_ok15 (mL := 1) (rt := none) rfl rfl (Nat.le_of_ble_eq_true rfl) zlen_le ?_
  refine Ev_p 2 (c' := (2, [some (.ref a0)], [.int 0, .ref a0])) rfl ?_
  refine Ez_pf (M := zM15) (ci := 1) (f := 1) rfl rfl h0 rfl hF (fun s1 hF => ?_)
  refine Ev_p 2 (c' := (7, [some (.ref a0)], [.int 0, .ref a0])) rfl ?_
  refine Ez_pb (M := zM15) (ci := 1) (f := 2) rfl rfl h0 rfl hF (fun s2 hF => ?_)
  refine Ev_p 0 (c' := (10, [some (.ref a0)], [])) rfl ?_
  exact Ez_rv (M := zM15) rfl rfl hF
-- PaperParcels.wipe()I
abbrev zM14 : ev_M := (am_in nd_i14, am_fl nd_f0, am_ct nd_k0, am_sl nd_ml nd_s14, fun _ => none, some .int)
noncomputable def zf14 (a0 : Nat) (s : zS) : Option (Int32 × zS) :=
  zgf s (zrf a0 0) 1 fun v1 =>
  zbv (zf15 (zrf a0 0) s) fun s3 =>
  some (v1, s3)
theorem zf14_ok {K : cx_K} (hK : Kok K) {lg : Nat → Int64} {v : Int32} {s' : zS} {a0 : Nat} (h0 : zsh a0 = 0)  {s : zS} (hF : zf14 a0 s = some (v, s')) : Ct K 14 [.ref a0] (zmk lg s) (.inl (some (.int v))) (zmk lg s') 0 := by
  unfold zf14 at hF
  refine Ct_of hK nd_ok14 (mL := 2) (rt := some .int) rfl rfl (Nat.le_of_ble_eq_true rfl) zlen_le ?_
  refine Ev_p 1 (c' := (1, [some (.ref a0), none], [.ref a0])) rfl ?_
  refine Ez_gr (M := zM14) (ci := 0) (f := 0) (t := 1) rfl rfl h0 rfl ?_
  refine Ev_p 0 (c' := (4, [some (.ref a0), none], [.ref (zrf a0 0)])) rfl ?_
  refine Ez_gf (M := zM14) (ci := 1) (f := 1) rfl rfl (zty (ci := 0) (f := 0) (t := 1) h0 rfl) rfl hF (fun v1 hF => ?_)
  refine Ev_p 2 (c' := (9, [some (.ref a0), some (.int v1)], [.ref a0])) rfl ?_
  refine Ez_gr (M := zM14) (ci := 0) (f := 0) (t := 1) rfl rfl h0 rfl ?_
  refine Ev_p 0 (c' := (12, [some (.ref a0), some (.int v1)], [.ref (zrf a0 0)])) rfl ?_
  refine Ez_cv (M := zM14) (As := [.ref (zrf a0 0)]) (st' := []) (am_site_v (y := 15) (k := 1) (ci := 1) rfl rfl (zrcv rfl (zty (ci := 0) (f := 0) (t := 1) h0 rfl) rfl)) (Nat.le_of_ble_eq_true rfl) (Nat.le_of_ble_eq_true rfl) rfl rfl (fun _ hF => zf15_ok hK (zty (ci := 0) (f := 0) (t := 1) h0 rfl) hF) hF (fun s3 hF => ?_)
  refine Ev_p 1 (c' := (16, [some (.ref a0), some (.int v1)], [.int v1])) rfl ?_
  exact Ez_ri (M := zM14) rfl rfl hF
-- PaperParcels.length()I
abbrev zM16 : ev_M := (am_in nd_i16, am_fl nd_f0, am_ct nd_k0, am_sl nd_ml nd_s16, fun _ => none, some .int)
noncomputable def zf16 (a0 : Nat) (s : zS) : Option (Int32 × zS) :=
  zgf s (zrf a0 0) 1 fun v1 =>
  some (v1, s)
theorem zf16_ok {K : cx_K} (hK : Kok K) {lg : Nat → Int64} {v : Int32} {s' : zS} {a0 : Nat} (h0 : zsh a0 = 0)  {s : zS} (hF : zf16 a0 s = some (v, s')) : Ct K 16 [.ref a0] (zmk lg s) (.inl (some (.int v))) (zmk lg s') 0 := by
  unfold zf16 at hF
  refine Ct_of hK nd_ok16 (mL := 1) (rt := some .int) rfl rfl (Nat.le_of_ble_eq_true rfl) zlen_le ?_
  refine Ev_p 1 (c' := (1, [some (.ref a0)], [.ref a0])) rfl ?_
  refine Ez_gr (M := zM16) (ci := 0) (f := 0) (t := 1) rfl rfl h0 rfl ?_
  refine Ev_p 0 (c' := (4, [some (.ref a0)], [.ref (zrf a0 0)])) rfl ?_
  refine Ez_gf (M := zM16) (ci := 1) (f := 1) rfl rfl (zty (ci := 0) (f := 0) (t := 1) h0 rfl) rfl hF (fun v1 hF => ?_)
  refine Ev_p 0 (c' := (7, [some (.ref a0)], [.int v1])) rfl ?_
  exact Ez_ri (M := zM16) rfl rfl hF
-- PaperParcels$Row.at(I)I
abbrev zM18 : ev_M := (am_in nd_i18, am_fl nd_f1, am_ct nd_k1, am_sl nd_ml nd_s18, fun _ => none, some .int)
noncomputable def zf18 (a0 : Nat) (x1 : Int32) (s : zS) : Option (Int32 × zS) :=
  if x1 < 0 then
    some ((-1), s)
  else
    zgf s a0 1 fun v1 =>
    if v1 ≤ x1 then
      some ((-1), s)
    else
      zal s (zrf a0 0) x1 fun v2 =>
      some (v2, s)
theorem zf18_ok {K : cx_K} (hK : Kok K) {lg : Nat → Int64} {v : Int32} {s' : zS} {a0 : Nat} (h0 : zsh a0 = 1) {x1 : Int32} {s : zS} (hF : zf18 a0 x1 s = some (v, s')) : Ct K 18 [.ref a0, .int x1] (zmk lg s) (.inl (some (.int v))) (zmk lg s') 0 := by
  unfold zf18 at hF
  refine Ct_of hK nd_ok18 (mL := 2) (rt := some .int) rfl rfl (Nat.le_of_ble_eq_true rfl) zlen_le ?_
  refine Ev_p 1 (c' := (1, [some (.ref a0), some (.int x1)], [.int x1])) rfl ?_
  refine Ez_if (M := zM18) (b := x1 < 0) rfl rfl hF (fun _ hF => ?_) (fun _ hF => ?_)
  · refine Ev_p 1 (c' := (22, [some (.ref a0), some (.int x1)], [.int (-1)])) rfl ?_
    exact Ez_ri (M := zM18) rfl rfl hF
  · refine Ev_p 2 (c' := (6, [some (.ref a0), some (.int x1)], [.ref a0, .int x1])) rfl ?_
    refine Ez_gf (M := zM18) (ci := 1) (f := 1) rfl rfl h0 rfl hF (fun v1 hF => ?_)
    refine Ev_p 0 (c' := (9, [some (.ref a0), some (.int x1)], [.int v1, .int x1])) rfl ?_
    refine Ez_if (M := zM18) (b := v1 ≤ x1) rfl rfl hF (fun _ hF => ?_) (fun _ hF => ?_)
    · refine Ev_p 1 (c' := (22, [some (.ref a0), some (.int x1)], [.int (-1)])) rfl ?_
      exact Ez_ri (M := zM18) rfl rfl hF
    · refine Ev_p 1 (c' := (13, [some (.ref a0), some (.int x1)], [.ref a0])) rfl ?_
      refine Ez_gr (M := zM18) (ci := 1) (f := 0) (t := 100) rfl rfl h0 rfl ?_
      refine Ev_p 1 (c' := (17, [some (.ref a0), some (.int x1)], [.int x1, .ref (zrf a0 0)])) rfl ?_
      refine Ez_al (M := zM18) rfl (zty (ci := 1) (f := 0) (t := 100) h0 rfl) hF (fun v2 hF => ?_)
      refine Ev_p 1 (c' := (22, [some (.ref a0), some (.int x1)], [.int v2])) rfl ?_
      exact Ez_ri (M := zM18) rfl rfl hF
-- PaperParcels.character(I)I
abbrev zM17 : ev_M := (am_in nd_i17, am_fl nd_f0, am_ct nd_k0, am_sl nd_ml nd_s17, fun _ => none, some .int)
noncomputable def zf17 (a0 : Nat) (x1 : Int32) (s : zS) : Option (Int32 × zS) :=
  zbi (zf18 (zrf a0 0) x1 s) fun v1 s2 =>
  some (v1, s2)
theorem zf17_ok {K : cx_K} (hK : Kok K) {lg : Nat → Int64} {v : Int32} {s' : zS} {a0 : Nat} (h0 : zsh a0 = 0) {x1 : Int32} {s : zS} (hF : zf17 a0 x1 s = some (v, s')) : Ct K 17 [.ref a0, .int x1] (zmk lg s) (.inl (some (.int v))) (zmk lg s') 0 := by
  unfold zf17 at hF
  refine Ct_of hK nd_ok17 (mL := 2) (rt := some .int) rfl rfl (Nat.le_of_ble_eq_true rfl) zlen_le ?_
  refine Ev_p 1 (c' := (1, [some (.ref a0), some (.int x1)], [.ref a0])) rfl ?_
  refine Ez_gr (M := zM17) (ci := 0) (f := 0) (t := 1) rfl rfl h0 rfl ?_
  refine Ev_p 1 (c' := (5, [some (.ref a0), some (.int x1)], [.int x1, .ref (zrf a0 0)])) rfl ?_
  refine Ez_ci (M := zM17) (As := [.ref (zrf a0 0), .int x1]) (st' := []) (am_site_v (y := 18) (k := 2) (ci := 1) rfl rfl (zrcv rfl (zty (ci := 0) (f := 0) (t := 1) h0 rfl) rfl)) (Nat.le_of_ble_eq_true rfl) (Nat.le_of_ble_eq_true rfl) rfl rfl (fun _ _ hF => zf18_ok hK (zty (ci := 0) (f := 0) (t := 1) h0 rfl) hF) hF (fun v1 s2 hF => ?_)
  refine Ev_p 0 (c' := (8, [some (.ref a0), some (.int x1)], [.int v1])) rfl ?_
  exact Ez_ri (M := zM17) rfl rfl hF
-- PaperParcels.place()I
abbrev zM19 : ev_M := (am_in nd_i19, am_fl nd_f0, am_ct nd_k0, am_sl nd_ml nd_s19, fun _ => none, some .int)
noncomputable def zf19 (a0 : Nat) (s : zS) : Option (Int32 × zS) :=
  zgf s (zrf a0 2) 1 fun v1 =>
  some (v1, s)
theorem zf19_ok {K : cx_K} (hK : Kok K) {lg : Nat → Int64} {v : Int32} {s' : zS} {a0 : Nat} (h0 : zsh a0 = 0)  {s : zS} (hF : zf19 a0 s = some (v, s')) : Ct K 19 [.ref a0] (zmk lg s) (.inl (some (.int v))) (zmk lg s') 0 := by
  unfold zf19 at hF
  refine Ct_of hK nd_ok19 (mL := 1) (rt := some .int) rfl rfl (Nat.le_of_ble_eq_true rfl) zlen_le ?_
  refine Ev_p 1 (c' := (1, [some (.ref a0)], [.ref a0])) rfl ?_
  refine Ez_gr (M := zM19) (ci := 0) (f := 2) (t := 3) rfl rfl h0 rfl ?_
  refine Ev_p 0 (c' := (4, [some (.ref a0)], [.ref (zrf a0 2)])) rfl ?_
  refine Ez_gf (M := zM19) (ci := 3) (f := 1) rfl rfl (zty (ci := 0) (f := 2) (t := 3) h0 rfl) rfl hF (fun v1 hF => ?_)
  refine Ev_p 0 (c' := (7, [some (.ref a0)], [.int v1])) rfl ?_
  exact Ez_ri (M := zM19) rfl rfl hF
-- PaperParcels.steps()I
abbrev zM20 : ev_M := (am_in nd_i20, am_fl nd_f0, am_ct nd_k0, am_sl nd_ml nd_s20, fun _ => none, some .int)
noncomputable def zf20 (a0 : Nat) (s : zS) : Option (Int32 × zS) :=
  zgf s (zrf a0 3) 1 fun v1 =>
  some (v1, s)
theorem zf20_ok {K : cx_K} (hK : Kok K) {lg : Nat → Int64} {v : Int32} {s' : zS} {a0 : Nat} (h0 : zsh a0 = 0)  {s : zS} (hF : zf20 a0 s = some (v, s')) : Ct K 20 [.ref a0] (zmk lg s) (.inl (some (.int v))) (zmk lg s') 0 := by
  unfold zf20 at hF
  refine Ct_of hK nd_ok20 (mL := 1) (rt := some .int) rfl rfl (Nat.le_of_ble_eq_true rfl) zlen_le ?_
  refine Ev_p 1 (c' := (1, [some (.ref a0)], [.ref a0])) rfl ?_
  refine Ez_gr (M := zM20) (ci := 0) (f := 3) (t := 8) rfl rfl h0 rfl ?_
  refine Ev_p 0 (c' := (4, [some (.ref a0)], [.ref (zrf a0 3)])) rfl ?_
  refine Ez_gf (M := zM20) (ci := 8) (f := 1) rfl rfl (zty (ci := 0) (f := 3) (t := 8) h0 rfl) rfl hF (fun v1 hF => ?_)
  refine Ev_p 0 (c' := (7, [some (.ref a0)], [.int v1])) rfl ?_
  exact Ez_ri (M := zM20) rfl rfl hF
-- PaperParcels.isDigit(I)Z
abbrev zM29 : ev_M := (am_in nd_i29, am_fl nd_f0, am_ct nd_k0, am_sl nd_ml nd_s29, fun _ => none, some .boolean)
noncomputable def zf29 (x0 : Int32) (s : zS) : Option (Int32 × zS) :=
  if x0 < 48 then
    zrb 0 s
  else
    if 57 < x0 then
      zrb 0 s
    else
      zrb 1 s
theorem zf29_ok {K : cx_K} (hK : Kok K) {lg : Nat → Int64} {v : Int32} {s' : zS}   {x0 : Int32} {s : zS} (hF : zf29 x0 s = some (v, s')) : Ct K 29 [.int x0] (zmk lg s) (.inl (some (.int v))) (zmk lg s') 0 := by
  unfold zf29 at hF
  refine Ct_of hK nd_ok29 (mL := 1) (rt := some .boolean) rfl rfl (Nat.le_of_ble_eq_true rfl) zlen_le ?_
  refine Ev_p 2 (c' := (3, [some (.int x0)], [.int 48, .int x0])) rfl ?_
  refine Ez_if (M := zM29) (b := x0 < 48) rfl rfl hF (fun _ hF => ?_) (fun _ hF => ?_)
  · refine Ev_p 1 (c' := (17, [some (.int x0)], [.int 0])) rfl ?_
    exact Ez_rb (M := zM29) rfl rfl hF
  · refine Ev_p 2 (c' := (9, [some (.int x0)], [.int 57, .int x0])) rfl ?_
    refine Ez_if (M := zM29) (b := 57 < x0) rfl rfl hF (fun _ hF => ?_) (fun _ hF => ?_)
    · refine Ev_p 1 (c' := (17, [some (.int x0)], [.int 0])) rfl ?_
      exact Ez_rb (M := zM29) rfl rfl hF
    · refine Ev_p 2 (c' := (17, [some (.int x0)], [.int 1])) rfl ?_
      exact Ez_rb (M := zM29) rfl rfl hF
-- PaperParcels$Part.isHex(I)Z
abbrev zM30 : ev_M := (am_in nd_i30, am_fl nd_f4, am_ct nd_k4, am_sl nd_ml nd_s30, fun _ => none, some .boolean)
noncomputable def zf30 (x0 : Int32) (s : zS) : Option (Int32 × zS) :=
  zbi (zf29 x0 s) fun v1 s2 =>
  if ¬ v1 = 0 then
    zrb 1 s2
  else
    if x0 < 97 then
      zrb 0 s2
    else
      if 102 < x0 then
        zrb 0 s2
      else
        zrb 1 s2
theorem zf30_ok {K : cx_K} (hK : Kok K) {lg : Nat → Int64} {v : Int32} {s' : zS}   {x0 : Int32} {s : zS} (hF : zf30 x0 s = some (v, s')) : Ct K 30 [.int x0] (zmk lg s) (.inl (some (.int v))) (zmk lg s') 0 := by
  unfold zf30 at hF
  refine Ct_of hK nd_ok30 (mL := 1) (rt := some .boolean) rfl rfl (Nat.le_of_ble_eq_true rfl) zlen_le ?_
  refine Ev_p 1 (c' := (1, [some (.int x0)], [.int x0])) rfl ?_
  refine Ez_ci (M := zM30) (As := [.int x0]) (st' := []) (zsite_3 (y := 29) (k := 1) (ci := 0) rfl rfl) (Nat.le_of_ble_eq_true rfl) (Nat.le_of_ble_eq_true rfl) rfl rfl (fun _ _ hF => zf29_ok hK  hF) hF (fun v1 s2 hF => ?_)
  refine Ev_p 0 (c' := (4, [some (.int x0)], [.int v1])) rfl ?_
  refine Ez_if (M := zM30) (b := ¬ v1 = 0) rfl rfl hF (fun _ hF => ?_) (fun _ hF => ?_)
  · refine Ev_p 2 (c' := (24, [some (.int x0)], [.int 1])) rfl ?_
    exact Ez_rb (M := zM30) rfl rfl hF
  · refine Ev_p 2 (c' := (10, [some (.int x0)], [.int 97, .int x0])) rfl ?_
    refine Ez_if (M := zM30) (b := x0 < 97) rfl rfl hF (fun _ hF => ?_) (fun _ hF => ?_)
    · refine Ev_p 1 (c' := (24, [some (.int x0)], [.int 0])) rfl ?_
      exact Ez_rb (M := zM30) rfl rfl hF
    · refine Ev_p 2 (c' := (16, [some (.int x0)], [.int 102, .int x0])) rfl ?_
      refine Ez_if (M := zM30) (b := 102 < x0) rfl rfl hF (fun _ hF => ?_) (fun _ hF => ?_)
      · refine Ev_p 1 (c' := (24, [some (.int x0)], [.int 0])) rfl ?_
        exact Ez_rb (M := zM30) rfl rfl hF
      · refine Ev_p 2 (c' := (24, [some (.int x0)], [.int 1])) rfl ?_
        exact Ez_rb (M := zM30) rfl rfl hF
-- java/lang/Math.min(II)I
noncomputable def zf31 (x0 : Int32) (x1 : Int32) (s : zS) : Option (Int32 × zS) :=
  if x1 < x0 then
    some (x1, s)
  else
    some (x0, s)
theorem zf31_ok {K : cx_K} (hK : Kok K) {lg : Nat → Int64} {v : Int32} {s' : zS} {x0 : Int32} {x1 : Int32} {s : zS} (hF : zf31 x0 x1 s = some (v, s')) : Ct K 31 [.int x0, .int x1] (zmk lg s) (.inl (some (.int v))) (zmk lg s') 0 := by
  have hv : v = (if x1 < x0 then x1 else x0) ∧ s' = s := by
    unfold zf31 at hF
    split at hF
    · next h => cases hF; exact ⟨by rw [if_pos h], rfl⟩
    · next h => cases hF; exact ⟨by rw [if_neg h], rfl⟩
  obtain ⟨rfl, rfl⟩ := hv
  obtain ⟨t0, t1, t2, -, -, hX, -, hD, -⟩ := hK
  exact ⟨zmin_met x0 x1 List.mem_cons_self, hD _ zlen_le⟩
-- PaperParcels$Part.scan(LPaperParcels$Row;I)I
abbrev zM28 : ev_M := (am_in nd_i28, am_fl nd_f4, am_ct nd_k4, am_sl nd_ml nd_s28, fun _ => none, some .int)
noncomputable def zf28_131 (a0 : Nat) (a1 : Nat)  : Nat → Int32 → zS → Option (Int32 × zS)
  | 0, _, _ => none
  | n + 1, x5, s =>
    zgf s a0 4 fun v1 =>
    if (v1 + 4) ≤ x5 then
      some ((-1), s)
    else
      zbi (zf18 a1 x5 s) fun v2 s3 =>
      zbi (zf30 v2 s3) fun v4 s5 =>
      if ¬ v4 = 0 then
        zf28_131 a0 a1 n (x5 + 1) s5
      else
        zgf s5 a1 1 fun v6 =>
        zbi (zf31 x5 v6 s5) fun v7 s8 =>
        some (v7, s8)
theorem zf28_131_ok {K : cx_K} (hK : Kok K) {lg : Nat → Int64} {v : Int32} {s' : zS} {a0 : Nat} {a1 : Nat} (h0 : zsh a0 = 4) (h1 : zsh a1 = 1)   {n : Nat} : ∀ {x5 : Int32} {s : zS}, zf28_131 a0 a1 n x5 s = some (v, s') → Ev K zM28 (131, [some (.ref a0), some (.ref a1), none, none, none, some (.int x5)], [], zmk lg s) 0 (.inl (some (.int v))) (zmk lg s') 0 := by
  induction n with
  | zero => intro x5 s hF; rw [zf28_131] at hF; cases hF
  | succ n ih =>
    intro x5 s hF
    rw [zf28_131] at hF
    refine Ev_p 2 (c' := (134, [some (.ref a0), some (.ref a1), none, none, none, some (.int x5)], [.ref a0, .int x5])) rfl ?_
    refine Ez_gf (M := zM28) (ci := 4) (f := 4) rfl rfl h0 rfl hF (fun v1 hF => ?_)
    refine Ev_p 2 (c' := (139, [some (.ref a0), some (.ref a1), none, none, none, some (.int x5)], [.int (v1 + 4), .int x5])) rfl ?_
    refine Ez_if (M := zM28) (b := (v1 + 4) ≤ x5) rfl rfl hF (fun _ hF => ?_) (fun _ hF => ?_)
    · refine Ev_p 1 (c' := (171, [some (.ref a0), some (.ref a1), none, none, none, some (.int x5)], [.int (-1)])) rfl ?_
      exact Ez_ri (M := zM28) rfl rfl hF
    · refine Ev_p 2 (c' := (145, [some (.ref a0), some (.ref a1), none, none, none, some (.int x5)], [.int x5, .ref a1])) rfl ?_
      refine Ez_ci (M := zM28) (As := [.ref a1, .int x5]) (st' := []) (am_site_v (y := 18) (k := 2) (ci := 1) rfl rfl (zrcv rfl h1 rfl)) (Nat.le_of_ble_eq_true rfl) (Nat.le_of_ble_eq_true rfl) rfl rfl (fun _ _ hF => zf18_ok hK h1 hF) hF (fun v2 s3 hF => ?_)
      refine Ev_p 0 (c' := (148, [some (.ref a0), some (.ref a1), none, none, none, some (.int x5)], [.int v2])) rfl ?_
      refine Ez_ci (M := zM28) (As := [.int v2]) (st' := []) (zsite_0 (y := 30) (k := 1) (ci := 4) rfl rfl) (Nat.le_of_ble_eq_true rfl) (Nat.le_of_ble_eq_true rfl) rfl rfl (fun _ _ hF => zf30_ok hK  hF) hF (fun v4 s5 hF => ?_)
      refine Ev_p 0 (c' := (151, [some (.ref a0), some (.ref a1), none, none, none, some (.int x5)], [.int v4])) rfl ?_
      refine Ez_if (M := zM28) (b := ¬ v4 = 0) rfl rfl hF (fun _ hF => ?_) (fun _ hF => ?_)
      · refine Ev_p 2 (c' := (131, [some (.ref a0), some (.ref a1), none, none, none, some (.int (x5 + 1))], [])) rfl ?_
        exact ih hF
      · refine Ev_p 2 (c' := (157, [some (.ref a0), some (.ref a1), none, none, none, some (.int x5)], [.ref a1, .int x5])) rfl ?_
        refine Ez_gf (M := zM28) (ci := 1) (f := 1) rfl rfl h1 rfl hF (fun v6 hF => ?_)
        refine Ev_p 0 (c' := (160, [some (.ref a0), some (.ref a1), none, none, none, some (.int x5)], [.int v6, .int x5])) rfl ?_
        refine Ez_ci (M := zM28) (As := [.int x5, .int v6]) (st' := []) (zsite_0 (y := 31) (k := 2) (ci := 99) rfl rfl) (Nat.le_of_ble_eq_true rfl) (Nat.le_of_ble_eq_true rfl) rfl rfl (fun _ _ hF => zf31_ok hK  hF) hF (fun v7 s8 hF => ?_)
        refine Ev_p 0 (c' := (163, [some (.ref a0), some (.ref a1), none, none, none, some (.int x5)], [.int v7])) rfl ?_
        exact Ez_ri (M := zM28) rfl rfl hF
noncomputable def zf28_104 (a0 : Nat) (a1 : Nat)  (x2 : Int32) (x4 : Int32) (t0 : Int32) (s : zS) : Option (Int32 × zS) :=
  zpb s a0 2 t0 fun s1 =>
  zpf s1 a0 3 (x2 + 5) fun s2 =>
  zgf s2 a0 3 fun v3 =>
  zpf s2 a0 4 (v3 + x4) fun s4 =>
  zgf s4 a0 4 fun v5 =>
  zf28_131 a0 a1 zfz v5 s4
theorem zf28_104_ok {K : cx_K} (hK : Kok K) {lg : Nat → Int64} {v : Int32} {s' : zS} {a0 : Nat} {a1 : Nat} (h0 : zsh a0 = 4) (h1 : zsh a1 = 1)   {x2 : Int32} {x4 : Int32} {t0 : Int32}  {s : zS} (hF : zf28_104 a0 a1 x2 x4 t0 s = some (v, s')) : Ev K zM28 (104, [some (.ref a0), some (.ref a1), some (.int x2), none, some (.int x4), none], [.int t0, .ref a0], zmk lg s) 0 (.inl (some (.int v))) (zmk lg s') 0 := by
  unfold zf28_104 at hF
  refine Ev_p 0 (c' := (104, [some (.ref a0), some (.ref a1), some (.int x2), none, some (.int x4), none], [.int t0, .ref a0])) rfl ?_
  refine Ez_pb (M := zM28) (ci := 4) (f := 2) rfl rfl h0 rfl hF (fun s1 hF => ?_)
  refine Ev_p 4 (c' := (111, [some (.ref a0), some (.ref a1), some (.int x2), none, some (.int x4), none], [.int (x2 + 5), .ref a0])) rfl ?_
  refine Ez_pf (M := zM28) (ci := 4) (f := 3) rfl rfl h0 rfl hF (fun s2 hF => ?_)
  refine Ev_p 2 (c' := (116, [some (.ref a0), some (.ref a1), some (.int x2), none, some (.int x4), none], [.ref a0, .ref a0])) rfl ?_
  refine Ez_gf (M := zM28) (ci := 4) (f := 3) rfl rfl h0 rfl hF (fun v3 hF => ?_)
  refine Ev_p 2 (c' := (122, [some (.ref a0), some (.ref a1), some (.int x2), none, some (.int x4), none], [.int (v3 + x4), .ref a0])) rfl ?_
  refine Ez_pf (M := zM28) (ci := 4) (f := 4) rfl rfl h0 rfl hF (fun s4 hF => ?_)
  refine Ev_p 1 (c' := (126, [some (.ref a0), some (.ref a1), some (.int x2), none, some (.int x4), none], [.ref a0])) rfl ?_
  refine Ez_gf (M := zM28) (ci := 4) (f := 4) rfl rfl h0 rfl hF (fun v5 hF => ?_)
  refine Ev_p 1 (c' := (131, [some (.ref a0), some (.ref a1), some (.int x2), none, some (.int x4), some (.int v5)], [])) rfl ?_
  refine Ev_w (L' := [some (.ref a0), some (.ref a1), none, none, none, some (.int v5)]) (zle_c (zle_c (zle_n (zle_c (zle_n (zle_c zle_0)))))) ?_
  exact zf28_131_ok hK h0 h1 hF
noncomputable def zf28_46 (a0 : Nat) (a1 : Nat)  : Nat → Int32 → Int32 → Int32 → Int32 → zS → Option (Int32 × zS)
  | 0, _, _, _, _, _ => none
  | n + 1, x2, x3, x4, x5, s =>
    if (x2 + 5) ≤ x5 then
      if ¬ x3 = 49 then
        zf28_104 a0 a1 x2 x4 0 s
      else
        zf28_104 a0 a1 x2 x4 1 s
    else
      zbi (zf18 a1 x5 s) fun v1 s2 =>
      zbi (zf29 v1 s2) fun v3 s4 =>
      if ¬ v3 = 0 then
        zbi (zf18 a1 x5 s4) fun v5 s6 =>
        zf28_46 a0 a1 n x2 x3 (((10 * x4) + v5) - 48) (x5 + 1) s6
      else
        some (x5, s4)
theorem zf28_46_ok {K : cx_K} (hK : Kok K) {lg : Nat → Int64} {v : Int32} {s' : zS} {a0 : Nat} {a1 : Nat} (h0 : zsh a0 = 4) (h1 : zsh a1 = 1)   {n : Nat} : ∀ {x2 : Int32} {x3 : Int32} {x4 : Int32} {x5 : Int32} {s : zS}, zf28_46 a0 a1 n x2 x3 x4 x5 s = some (v, s') → Ev K zM28 (46, [some (.ref a0), some (.ref a1), some (.int x2), some (.int x3), some (.int x4), some (.int x5)], [], zmk lg s) 0 (.inl (some (.int v))) (zmk lg s') 0 := by
  induction n with
  | zero => intro x2 x3 x4 x5 s hF; rw [zf28_46] at hF; cases hF
  | succ n ih =>
    intro x2 x3 x4 x5 s hF
    rw [zf28_46] at hF
    refine Ev_p 4 (c' := (51, [some (.ref a0), some (.ref a1), some (.int x2), some (.int x3), some (.int x4), some (.int x5)], [.int (x2 + 5), .int x5])) rfl ?_
    refine Ez_if (M := zM28) (b := (x2 + 5) ≤ x5) rfl rfl hF (fun _ hF => ?_) (fun _ hF => ?_)
    · refine Ev_p 3 (c' := (96, [some (.ref a0), some (.ref a1), some (.int x2), some (.int x3), some (.int x4), some (.int x5)], [.int 49, .int x3, .ref a0])) rfl ?_
      refine Ez_if (M := zM28) (b := ¬ x3 = 49) rfl rfl hF (fun _ hF => ?_) (fun _ hF => ?_)
      · refine Ev_p 1 (c' := (104, [some (.ref a0), some (.ref a1), some (.int x2), some (.int x3), some (.int x4), some (.int x5)], [.int 0, .ref a0])) rfl ?_
        refine Ev_w (L' := [some (.ref a0), some (.ref a1), some (.int x2), none, some (.int x4), none]) (zle_c (zle_c (zle_c (zle_n (zle_c (zle_n zle_0)))))) ?_
        exact zf28_104_ok hK h0 h1 hF
      · refine Ev_p 2 (c' := (104, [some (.ref a0), some (.ref a1), some (.int x2), some (.int x3), some (.int x4), some (.int x5)], [.int 1, .ref a0])) rfl ?_
        refine Ev_w (L' := [some (.ref a0), some (.ref a1), some (.int x2), none, some (.int x4), none]) (zle_c (zle_c (zle_c (zle_n (zle_c (zle_n zle_0)))))) ?_
        exact zf28_104_ok hK h0 h1 hF
    · refine Ev_p 2 (c' := (57, [some (.ref a0), some (.ref a1), some (.int x2), some (.int x3), some (.int x4), some (.int x5)], [.int x5, .ref a1])) rfl ?_
      refine Ez_ci (M := zM28) (As := [.ref a1, .int x5]) (st' := []) (am_site_v (y := 18) (k := 2) (ci := 1) rfl rfl (zrcv rfl h1 rfl)) (Nat.le_of_ble_eq_true rfl) (Nat.le_of_ble_eq_true rfl) rfl rfl (fun _ _ hF => zf18_ok hK h1 hF) hF (fun v1 s2 hF => ?_)
      refine Ev_p 0 (c' := (60, [some (.ref a0), some (.ref a1), some (.int x2), some (.int x3), some (.int x4), some (.int x5)], [.int v1])) rfl ?_
      refine Ez_ci (M := zM28) (As := [.int v1]) (st' := []) (zsite_3 (y := 29) (k := 1) (ci := 0) rfl rfl) (Nat.le_of_ble_eq_true rfl) (Nat.le_of_ble_eq_true rfl) rfl rfl (fun _ _ hF => zf29_ok hK  hF) hF (fun v3 s4 hF => ?_)
      refine Ev_p 0 (c' := (63, [some (.ref a0), some (.ref a1), some (.int x2), some (.int x3), some (.int x4), some (.int x5)], [.int v3])) rfl ?_
      refine Ez_if (M := zM28) (b := ¬ v3 = 0) rfl rfl hF (fun _ hF => ?_) (fun _ hF => ?_)
      · refine Ev_p 5 (c' := (77, [some (.ref a0), some (.ref a1), some (.int x2), some (.int x3), some (.int x4), some (.int x5)], [.int x5, .ref a1, .int (10 * x4)])) rfl ?_
        refine Ez_ci (M := zM28) (As := [.ref a1, .int x5]) (st' := [.int (10 * x4)]) (am_site_v (y := 18) (k := 2) (ci := 1) rfl rfl (zrcv rfl h1 rfl)) (Nat.le_of_ble_eq_true rfl) (Nat.le_of_ble_eq_true rfl) rfl rfl (fun _ _ hF => zf18_ok hK h1 hF) hF (fun v5 s6 hF => ?_)
        refine Ev_p 6 (c' := (46, [some (.ref a0), some (.ref a1), some (.int x2), some (.int x3), some (.int (((10 * x4) + v5) - 48)), some (.int (x5 + 1))], [])) rfl ?_
        exact ih hF
      · refine Ev_p 1 (c' := (68, [some (.ref a0), some (.ref a1), some (.int x2), some (.int x3), some (.int x4), some (.int x5)], [.int x5])) rfl ?_
        exact Ez_ri (M := zM28) rfl rfl hF
noncomputable def zf28 (a0 : Nat) (a1 : Nat) (x2 : Int32) (s : zS) : Option (Int32 × zS) :=
  zbi (zf18 a1 x2 s) fun v1 s2 =>
  zgf s2 a0 0 fun v3 =>
  if v1 = v3 then
    zbi (zf18 a1 (x2 + 1) s2) fun v4 s5 =>
    if v4 = 48 then
      zf28_46 a0 a1 zfz x2 v4 0 (x2 + 2) s5
    else
      if v4 = 49 then
        zf28_46 a0 a1 zfz x2 v4 0 (x2 + 2) s5
      else
        some ((x2 + 1), s5)
  else
    some (x2, s2)
theorem zf28_ok {K : cx_K} (hK : Kok K) {lg : Nat → Int64} {v : Int32} {s' : zS} {a0 : Nat} {a1 : Nat} (h0 : zsh a0 = 4) (h1 : zsh a1 = 1) {x2 : Int32} {s : zS} (hF : zf28 a0 a1 x2 s = some (v, s')) : Ct K 28 [.ref a0, .ref a1, .int x2] (zmk lg s) (.inl (some (.int v))) (zmk lg s') 0 := by
  unfold zf28 at hF
  refine Ct_of hK nd_ok28 (mL := 6) (rt := some .int) rfl rfl (Nat.le_of_ble_eq_true rfl) zlen_le ?_
  refine Ev_p 2 (c' := (2, [some (.ref a0), some (.ref a1), some (.int x2), none, none, none], [.int x2, .ref a1])) rfl ?_
  refine Ez_ci (M := zM28) (As := [.ref a1, .int x2]) (st' := []) (am_site_v (y := 18) (k := 2) (ci := 1) rfl rfl (zrcv rfl h1 rfl)) (Nat.le_of_ble_eq_true rfl) (Nat.le_of_ble_eq_true rfl) rfl rfl (fun _ _ hF => zf18_ok hK h1 hF) hF (fun v1 s2 hF => ?_)
  refine Ev_p 1 (c' := (6, [some (.ref a0), some (.ref a1), some (.int x2), none, none, none], [.ref a0, .int v1])) rfl ?_
  refine Ez_gf (M := zM28) (ci := 4) (f := 0) rfl rfl h0 rfl hF (fun v3 hF => ?_)
  refine Ev_p 0 (c' := (9, [some (.ref a0), some (.ref a1), some (.int x2), none, none, none], [.int v3, .int v1])) rfl ?_
  refine Ez_if (M := zM28) (b := v1 = v3) rfl rfl hF (fun _ hF => ?_) (fun _ hF => ?_)
  · refine Ev_p 4 (c' := (18, [some (.ref a0), some (.ref a1), some (.int x2), none, none, none], [.int (x2 + 1), .ref a1])) rfl ?_
    refine Ez_ci (M := zM28) (As := [.ref a1, .int (x2 + 1)]) (st' := []) (am_site_v (y := 18) (k := 2) (ci := 1) rfl rfl (zrcv rfl h1 rfl)) (Nat.le_of_ble_eq_true rfl) (Nat.le_of_ble_eq_true rfl) rfl rfl (fun _ _ hF => zf18_ok hK h1 hF) hF (fun v4 s5 hF => ?_)
    refine Ev_p 3 (c' := (25, [some (.ref a0), some (.ref a1), some (.int x2), some (.int v4), none, none], [.int 48, .int v4])) rfl ?_
    refine Ez_if (M := zM28) (b := v4 = 48) rfl rfl hF (fun _ hF => ?_) (fun _ hF => ?_)
    · refine Ev_p 6 (c' := (46, [some (.ref a0), some (.ref a1), some (.int x2), some (.int v4), some (.int 0), some (.int (x2 + 2))], [])) rfl ?_
      exact zf28_46_ok hK h0 h1 hF
    · refine Ev_p 2 (c' := (31, [some (.ref a0), some (.ref a1), some (.int x2), some (.int v4), none, none], [.int 49, .int v4])) rfl ?_
      refine Ez_if (M := zM28) (b := v4 = 49) rfl rfl hF (fun _ hF => ?_) (fun _ hF => ?_)
      · refine Ev_p 6 (c' := (46, [some (.ref a0), some (.ref a1), some (.int x2), some (.int v4), some (.int 0), some (.int (x2 + 2))], [])) rfl ?_
        exact zf28_46_ok hK h0 h1 hF
      · refine Ev_p 3 (c' := (37, [some (.ref a0), some (.ref a1), some (.int x2), some (.int v4), none, none], [.int (x2 + 1)])) rfl ?_
        exact Ez_ri (M := zM28) rfl rfl hF
  · refine Ev_p 1 (c' := (13, [some (.ref a0), some (.ref a1), some (.int x2), none, none, none], [.int x2])) rfl ?_
    exact Ez_ri (M := zM28) rfl rfl hF
-- PaperParcels$Part.end()I
abbrev zM32 : ev_M := (am_in nd_i32, am_fl nd_f4, am_ct nd_k4, am_sl nd_ml nd_s32, fun _ => none, some .int)
noncomputable def zf32 (a0 : Nat) (s : zS) : Option (Int32 × zS) :=
  zgf s a0 4 fun v1 =>
  some ((v1 + 4), s)
theorem zf32_ok {K : cx_K} (hK : Kok K) {lg : Nat → Int64} {v : Int32} {s' : zS} {a0 : Nat} (h0 : zsh a0 = 4)  {s : zS} (hF : zf32 a0 s = some (v, s')) : Ct K 32 [.ref a0] (zmk lg s) (.inl (some (.int v))) (zmk lg s') 0 := by
  unfold zf32 at hF
  refine Ct_of hK nd_ok32 (mL := 1) (rt := some .int) rfl rfl (Nat.le_of_ble_eq_true rfl) zlen_le ?_
  refine Ev_p 1 (c' := (1, [some (.ref a0)], [.ref a0])) rfl ?_
  refine Ez_gf (M := zM32) (ci := 4) (f := 4) rfl rfl h0 rfl hF (fun v1 hF => ?_)
  refine Ev_p 2 (c' := (6, [some (.ref a0)], [.int (v1 + 4)])) rfl ?_
  exact Ez_ri (M := zM32) rfl rfl hF
-- PaperParcels$Reader.packageFault(LPaperParcels$Row;)I
abbrev zM27 : ev_M := (am_in nd_i27, am_fl nd_f3, am_ct nd_k3, am_sl nd_ml nd_s27, fun _ => none, some .int)
noncomputable def zf27_31 (a0 : Nat) (a1 : Nat)  (x2 : Int32) (s : zS) : Option (Int32 × zS) :=
  if ¬ x2 = (-1) then
    some (x2, s)
  else
    zbi (zf32 (zrf a0 3) s) fun v1 s2 =>
    zgf s2 a1 1 fun v3 =>
    if v3 ≤ v1 then
      some (x2, s2)
    else
      zbi (zf32 (zrf a0 3) s2) fun v4 s5 =>
      some (v4, s5)
theorem zf27_31_ok {K : cx_K} (hK : Kok K) {lg : Nat → Int64} {v : Int32} {s' : zS} {a0 : Nat} {a1 : Nat} (h0 : zsh a0 = 3) (h1 : zsh a1 = 1)   {x2 : Int32}  {s : zS} (hF : zf27_31 a0 a1 x2 s = some (v, s')) : Ev K zM27 (31, [some (.ref a0), some (.ref a1), some (.int x2)], [], zmk lg s) 0 (.inl (some (.int v))) (zmk lg s') 0 := by
  unfold zf27_31 at hF
  refine Ev_p 2 (c' := (33, [some (.ref a0), some (.ref a1), some (.int x2)], [.int (-1), .int x2])) rfl ?_
  refine Ez_if (M := zM27) (b := ¬ x2 = (-1)) rfl rfl hF (fun _ hF => ?_) (fun _ hF => ?_)
  · refine Ev_p 1 (c' := (59, [some (.ref a0), some (.ref a1), some (.int x2)], [.int x2])) rfl ?_
    exact Ez_ri (M := zM27) rfl rfl hF
  · refine Ev_p 1 (c' := (37, [some (.ref a0), some (.ref a1), some (.int x2)], [.ref a0])) rfl ?_
    refine Ez_gr (M := zM27) (ci := 3) (f := 3) (t := 4) rfl rfl h0 rfl ?_
    refine Ev_p 0 (c' := (40, [some (.ref a0), some (.ref a1), some (.int x2)], [.ref (zrf a0 3)])) rfl ?_
    refine Ez_ci (M := zM27) (As := [.ref (zrf a0 3)]) (st' := []) (am_site_v (y := 32) (k := 1) (ci := 4) rfl rfl (zrcv rfl (zty (ci := 3) (f := 3) (t := 4) h0 rfl) rfl)) (Nat.le_of_ble_eq_true rfl) (Nat.le_of_ble_eq_true rfl) rfl rfl (fun _ _ hF => zf32_ok hK (zty (ci := 3) (f := 3) (t := 4) h0 rfl) hF) hF (fun v1 s2 hF => ?_)
    refine Ev_p 1 (c' := (44, [some (.ref a0), some (.ref a1), some (.int x2)], [.ref a1, .int v1])) rfl ?_
    refine Ez_gf (M := zM27) (ci := 1) (f := 1) rfl rfl h1 rfl hF (fun v3 hF => ?_)
    refine Ev_p 0 (c' := (47, [some (.ref a0), some (.ref a1), some (.int x2)], [.int v3, .int v1])) rfl ?_
    refine Ez_if (M := zM27) (b := v3 ≤ v1) rfl rfl hF (fun _ hF => ?_) (fun _ hF => ?_)
    · refine Ev_p 1 (c' := (59, [some (.ref a0), some (.ref a1), some (.int x2)], [.int x2])) rfl ?_
      exact Ez_ri (M := zM27) rfl rfl hF
    · refine Ev_p 1 (c' := (51, [some (.ref a0), some (.ref a1), some (.int x2)], [.ref a0])) rfl ?_
      refine Ez_gr (M := zM27) (ci := 3) (f := 3) (t := 4) rfl rfl h0 rfl ?_
      refine Ev_p 0 (c' := (54, [some (.ref a0), some (.ref a1), some (.int x2)], [.ref (zrf a0 3)])) rfl ?_
      refine Ez_ci (M := zM27) (As := [.ref (zrf a0 3)]) (st' := []) (am_site_v (y := 32) (k := 1) (ci := 4) rfl rfl (zrcv rfl (zty (ci := 3) (f := 3) (t := 4) h0 rfl) rfl)) (Nat.le_of_ble_eq_true rfl) (Nat.le_of_ble_eq_true rfl) rfl rfl (fun _ _ hF => zf32_ok hK (zty (ci := 3) (f := 3) (t := 4) h0 rfl) hF) hF (fun v4 s5 hF => ?_)
      refine Ev_p 2 (c' := (59, [some (.ref a0), some (.ref a1), some (.int v4)], [.int v4])) rfl ?_
      exact Ez_ri (M := zM27) rfl rfl hF
noncomputable def zf27 (a0 : Nat) (a1 : Nat) (s : zS) : Option (Int32 × zS) :=
  zbi (zf28 (zrf a0 2) a1 0 s) fun v1 s2 =>
  if ¬ v1 = (-1) then
    zf27_31 a0 a1 v1 s2
  else
    zbi (zf32 (zrf a0 2) s2) fun v3 s4 =>
    zbi (zf28 (zrf a0 3) a1 v3 s4) fun v5 s6 =>
    zf27_31 a0 a1 v5 s6
theorem zf27_ok {K : cx_K} (hK : Kok K) {lg : Nat → Int64} {v : Int32} {s' : zS} {a0 : Nat} {a1 : Nat} (h0 : zsh a0 = 3) (h1 : zsh a1 = 1)  {s : zS} (hF : zf27 a0 a1 s = some (v, s')) : Ct K 27 [.ref a0, .ref a1] (zmk lg s) (.inl (some (.int v))) (zmk lg s') 0 := by
  unfold zf27 at hF
  refine Ct_of hK nd_ok27 (mL := 3) (rt := some .int) rfl rfl (Nat.le_of_ble_eq_true rfl) zlen_le ?_
  refine Ev_p 1 (c' := (1, [some (.ref a0), some (.ref a1), none], [.ref a0])) rfl ?_
  refine Ez_gr (M := zM27) (ci := 3) (f := 2) (t := 4) rfl rfl h0 rfl ?_
  refine Ev_p 2 (c' := (6, [some (.ref a0), some (.ref a1), none], [.int 0, .ref a1, .ref (zrf a0 2)])) rfl ?_
  refine Ez_ci (M := zM27) (As := [.ref (zrf a0 2), .ref a1, .int 0]) (st' := []) (am_site_v (y := 28) (k := 3) (ci := 4) rfl rfl (zrcv rfl (zty (ci := 3) (f := 2) (t := 4) h0 rfl) rfl)) (Nat.le_of_ble_eq_true rfl) (Nat.le_of_ble_eq_true rfl) rfl rfl (fun _ _ hF => zf28_ok hK (zty (ci := 3) (f := 2) (t := 4) h0 rfl) h1 hF) hF (fun v1 s2 hF => ?_)
  refine Ev_p 3 (c' := (12, [some (.ref a0), some (.ref a1), some (.int v1)], [.int (-1), .int v1])) rfl ?_
  refine Ez_if (M := zM27) (b := ¬ v1 = (-1)) rfl rfl hF (fun _ hF => ?_) (fun _ hF => ?_)
  · refine Ev_p 0 (c' := (31, [some (.ref a0), some (.ref a1), some (.int v1)], [])) rfl ?_
    exact zf27_31_ok hK h0 h1 hF
  · refine Ev_p 1 (c' := (16, [some (.ref a0), some (.ref a1), some (.int v1)], [.ref a0])) rfl ?_
    refine Ez_gr (M := zM27) (ci := 3) (f := 3) (t := 4) rfl rfl h0 rfl ?_
    refine Ev_p 2 (c' := (21, [some (.ref a0), some (.ref a1), some (.int v1)], [.ref a0, .ref a1, .ref (zrf a0 3)])) rfl ?_
    refine Ez_gr (M := zM27) (ci := 3) (f := 2) (t := 4) rfl rfl h0 rfl ?_
    refine Ev_p 0 (c' := (24, [some (.ref a0), some (.ref a1), some (.int v1)], [.ref (zrf a0 2), .ref a1, .ref (zrf a0 3)])) rfl ?_
    refine Ez_ci (M := zM27) (As := [.ref (zrf a0 2)]) (st' := [.ref a1, .ref (zrf a0 3)]) (am_site_v (y := 32) (k := 1) (ci := 4) rfl rfl (zrcv rfl (zty (ci := 3) (f := 2) (t := 4) h0 rfl) rfl)) (Nat.le_of_ble_eq_true rfl) (Nat.le_of_ble_eq_true rfl) rfl rfl (fun _ _ hF => zf32_ok hK (zty (ci := 3) (f := 2) (t := 4) h0 rfl) hF) hF (fun v3 s4 hF => ?_)
    refine Ev_p 0 (c' := (27, [some (.ref a0), some (.ref a1), some (.int v1)], [.int v3, .ref a1, .ref (zrf a0 3)])) rfl ?_
    refine Ez_ci (M := zM27) (As := [.ref (zrf a0 3), .ref a1, .int v3]) (st' := []) (am_site_v (y := 28) (k := 3) (ci := 4) rfl rfl (zrcv rfl (zty (ci := 3) (f := 3) (t := 4) h0 rfl) rfl)) (Nat.le_of_ble_eq_true rfl) (Nat.le_of_ble_eq_true rfl) rfl rfl (fun _ _ hF => zf28_ok hK (zty (ci := 3) (f := 3) (t := 4) h0 rfl) h1 hF) hF (fun v5 s6 hF => ?_)
    refine Ev_p 1 (c' := (31, [some (.ref a0), some (.ref a1), some (.int v5)], [])) rfl ?_
    exact zf27_31_ok hK h0 h1 hF

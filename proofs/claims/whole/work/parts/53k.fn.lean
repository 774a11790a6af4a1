/-! The methods as functions, and that the machine goes so (printed by wip/gen/fgen.py). -/
set_option maxRecDepth 100000
set_option linter.unusedVariables false
-- PaperParcels$Script.putIn(II)V
abbrev zM112 : ev_M := (am_in nd_i112, am_fl nd_f8, am_ct nd_k8, am_sl nd_ml nd_s112, fun _ => none, none)
noncomputable def zf112_2 (a0 : Nat)  : Nat → Int32 → Int32 → Int32 → zS → Option (zS)
  | 0, _, _, _, _ => none
  | n + 1, x1, x2, x3, s =>
    zgf s a0 13 fun v1 =>
    if v1 ≤ x3 then
      some s
    else
      if x1 = (-1) then
        some s
      else
        zal s (zrf a0 4) x3 fun v2 =>
        if ¬ v2 = x1 then
          zf112_2 a0 n x1 x2 (x3 + 1) s
        else
          zal s (zrf a0 5) x3 fun v3 =>
          if ¬ v3 = x2 then
            zf112_2 a0 n x1 x2 (x3 + 1) s
          else
            zal s (zrf a0 3) x3 fun v4 =>
            zal s (zrf a0 12) x1 fun v5 =>
            zbv (zf113 a0 v4 v5 s) fun s7 =>
            zf112_2 a0 n x1 x2 (x3 + 1) s7
theorem zf112_2_ok {K : cx_K} (hK : Kok K) {lg : Nat → Int64} {s' : zS} {a0 : Nat} (h0 : zsh a0 = 8)   {n : Nat} : ∀ {x1 : Int32} {x2 : Int32} {x3 : Int32} {s : zS}, zf112_2 a0 n x1 x2 x3 s = some s' → Ev K zM112 (2, [some (.ref a0), some (.int x1), some (.int x2), some (.int x3)], [], zmk lg s) 0 (.inl none) (zmk lg s') 0 := by
  induction n with
  | zero => intro x1 x2 x3 s hF; rw [zf112_2] at hF; cases hF
  | succ n ih =>
    intro x1 x2 x3 s hF
    rw [zf112_2] at hF
    refine Ev_p 2 (c' := (4, [some (.ref a0), some (.int x1), some (.int x2), some (.int x3)], [.ref a0, .int x3])) rfl ?_
    refine Ez_gf (M := zM112) (ci := 8) (f := 13) rfl rfl h0 rfl hF (fun v1 hF => ?_)
    refine Ev_p 0 (c' := (7, [some (.ref a0), some (.int x1), some (.int x2), some (.int x3)], [.int v1, .int x3])) rfl ?_
    refine Ez_if (M := zM112) (b := v1 ≤ x3) rfl rfl hF (fun _ hF => ?_) (fun _ hF => ?_)
    · refine Ev_p 0 (c' := (57, [some (.ref a0), some (.int x1), some (.int x2), some (.int x3)], [])) rfl ?_
      exact Ez_rv (M := zM112) rfl rfl hF
    · refine Ev_p 2 (c' := (12, [some (.ref a0), some (.int x1), some (.int x2), some (.int x3)], [.int (-1), .int x1])) rfl ?_
      refine Ez_if (M := zM112) (b := x1 = (-1)) rfl rfl hF (fun _ hF => ?_) (fun _ hF => ?_)
      · refine Ev_p 0 (c' := (57, [some (.ref a0), some (.int x1), some (.int x2), some (.int x3)], [])) rfl ?_
        exact Ez_rv (M := zM112) rfl rfl hF
      · refine Ev_p 1 (c' := (16, [some (.ref a0), some (.int x1), some (.int x2), some (.int x3)], [.ref a0])) rfl ?_
        refine Ez_gr (M := zM112) (ci := 8) (f := 4) (t := 100) rfl rfl h0 rfl ?_
        refine Ev_p 1 (c' := (20, [some (.ref a0), some (.int x1), some (.int x2), some (.int x3)], [.int x3, .ref (zrf a0 4)])) rfl ?_
        refine Ez_al (M := zM112) rfl (zty (ci := 8) (f := 4) (t := 100) h0 rfl) hF (fun v2 hF => ?_)
        refine Ev_p 1 (c' := (22, [some (.ref a0), some (.int x1), some (.int x2), some (.int x3)], [.int x1, .int v2])) rfl ?_
        refine Ez_if (M := zM112) (b := ¬ v2 = x1) rfl rfl hF (fun _ hF => ?_) (fun _ hF => ?_)
        · refine Ev_p 2 (c' := (2, [some (.ref a0), some (.int x1), some (.int x2), some (.int (x3 + 1))], [])) rfl ?_
          exact ih hF
        · refine Ev_p 1 (c' := (26, [some (.ref a0), some (.int x1), some (.int x2), some (.int x3)], [.ref a0])) rfl ?_
          refine Ez_gr (M := zM112) (ci := 8) (f := 5) (t := 100) rfl rfl h0 rfl ?_
          refine Ev_p 1 (c' := (30, [some (.ref a0), some (.int x1), some (.int x2), some (.int x3)], [.int x3, .ref (zrf a0 5)])) rfl ?_
          refine Ez_al (M := zM112) rfl (zty (ci := 8) (f := 5) (t := 100) h0 rfl) hF (fun v3 hF => ?_)
          refine Ev_p 1 (c' := (32, [some (.ref a0), some (.int x1), some (.int x2), some (.int x3)], [.int x2, .int v3])) rfl ?_
          refine Ez_if (M := zM112) (b := ¬ v3 = x2) rfl rfl hF (fun _ hF => ?_) (fun _ hF => ?_)
          · refine Ev_p 2 (c' := (2, [some (.ref a0), some (.int x1), some (.int x2), some (.int (x3 + 1))], [])) rfl ?_
            exact ih hF
          · refine Ev_p 2 (c' := (37, [some (.ref a0), some (.int x1), some (.int x2), some (.int x3)], [.ref a0, .ref a0])) rfl ?_
            refine Ez_gr (M := zM112) (ci := 8) (f := 3) (t := 100) rfl rfl h0 rfl ?_
            refine Ev_p 1 (c' := (41, [some (.ref a0), some (.int x1), some (.int x2), some (.int x3)], [.int x3, .ref (zrf a0 3), .ref a0])) rfl ?_
            refine Ez_al (M := zM112) rfl (zty (ci := 8) (f := 3) (t := 100) h0 rfl) hF (fun v4 hF => ?_)
            refine Ev_p 1 (c' := (43, [some (.ref a0), some (.int x1), some (.int x2), some (.int x3)], [.ref a0, .int v4, .ref a0])) rfl ?_
            refine Ez_gr (M := zM112) (ci := 8) (f := 12) (t := 100) rfl rfl h0 rfl ?_
            refine Ev_p 1 (c' := (47, [some (.ref a0), some (.int x1), some (.int x2), some (.int x3)], [.int x1, .ref (zrf a0 12), .int v4, .ref a0])) rfl ?_
            refine Ez_al (M := zM112) rfl (zty (ci := 8) (f := 12) (t := 100) h0 rfl) hF (fun v5 hF => ?_)
            refine Ev_p 0 (c' := (48, [some (.ref a0), some (.int x1), some (.int x2), some (.int x3)], [.int v5, .int v4, .ref a0])) rfl ?_
            refine Ez_cv (M := zM112) (As := [.ref a0, .int v4, .int v5]) (st' := []) (am_site_v (y := 113) (k := 3) (ci := 8) rfl rfl (zrcv rfl h0 rfl)) (Nat.le_of_ble_eq_true rfl) (Nat.le_of_ble_eq_true rfl) rfl rfl (fun _ hF => zf113_ok hK h0 hF) hF (fun s7 hF => ?_)
            refine Ev_p 2 (c' := (2, [some (.ref a0), some (.int x1), some (.int x2), some (.int (x3 + 1))], [])) rfl ?_
            exact ih hF
noncomputable def zf112 (a0 : Nat) (x1 : Int32) (x2 : Int32) (s : zS) : Option (zS) :=
  zf112_2 a0 zfz x1 x2 0 s
theorem zf112_ok {K : cx_K} (hK : Kok K) {lg : Nat → Int64} {s' : zS} {a0 : Nat} (h0 : zsh a0 = 8) {x1 : Int32} {x2 : Int32} {s : zS} (hF : zf112 a0 x1 x2 s = some s') : Ct K 112 [.ref a0, .int x1, .int x2] (zmk lg s) (.inl none) (zmk lg s') 0 := by
  unfold zf112 at hF
  refine Ct_of hK nd_ok112 (mL := 4) (rt := none) rfl rfl (Nat.le_of_ble_eq_true rfl) zlen_le ?_
  refine Ev_p 2 (c' := (2, [some (.ref a0), some (.int x1), some (.int x2), some (.int 0)], [])) rfl ?_
  exact zf112_2_ok hK h0 hF
-- PaperParcels$Script.endRows(II)V
abbrev zM111 : ev_M := (am_in nd_i111, am_fl nd_f8, am_ct nd_k8, am_sl nd_ml nd_s111, fun _ => none, none)
noncomputable def zf111_5 (a0 : Nat)  : Nat → Int32 → Int32 → Int32 → zS → Option (zS)
  | 0, _, _, _, _ => none
  | n + 1, x2, x3, x4, s =>
    if 40 ≤ x4 then
      some s
    else
      if x3 = x2 then
        some s
      else
        if x3 = (-1) then
          some s
        else
          zbv (zf112 a0 x3 40 s) fun s2 =>
          zal s2 (zrf (zrf (zrf a0 6) 0) 1) x3 fun v3 =>
          zf111_5 a0 n x2 v3 (x4 + 1) s2
theorem zf111_5_ok {K : cx_K} (hK : Kok K) {lg : Nat → Int64} {s' : zS} {a0 : Nat} (h0 : zsh a0 = 8)   {n : Nat} : ∀ {x2 : Int32} {x3 : Int32} {x4 : Int32} {s : zS}, zf111_5 a0 n x2 x3 x4 s = some s' → Ev K zM111 (5, [some (.ref a0), none, some (.int x2), some (.int x3), some (.int x4)], [], zmk lg s) 0 (.inl none) (zmk lg s') 0 := by
  induction n with
  | zero => intro x2 x3 x4 s hF; rw [zf111_5] at hF; cases hF
  | succ n ih =>
    intro x2 x3 x4 s hF
    rw [zf111_5] at hF
    refine Ev_p 2 (c' := (9, [some (.ref a0), none, some (.int x2), some (.int x3), some (.int x4)], [.int 40, .int x4])) rfl ?_
    refine Ez_if (M := zM111) (b := 40 ≤ x4) rfl rfl hF (fun _ hF => ?_) (fun _ hF => ?_)
    · refine Ev_p 0 (c' := (48, [some (.ref a0), none, some (.int x2), some (.int x3), some (.int x4)], [])) rfl ?_
      exact Ez_rv (M := zM111) rfl rfl hF
    · refine Ev_p 2 (c' := (14, [some (.ref a0), none, some (.int x2), some (.int x3), some (.int x4)], [.int x2, .int x3])) rfl ?_
      refine Ez_if (M := zM111) (b := x3 = x2) rfl rfl hF (fun _ hF => ?_) (fun _ hF => ?_)
      · refine Ev_p 0 (c' := (48, [some (.ref a0), none, some (.int x2), some (.int x3), some (.int x4)], [])) rfl ?_
        exact Ez_rv (M := zM111) rfl rfl hF
      · refine Ev_p 2 (c' := (19, [some (.ref a0), none, some (.int x2), some (.int x3), some (.int x4)], [.int (-1), .int x3])) rfl ?_
        refine Ez_if (M := zM111) (b := x3 = (-1)) rfl rfl hF (fun _ hF => ?_) (fun _ hF => ?_)
        · refine Ev_p 0 (c' := (48, [some (.ref a0), none, some (.int x2), some (.int x3), some (.int x4)], [])) rfl ?_
          exact Ez_rv (M := zM111) rfl rfl hF
        · refine Ev_p 3 (c' := (26, [some (.ref a0), none, some (.int x2), some (.int x3), some (.int x4)], [.int 40, .int x3, .ref a0])) rfl ?_
          refine Ez_cv (M := zM111) (As := [.ref a0, .int x3, .int 40]) (st' := []) (am_site_v (y := 112) (k := 3) (ci := 8) rfl rfl (zrcv rfl h0 rfl)) (Nat.le_of_ble_eq_true rfl) (Nat.le_of_ble_eq_true rfl) rfl rfl (fun _ hF => zf112_ok hK h0 hF) hF (fun s2 hF => ?_)
          refine Ev_p 1 (c' := (30, [some (.ref a0), none, some (.int x2), some (.int x3), some (.int x4)], [.ref a0])) rfl ?_
          refine Ez_gr (M := zM111) (ci := 8) (f := 6) (t := 9) rfl rfl h0 rfl ?_
          refine Ev_p 0 (c' := (33, [some (.ref a0), none, some (.int x2), some (.int x3), some (.int x4)], [.ref (zrf a0 6)])) rfl ?_
          refine Ez_gr (M := zM111) (ci := 9) (f := 0) (t := 2) rfl rfl (zty (ci := 8) (f := 6) (t := 9) h0 rfl) rfl ?_
          refine Ev_p 0 (c' := (36, [some (.ref a0), none, some (.int x2), some (.int x3), some (.int x4)], [.ref (zrf (zrf a0 6) 0)])) rfl ?_
          refine Ez_gr (M := zM111) (ci := 2) (f := 1) (t := 100) rfl rfl (zty (ci := 9) (f := 0) (t := 2) (zty (ci := 8) (f := 6) (t := 9) h0 rfl) rfl) rfl ?_
          refine Ev_p 1 (c' := (40, [some (.ref a0), none, some (.int x2), some (.int x3), some (.int x4)], [.int x3, .ref (zrf (zrf (zrf a0 6) 0) 1)])) rfl ?_
          refine Ez_al (M := zM111) rfl (zty (ci := 2) (f := 1) (t := 100) (zty (ci := 9) (f := 0) (t := 2) (zty (ci := 8) (f := 6) (t := 9) h0 rfl) rfl) rfl) hF (fun v3 hF => ?_)
          refine Ev_p 3 (c' := (5, [some (.ref a0), none, some (.int x2), some (.int v3), some (.int (x4 + 1))], [])) rfl ?_
          exact ih hF
noncomputable def zf111 (a0 : Nat) (x1 : Int32) (x2 : Int32) (s : zS) : Option (zS) :=
  zf111_5 a0 zfz x2 x1 0 s
theorem zf111_ok {K : cx_K} (hK : Kok K) {lg : Nat → Int64} {s' : zS} {a0 : Nat} (h0 : zsh a0 = 8) {x1 : Int32} {x2 : Int32} {s : zS} (hF : zf111 a0 x1 x2 s = some s') : Ct K 111 [.ref a0, .int x1, .int x2] (zmk lg s) (.inl none) (zmk lg s') 0 := by
  unfold zf111 at hF
  refine Ct_of hK nd_ok111 (mL := 5) (rt := none) rfl rfl (Nat.le_of_ble_eq_true rfl) zlen_le ?_
  refine Ev_p 4 (c' := (5, [some (.ref a0), some (.int x1), some (.int x2), some (.int x1), some (.int 0)], [])) rfl ?_
  refine Ev_w (L' := [some (.ref a0), none, some (.int x2), some (.int x1), some (.int 0)]) (zle_c (zle_n (zle_c (zle_c (zle_c zle_0))))) ?_
  exact zf111_5_ok hK h0 hF
-- PaperParcels$Script.copyOld(II)V
abbrev zM114 : ev_M := (am_in nd_i114, am_fl nd_f8, am_ct nd_k8, am_sl nd_ml nd_s114, fun _ => none, none)
noncomputable def zf114 (a0 : Nat) (x1 : Int32) (x2 : Int32) (s : zS) : Option (zS) :=
  zgf s (zrf a0 8) 6 fun v1 =>
  zas s (zrf a0 12) x1 v1 fun s2 =>
  zal s2 (zrf a0 11) x1 fun v3 =>
  if ¬ v3 = (-1) then
    zal s2 (zrf a0 11) x1 fun v4 =>
    zbv (zf80 (zrf a0 8) (zrf (zrf a0 7) 0) v4 x2 s2) fun s6 =>
    some s6
  else
    zbv (zf80 (zrf a0 8) (zrf (zrf a0 6) 0) x1 x2 s2) fun s8 =>
    some s8
theorem zf114_ok {K : cx_K} (hK : Kok K) {lg : Nat → Int64} {s' : zS} {a0 : Nat} (h0 : zsh a0 = 8) {x1 : Int32} {x2 : Int32} {s : zS} (hF : zf114 a0 x1 x2 s = some s') : Ct K 114 [.ref a0, .int x1, .int x2] (zmk lg s) (.inl none) (zmk lg s') 0 := by
  unfold zf114 at hF
  refine Ct_of hK nd_ok114 (mL := 3) (rt := none) rfl rfl (Nat.le_of_ble_eq_true rfl) zlen_le ?_
  refine Ev_p 1 (c' := (1, [some (.ref a0), some (.int x1), some (.int x2)], [.ref a0])) rfl ?_
  refine Ez_gr (M := zM114) (ci := 8) (f := 12) (t := 100) rfl rfl h0 rfl ?_
  refine Ev_p 2 (c' := (6, [some (.ref a0), some (.int x1), some (.int x2)], [.ref a0, .int x1, .ref (zrf a0 12)])) rfl ?_
  refine Ez_gr (M := zM114) (ci := 8) (f := 8) (t := 2) rfl rfl h0 rfl ?_
  refine Ev_p 0 (c' := (9, [some (.ref a0), some (.int x1), some (.int x2)], [.ref (zrf a0 8), .int x1, .ref (zrf a0 12)])) rfl ?_
  refine Ez_gf (M := zM114) (ci := 2) (f := 6) rfl rfl (zty (ci := 8) (f := 8) (t := 2) h0 rfl) rfl hF (fun v1 hF => ?_)
  refine Ev_p 0 (c' := (12, [some (.ref a0), some (.int x1), some (.int x2)], [.int v1, .int x1, .ref (zrf a0 12)])) rfl ?_
  refine Ez_as (M := zM114) rfl (zty (ci := 8) (f := 12) (t := 100) h0 rfl) hF (fun s2 hF => ?_)
  refine Ev_p 1 (c' := (14, [some (.ref a0), some (.int x1), some (.int x2)], [.ref a0])) rfl ?_
  refine Ez_gr (M := zM114) (ci := 8) (f := 11) (t := 100) rfl rfl h0 rfl ?_
  refine Ev_p 1 (c' := (18, [some (.ref a0), some (.int x1), some (.int x2)], [.int x1, .ref (zrf a0 11)])) rfl ?_
  refine Ez_al (M := zM114) rfl (zty (ci := 8) (f := 11) (t := 100) h0 rfl) hF (fun v3 hF => ?_)
  refine Ev_p 1 (c' := (20, [some (.ref a0), some (.int x1), some (.int x2)], [.int (-1), .int v3])) rfl ?_
  refine Ez_if (M := zM114) (b := ¬ v3 = (-1)) rfl rfl hF (fun _ hF => ?_) (fun _ hF => ?_)
  · refine Ev_p 1 (c' := (43, [some (.ref a0), some (.int x1), some (.int x2)], [.ref a0])) rfl ?_
    refine Ez_gr (M := zM114) (ci := 8) (f := 8) (t := 2) rfl rfl h0 rfl ?_
    refine Ev_p 1 (c' := (47, [some (.ref a0), some (.int x1), some (.int x2)], [.ref a0, .ref (zrf a0 8)])) rfl ?_
    refine Ez_gr (M := zM114) (ci := 8) (f := 7) (t := 9) rfl rfl h0 rfl ?_
    refine Ev_p 0 (c' := (50, [some (.ref a0), some (.int x1), some (.int x2)], [.ref (zrf a0 7), .ref (zrf a0 8)])) rfl ?_
    refine Ez_gr (M := zM114) (ci := 9) (f := 0) (t := 2) rfl rfl (zty (ci := 8) (f := 7) (t := 9) h0 rfl) rfl ?_
    refine Ev_p 1 (c' := (54, [some (.ref a0), some (.int x1), some (.int x2)], [.ref a0, .ref (zrf (zrf a0 7) 0), .ref (zrf a0 8)])) rfl ?_
    refine Ez_gr (M := zM114) (ci := 8) (f := 11) (t := 100) rfl rfl h0 rfl ?_
    refine Ev_p 1 (c' := (58, [some (.ref a0), some (.int x1), some (.int x2)], [.int x1, .ref (zrf a0 11), .ref (zrf (zrf a0 7) 0), .ref (zrf a0 8)])) rfl ?_
    refine Ez_al (M := zM114) rfl (zty (ci := 8) (f := 11) (t := 100) h0 rfl) hF (fun v4 hF => ?_)
    refine Ev_p 1 (c' := (60, [some (.ref a0), some (.int x1), some (.int x2)], [.int x2, .int v4, .ref (zrf (zrf a0 7) 0), .ref (zrf a0 8)])) rfl ?_
    refine Ez_cv (M := zM114) (As := [.ref (zrf a0 8), .ref (zrf (zrf a0 7) 0), .int v4, .int x2]) (st' := []) (am_site_v (y := 80) (k := 4) (ci := 2) rfl rfl (zrcv rfl (zty (ci := 8) (f := 8) (t := 2) h0 rfl) rfl)) (Nat.le_of_ble_eq_true rfl) (Nat.le_of_ble_eq_true rfl) rfl rfl (fun _ hF => zf80_ok hK (zty (ci := 8) (f := 8) (t := 2) h0 rfl) (zty (ci := 9) (f := 0) (t := 2) (zty (ci := 8) (f := 7) (t := 9) h0 rfl) rfl) hF) hF (fun s6 hF => ?_)
    refine Ev_p 0 (c' := (63, [some (.ref a0), some (.int x1), some (.int x2)], [])) rfl ?_
    exact Ez_rv (M := zM114) rfl rfl hF
  · refine Ev_p 1 (c' := (24, [some (.ref a0), some (.int x1), some (.int x2)], [.ref a0])) rfl ?_
    refine Ez_gr (M := zM114) (ci := 8) (f := 8) (t := 2) rfl rfl h0 rfl ?_
    refine Ev_p 1 (c' := (28, [some (.ref a0), some (.int x1), some (.int x2)], [.ref a0, .ref (zrf a0 8)])) rfl ?_
    refine Ez_gr (M := zM114) (ci := 8) (f := 6) (t := 9) rfl rfl h0 rfl ?_
    refine Ev_p 0 (c' := (31, [some (.ref a0), some (.int x1), some (.int x2)], [.ref (zrf a0 6), .ref (zrf a0 8)])) rfl ?_
    refine Ez_gr (M := zM114) (ci := 9) (f := 0) (t := 2) rfl rfl (zty (ci := 8) (f := 6) (t := 9) h0 rfl) rfl ?_
    refine Ev_p 2 (c' := (36, [some (.ref a0), some (.int x1), some (.int x2)], [.int x2, .int x1, .ref (zrf (zrf a0 6) 0), .ref (zrf a0 8)])) rfl ?_
    refine Ez_cv (M := zM114) (As := [.ref (zrf a0 8), .ref (zrf (zrf a0 6) 0), .int x1, .int x2]) (st' := []) (am_site_v (y := 80) (k := 4) (ci := 2) rfl rfl (zrcv rfl (zty (ci := 8) (f := 8) (t := 2) h0 rfl) rfl)) (Nat.le_of_ble_eq_true rfl) (Nat.le_of_ble_eq_true rfl) rfl rfl (fun _ hF => zf80_ok hK (zty (ci := 8) (f := 8) (t := 2) h0 rfl) (zty (ci := 9) (f := 0) (t := 2) (zty (ci := 8) (f := 6) (t := 9) h0 rfl) rfl) hF) hF (fun s8 hF => ?_)
    refine Ev_p 1 (c' := (63, [some (.ref a0), some (.int x1), some (.int x2)], [])) rfl ?_
    exact Ez_rv (M := zM114) rfl rfl hF
-- PaperParcels$Script.copyRows()V
abbrev zM110 : ev_M := (am_in nd_i110, am_fl nd_f8, am_ct nd_k8, am_sl nd_ml nd_s110, fun _ => none, none)
noncomputable def zf110_100 (a0 : Nat) (k4 : Int32 → Int32 → zS → Option (zS)) (x2 : Int32) (t0 : Int32) (t1 : Int32) (s : zS) : Option (zS) :=
  zbv (zf114 a0 t1 t0 s) fun s2 =>
  k4 x2 (x2 + 1) s2
theorem zf110_100_ok {K : cx_K} (hK : Kok K) {lg : Nat → Int64} {s' : zS} {a0 : Nat} (h0 : zsh a0 = 8) {k4 : Int32 → Int32 → zS → Option (zS)} (hk4 : ∀ x1 x2 s, k4 x1 x2 s = some s' → Ev K zM110 (4, [some (.ref a0), some (.int x1), some (.int x2), none], [], zmk lg s) 0 (.inl none) (zmk lg s') 0) {x2 : Int32} {t0 : Int32} {t1 : Int32}  {s : zS} (hF : zf110_100 a0 k4 x2 t0 t1 s = some s') : Ev K zM110 (100, [some (.ref a0), none, some (.int x2), none], [.int t0, .int t1, .ref a0], zmk lg s) 0 (.inl none) (zmk lg s') 0 := by
  unfold zf110_100 at hF
  refine Ev_p 0 (c' := (100, [some (.ref a0), none, some (.int x2), none], [.int t0, .int t1, .ref a0])) rfl ?_
  refine Ez_cv (M := zM110) (As := [.ref a0, .int t1, .int t0]) (st' := []) (am_site_v (y := 114) (k := 3) (ci := 8) rfl rfl (zrcv rfl h0 rfl)) (Nat.le_of_ble_eq_true rfl) (Nat.le_of_ble_eq_true rfl) rfl rfl (fun _ hF => zf114_ok hK h0 hF) hF (fun s2 hF => ?_)
  refine Ev_p 4 (c' := (4, [some (.ref a0), some (.int x2), some (.int (x2 + 1)), none], [])) rfl ?_
  exact hk4 _ _ _ hF
noncomputable def zf110_58 (a0 : Nat) (k4 : Int32 → Int32 → zS → Option (zS)) (x1 : Int32) (x2 : Int32) (x3 : Int32) (s : zS) : Option (zS) :=
  zbv (zf111 a0 x1 x3 s) fun s2 =>
  zbv (zf112 a0 x3 x2 s2) fun s4 =>
  zal s4 (zrf a0 11) x2 fun v5 =>
  if v5 = (-2) then
    k4 x3 (x2 + 1) s4
  else
    if ¬ x3 = (-1) then
      zal s4 (zrf a0 12) x3 fun v6 =>
      zf110_100 a0 k4 x2 v6 x2 s4
    else
      zf110_100 a0 k4 x2 (-1) x2 s4
theorem zf110_58_ok {K : cx_K} (hK : Kok K) {lg : Nat → Int64} {s' : zS} {a0 : Nat} (h0 : zsh a0 = 8) {k4 : Int32 → Int32 → zS → Option (zS)} (hk4 : ∀ x1 x2 s, k4 x1 x2 s = some s' → Ev K zM110 (4, [some (.ref a0), some (.int x1), some (.int x2), none], [], zmk lg s) 0 (.inl none) (zmk lg s') 0) {x1 : Int32} {x2 : Int32} {x3 : Int32}  {s : zS} (hF : zf110_58 a0 k4 x1 x2 x3 s = some s') : Ev K zM110 (58, [some (.ref a0), some (.int x1), some (.int x2), some (.int x3)], [], zmk lg s) 0 (.inl none) (zmk lg s') 0 := by
  unfold zf110_58 at hF
  refine Ev_p 3 (c' := (61, [some (.ref a0), some (.int x1), some (.int x2), some (.int x3)], [.int x3, .int x1, .ref a0])) rfl ?_
  refine Ez_cv (M := zM110) (As := [.ref a0, .int x1, .int x3]) (st' := []) (am_site_v (y := 111) (k := 3) (ci := 8) rfl rfl (zrcv rfl h0 rfl)) (Nat.le_of_ble_eq_true rfl) (Nat.le_of_ble_eq_true rfl) rfl rfl (fun _ hF => zf111_ok hK h0 hF) hF (fun s2 hF => ?_)
  refine Ev_p 3 (c' := (67, [some (.ref a0), some (.int x1), some (.int x2), some (.int x3)], [.int x2, .int x3, .ref a0])) rfl ?_
  refine Ez_cv (M := zM110) (As := [.ref a0, .int x3, .int x2]) (st' := []) (am_site_v (y := 112) (k := 3) (ci := 8) rfl rfl (zrcv rfl h0 rfl)) (Nat.le_of_ble_eq_true rfl) (Nat.le_of_ble_eq_true rfl) rfl rfl (fun _ hF => zf112_ok hK h0 hF) hF (fun s4 hF => ?_)
  refine Ev_p 3 (c' := (73, [some (.ref a0), some (.int x3), some (.int x2), some (.int x3)], [.ref a0])) rfl ?_
  refine Ez_gr (M := zM110) (ci := 8) (f := 11) (t := 100) rfl rfl h0 rfl ?_
  refine Ev_p 1 (c' := (77, [some (.ref a0), some (.int x3), some (.int x2), some (.int x3)], [.int x2, .ref (zrf a0 11)])) rfl ?_
  refine Ez_al (M := zM110) rfl (zty (ci := 8) (f := 11) (t := 100) h0 rfl) hF (fun v5 hF => ?_)
  refine Ev_p 1 (c' := (80, [some (.ref a0), some (.int x3), some (.int x2), some (.int x3)], [.int (-2), .int v5])) rfl ?_
  refine Ez_if (M := zM110) (b := v5 = (-2)) rfl rfl hF (fun _ hF => ?_) (fun _ hF => ?_)
  · refine Ev_p 2 (c' := (4, [some (.ref a0), some (.int x3), some (.int (x2 + 1)), some (.int x3)], [])) rfl ?_
    refine Ev_w (L' := [some (.ref a0), some (.int x3), some (.int (x2 + 1)), none]) (zle_c (zle_c (zle_c (zle_n zle_0)))) ?_
    exact hk4 _ _ _ hF
  · refine Ev_p 4 (c' := (87, [some (.ref a0), some (.int x3), some (.int x2), some (.int x3)], [.int (-1), .int x3, .int x2, .ref a0])) rfl ?_
    refine Ez_if (M := zM110) (b := ¬ x3 = (-1)) rfl rfl hF (fun _ hF => ?_) (fun _ hF => ?_)
    · refine Ev_p 1 (c' := (95, [some (.ref a0), some (.int x3), some (.int x2), some (.int x3)], [.ref a0, .int x2, .ref a0])) rfl ?_
      refine Ez_gr (M := zM110) (ci := 8) (f := 12) (t := 100) rfl rfl h0 rfl ?_
      refine Ev_p 1 (c' := (99, [some (.ref a0), some (.int x3), some (.int x2), some (.int x3)], [.int x3, .ref (zrf a0 12), .int x2, .ref a0])) rfl ?_
      refine Ez_al (M := zM110) rfl (zty (ci := 8) (f := 12) (t := 100) h0 rfl) hF (fun v6 hF => ?_)
      refine Ev_p 0 (c' := (100, [some (.ref a0), some (.int x3), some (.int x2), some (.int x3)], [.int v6, .int x2, .ref a0])) rfl ?_
      refine Ev_w (L' := [some (.ref a0), none, some (.int x2), none]) (zle_c (zle_n (zle_c (zle_n zle_0)))) ?_
      exact zf110_100_ok hK h0 hk4 hF
    · refine Ev_p 2 (c' := (100, [some (.ref a0), some (.int x3), some (.int x2), some (.int x3)], [.int (-1), .int x2, .ref a0])) rfl ?_
      refine Ev_w (L' := [some (.ref a0), none, some (.int x2), none]) (zle_c (zle_n (zle_c (zle_n zle_0)))) ?_
      exact zf110_100_ok hK h0 hk4 hF
noncomputable def zf110_4 (a0 : Nat)  : Nat → Int32 → Int32 → zS → Option (zS)
  | 0, _, _, _ => none
  | n + 1, x1, x2, s =>
    zgf s (zrf (zrf a0 6) 0) 6 fun v1 =>
    if v1 ≤ x2 then
      zbv (zf111 a0 x1 (-1) s) fun s3 =>
      some s3
    else
      zal s (zrf (zrf (zrf a0 6) 0) 1) x2 fun v4 =>
      if v4 = (-1) then
        zf110_58 a0 (zf110_4 a0 n) x1 x2 v4 s
      else
        zal s (zrf a0 11) v4 fun v5 =>
        if ¬ v5 = (-2) then
          zf110_58 a0 (zf110_4 a0 n) x1 x2 v4 s
        else
          zas s (zrf a0 11) x2 (-2) fun s6 =>
          zf110_4 a0 n x1 (x2 + 1) s6
theorem zf110_4_ok {K : cx_K} (hK : Kok K) {lg : Nat → Int64} {s' : zS} {a0 : Nat} (h0 : zsh a0 = 8)   {n : Nat} : ∀ {x1 : Int32} {x2 : Int32} {s : zS}, zf110_4 a0 n x1 x2 s = some s' → Ev K zM110 (4, [some (.ref a0), some (.int x1), some (.int x2), none], [], zmk lg s) 0 (.inl none) (zmk lg s') 0 := by
  induction n with
  | zero => intro x1 x2 s hF; rw [zf110_4] at hF; cases hF
  | succ n ih =>
    intro x1 x2 s hF
    rw [zf110_4] at hF
    refine Ev_p 2 (c' := (6, [some (.ref a0), some (.int x1), some (.int x2), none], [.ref a0, .int x2])) rfl ?_
    refine Ez_gr (M := zM110) (ci := 8) (f := 6) (t := 9) rfl rfl h0 rfl ?_
    refine Ev_p 0 (c' := (9, [some (.ref a0), some (.int x1), some (.int x2), none], [.ref (zrf a0 6), .int x2])) rfl ?_
    refine Ez_gr (M := zM110) (ci := 9) (f := 0) (t := 2) rfl rfl (zty (ci := 8) (f := 6) (t := 9) h0 rfl) rfl ?_
    refine Ev_p 0 (c' := (12, [some (.ref a0), some (.int x1), some (.int x2), none], [.ref (zrf (zrf a0 6) 0), .int x2])) rfl ?_
    refine Ez_gf (M := zM110) (ci := 2) (f := 6) rfl rfl (zty (ci := 9) (f := 0) (t := 2) (zty (ci := 8) (f := 6) (t := 9) h0 rfl) rfl) rfl hF (fun v1 hF => ?_)
    refine Ev_p 0 (c' := (15, [some (.ref a0), some (.int x1), some (.int x2), none], [.int v1, .int x2])) rfl ?_
    refine Ez_if (M := zM110) (b := v1 ≤ x2) rfl rfl hF (fun _ hF => ?_) (fun _ hF => ?_)
    · refine Ev_p 3 (c' := (114, [some (.ref a0), some (.int x1), some (.int x2), none], [.int (-1), .int x1, .ref a0])) rfl ?_
      refine Ez_cv (M := zM110) (As := [.ref a0, .int x1, .int (-1)]) (st' := []) (am_site_v (y := 111) (k := 3) (ci := 8) rfl rfl (zrcv rfl h0 rfl)) (Nat.le_of_ble_eq_true rfl) (Nat.le_of_ble_eq_true rfl) rfl rfl (fun _ hF => zf111_ok hK h0 hF) hF (fun s3 hF => ?_)
      refine Ev_p 0 (c' := (117, [some (.ref a0), some (.int x1), some (.int x2), none], [])) rfl ?_
      exact Ez_rv (M := zM110) rfl rfl hF
    · refine Ev_p 1 (c' := (19, [some (.ref a0), some (.int x1), some (.int x2), none], [.ref a0])) rfl ?_
      refine Ez_gr (M := zM110) (ci := 8) (f := 6) (t := 9) rfl rfl h0 rfl ?_
      refine Ev_p 0 (c' := (22, [some (.ref a0), some (.int x1), some (.int x2), none], [.ref (zrf a0 6)])) rfl ?_
      refine Ez_gr (M := zM110) (ci := 9) (f := 0) (t := 2) rfl rfl (zty (ci := 8) (f := 6) (t := 9) h0 rfl) rfl ?_
      refine Ev_p 0 (c' := (25, [some (.ref a0), some (.int x1), some (.int x2), none], [.ref (zrf (zrf a0 6) 0)])) rfl ?_
      refine Ez_gr (M := zM110) (ci := 2) (f := 1) (t := 100) rfl rfl (zty (ci := 9) (f := 0) (t := 2) (zty (ci := 8) (f := 6) (t := 9) h0 rfl) rfl) rfl ?_
      refine Ev_p 1 (c' := (29, [some (.ref a0), some (.int x1), some (.int x2), none], [.int x2, .ref (zrf (zrf (zrf a0 6) 0) 1)])) rfl ?_
      refine Ez_al (M := zM110) rfl (zty (ci := 2) (f := 1) (t := 100) (zty (ci := 9) (f := 0) (t := 2) (zty (ci := 8) (f := 6) (t := 9) h0 rfl) rfl) rfl) hF (fun v4 hF => ?_)
      refine Ev_p 3 (c' := (33, [some (.ref a0), some (.int x1), some (.int x2), some (.int v4)], [.int (-1), .int v4])) rfl ?_
      refine Ez_if (M := zM110) (b := v4 = (-1)) rfl rfl hF (fun _ hF => ?_) (fun _ hF => ?_)
      · refine Ev_p 0 (c' := (58, [some (.ref a0), some (.int x1), some (.int x2), some (.int v4)], [])) rfl ?_
        exact zf110_58_ok hK h0 (fun _ _ _ hF => ih hF) hF
      · refine Ev_p 1 (c' := (37, [some (.ref a0), some (.int x1), some (.int x2), some (.int v4)], [.ref a0])) rfl ?_
        refine Ez_gr (M := zM110) (ci := 8) (f := 11) (t := 100) rfl rfl h0 rfl ?_
        refine Ev_p 1 (c' := (41, [some (.ref a0), some (.int x1), some (.int x2), some (.int v4)], [.int v4, .ref (zrf a0 11)])) rfl ?_
        refine Ez_al (M := zM110) rfl (zty (ci := 8) (f := 11) (t := 100) h0 rfl) hF (fun v5 hF => ?_)
        refine Ev_p 1 (c' := (44, [some (.ref a0), some (.int x1), some (.int x2), some (.int v4)], [.int (-2), .int v5])) rfl ?_
        refine Ez_if (M := zM110) (b := ¬ v5 = (-2)) rfl rfl hF (fun _ hF => ?_) (fun _ hF => ?_)
        · refine Ev_p 0 (c' := (58, [some (.ref a0), some (.int x1), some (.int x2), some (.int v4)], [])) rfl ?_
          exact zf110_58_ok hK h0 (fun _ _ _ hF => ih hF) hF
        · refine Ev_p 1 (c' := (48, [some (.ref a0), some (.int x1), some (.int x2), some (.int v4)], [.ref a0])) rfl ?_
          refine Ez_gr (M := zM110) (ci := 8) (f := 11) (t := 100) rfl rfl h0 rfl ?_
          refine Ev_p 2 (c' := (54, [some (.ref a0), some (.int x1), some (.int x2), some (.int v4)], [.int (-2), .int x2, .ref (zrf a0 11)])) rfl ?_
          refine Ez_as (M := zM110) rfl (zty (ci := 8) (f := 11) (t := 100) h0 rfl) hF (fun s6 hF => ?_)
          refine Ev_p 3 (c' := (4, [some (.ref a0), some (.int x1), some (.int (x2 + 1)), some (.int v4)], [])) rfl ?_
          refine Ev_w (L' := [some (.ref a0), some (.int x1), some (.int (x2 + 1)), none]) (zle_c (zle_c (zle_c (zle_n zle_0)))) ?_
          exact ih hF
noncomputable def zf110 (a0 : Nat) (s : zS) : Option (zS) :=
  zf110_4 a0 zfz (-1) 0 s
theorem zf110_ok {K : cx_K} (hK : Kok K) {lg : Nat → Int64} {s' : zS} {a0 : Nat} (h0 : zsh a0 = 8)  {s : zS} (hF : zf110 a0 s = some s') : Ct K 110 [.ref a0] (zmk lg s) (.inl none) (zmk lg s') 0 := by
  unfold zf110 at hF
  refine Ct_of hK nd_ok110 (mL := 4) (rt := none) rfl rfl (Nat.le_of_ble_eq_true rfl) zlen_le ?_
  refine Ev_p 4 (c' := (4, [some (.ref a0), some (.int (-1)), some (.int 0), none], [])) rfl ?_
  exact zf110_4_ok hK h0 hF
-- PaperParcels$Script.carryOut(I)V
abbrev zM109 : ev_M := (am_in nd_i109, am_fl nd_f8, am_ct nd_k8, am_sl nd_ml nd_s109, fun _ => none, none)
noncomputable def zf109_15 (a0 : Nat)  : Nat → Int32 → zS → Option (zS)
  | 0, _, _ => none
  | n + 1, x2, s =>
    zgf s a0 13 fun v1 =>
    if v1 ≤ x2 then
      zbv (zf71 (zrf a0 8) s) fun s3 =>
      zbv (zf110 a0 s3) fun s5 =>
      some s5
    else
      zal s (zrf a0 2) x2 fun v6 =>
      if v6 = (-1) then
        zf109_15 a0 n (x2 + 1) s
      else
        zal s (zrf a0 2) x2 fun v7 =>
        zal s (zrf a0 3) x2 fun v8 =>
        if ¬ v8 = (-1) then
          zal s (zrf a0 3) x2 fun v9 =>
          zas s (zrf a0 11) v7 v9 fun s10 =>
          zf109_15 a0 n (x2 + 1) s10
        else
          zas s (zrf a0 11) v7 (-2) fun s11 =>
          zf109_15 a0 n (x2 + 1) s11
theorem zf109_15_ok {K : cx_K} (hK : Kok K) {lg : Nat → Int64} {s' : zS} {a0 : Nat} (h0 : zsh a0 = 8)   {n : Nat} : ∀ {x2 : Int32} {s : zS}, zf109_15 a0 n x2 s = some s' → Ev K zM109 (15, [some (.ref a0), none, some (.int x2)], [], zmk lg s) 0 (.inl none) (zmk lg s') 0 := by
  induction n with
  | zero => intro x2 s hF; rw [zf109_15] at hF; cases hF
  | succ n ih =>
    intro x2 s hF
    rw [zf109_15] at hF
    refine Ev_p 2 (c' := (17, [some (.ref a0), none, some (.int x2)], [.ref a0, .int x2])) rfl ?_
    refine Ez_gf (M := zM109) (ci := 8) (f := 13) rfl rfl h0 rfl hF (fun v1 hF => ?_)
    refine Ev_p 0 (c' := (20, [some (.ref a0), none, some (.int x2)], [.int v1, .int x2])) rfl ?_
    refine Ez_if (M := zM109) (b := v1 ≤ x2) rfl rfl hF (fun _ hF => ?_) (fun _ hF => ?_)
    · refine Ev_p 1 (c' := (72, [some (.ref a0), none, some (.int x2)], [.ref a0])) rfl ?_
      refine Ez_gr (M := zM109) (ci := 8) (f := 8) (t := 2) rfl rfl h0 rfl ?_
      refine Ev_p 0 (c' := (75, [some (.ref a0), none, some (.int x2)], [.ref (zrf a0 8)])) rfl ?_
      refine Ez_cv (M := zM109) (As := [.ref (zrf a0 8)]) (st' := []) (am_site_v (y := 71) (k := 1) (ci := 2) rfl rfl (zrcv rfl (zty (ci := 8) (f := 8) (t := 2) h0 rfl) rfl)) (Nat.le_of_ble_eq_true rfl) (Nat.le_of_ble_eq_true rfl) rfl rfl (fun _ hF => zf71_ok hK (zty (ci := 8) (f := 8) (t := 2) h0 rfl) hF) hF (fun s3 hF => ?_)
      refine Ev_p 1 (c' := (79, [some (.ref a0), none, some (.int x2)], [.ref a0])) rfl ?_
      refine Ez_cv (M := zM109) (As := [.ref a0]) (st' := []) (am_site_v (y := 110) (k := 1) (ci := 8) rfl rfl (zrcv rfl h0 rfl)) (Nat.le_of_ble_eq_true rfl) (Nat.le_of_ble_eq_true rfl) rfl rfl (fun _ hF => zf110_ok hK h0 hF) hF (fun s5 hF => ?_)
      refine Ev_p 0 (c' := (82, [some (.ref a0), none, some (.int x2)], [])) rfl ?_
      exact Ez_rv (M := zM109) rfl rfl hF
    · refine Ev_p 1 (c' := (24, [some (.ref a0), none, some (.int x2)], [.ref a0])) rfl ?_
      refine Ez_gr (M := zM109) (ci := 8) (f := 2) (t := 100) rfl rfl h0 rfl ?_
      refine Ev_p 1 (c' := (28, [some (.ref a0), none, some (.int x2)], [.int x2, .ref (zrf a0 2)])) rfl ?_
      refine Ez_al (M := zM109) rfl (zty (ci := 8) (f := 2) (t := 100) h0 rfl) hF (fun v6 hF => ?_)
      refine Ev_p 1 (c' := (30, [some (.ref a0), none, some (.int x2)], [.int (-1), .int v6])) rfl ?_
      refine Ez_if (M := zM109) (b := v6 = (-1)) rfl rfl hF (fun _ hF => ?_) (fun _ hF => ?_)
      · refine Ev_p 2 (c' := (15, [some (.ref a0), none, some (.int (x2 + 1))], [])) rfl ?_
        exact ih hF
      · refine Ev_p 1 (c' := (34, [some (.ref a0), none, some (.int x2)], [.ref a0])) rfl ?_
        refine Ez_gr (M := zM109) (ci := 8) (f := 11) (t := 100) rfl rfl h0 rfl ?_
        refine Ev_p 1 (c' := (38, [some (.ref a0), none, some (.int x2)], [.ref a0, .ref (zrf a0 11)])) rfl ?_
        refine Ez_gr (M := zM109) (ci := 8) (f := 2) (t := 100) rfl rfl h0 rfl ?_
        refine Ev_p 1 (c' := (42, [some (.ref a0), none, some (.int x2)], [.int x2, .ref (zrf a0 2), .ref (zrf a0 11)])) rfl ?_
        refine Ez_al (M := zM109) rfl (zty (ci := 8) (f := 2) (t := 100) h0 rfl) hF (fun v7 hF => ?_)
        refine Ev_p 1 (c' := (44, [some (.ref a0), none, some (.int x2)], [.ref a0, .int v7, .ref (zrf a0 11)])) rfl ?_
        refine Ez_gr (M := zM109) (ci := 8) (f := 3) (t := 100) rfl rfl h0 rfl ?_
        refine Ev_p 1 (c' := (48, [some (.ref a0), none, some (.int x2)], [.int x2, .ref (zrf a0 3), .int v7, .ref (zrf a0 11)])) rfl ?_
        refine Ez_al (M := zM109) rfl (zty (ci := 8) (f := 3) (t := 100) h0 rfl) hF (fun v8 hF => ?_)
        refine Ev_p 1 (c' := (50, [some (.ref a0), none, some (.int x2)], [.int (-1), .int v8, .int v7, .ref (zrf a0 11)])) rfl ?_
        refine Ez_if (M := zM109) (b := ¬ v8 = (-1)) rfl rfl hF (fun _ hF => ?_) (fun _ hF => ?_)
        · refine Ev_p 1 (c' := (59, [some (.ref a0), none, some (.int x2)], [.ref a0, .int v7, .ref (zrf a0 11)])) rfl ?_
          refine Ez_gr (M := zM109) (ci := 8) (f := 3) (t := 100) rfl rfl h0 rfl ?_
          refine Ev_p 1 (c' := (63, [some (.ref a0), none, some (.int x2)], [.int x2, .ref (zrf a0 3), .int v7, .ref (zrf a0 11)])) rfl ?_
          refine Ez_al (M := zM109) rfl (zty (ci := 8) (f := 3) (t := 100) h0 rfl) hF (fun v9 hF => ?_)
          refine Ev_p 0 (c' := (64, [some (.ref a0), none, some (.int x2)], [.int v9, .int v7, .ref (zrf a0 11)])) rfl ?_
          refine Ez_as (M := zM109) rfl (zty (ci := 8) (f := 11) (t := 100) h0 rfl) hF (fun s10 hF => ?_)
          refine Ev_p 2 (c' := (15, [some (.ref a0), none, some (.int (x2 + 1))], [])) rfl ?_
          exact ih hF
        · refine Ev_p 2 (c' := (64, [some (.ref a0), none, some (.int x2)], [.int (-2), .int v7, .ref (zrf a0 11)])) rfl ?_
          refine Ez_as (M := zM109) rfl (zty (ci := 8) (f := 11) (t := 100) h0 rfl) hF (fun s11 hF => ?_)
          refine Ev_p 2 (c' := (15, [some (.ref a0), none, some (.int (x2 + 1))], [])) rfl ?_
          exact ih hF
noncomputable def zf109 (a0 : Nat) (x1 : Int32) (s : zS) : Option (zS) :=
  zpf s a0 13 x1 fun s1 =>
  zbv (zf41 (zrf a0 11) (-1) s1) fun s3 =>
  zf109_15 a0 zfz 0 s3
theorem zf109_ok {K : cx_K} (hK : Kok K) {lg : Nat → Int64} {s' : zS} {a0 : Nat} (h0 : zsh a0 = 8) {x1 : Int32} {s : zS} (hF : zf109 a0 x1 s = some s') : Ct K 109 [.ref a0, .int x1] (zmk lg s) (.inl none) (zmk lg s') 0 := by
  unfold zf109 at hF
  refine Ct_of hK nd_ok109 (mL := 3) (rt := none) rfl rfl (Nat.le_of_ble_eq_true rfl) zlen_le ?_
  refine Ev_p 2 (c' := (2, [some (.ref a0), some (.int x1), none], [.int x1, .ref a0])) rfl ?_
  refine Ez_pf (M := zM109) (ci := 8) (f := 13) rfl rfl h0 rfl hF (fun s1 hF => ?_)
  refine Ev_p 1 (c' := (6, [some (.ref a0), some (.int x1), none], [.ref a0])) rfl ?_
  refine Ez_gr (M := zM109) (ci := 8) (f := 11) (t := 100) rfl rfl h0 rfl ?_
  refine Ev_p 1 (c' := (10, [some (.ref a0), some (.int x1), none], [.int (-1), .ref (zrf a0 11)])) rfl ?_
  refine Ez_cv (M := zM109) (As := [.ref (zrf a0 11), .int (-1)]) (st' := []) (zsite_0 (y := 41) (k := 2) (ci := 99) rfl rfl) (Nat.le_of_ble_eq_true rfl) (Nat.le_of_ble_eq_true rfl) rfl rfl (fun _ hF => zf41_ok hK (zty (ci := 8) (f := 11) (t := 100) h0 rfl) hF) hF (fun s3 hF => ?_)
  refine Ev_p 2 (c' := (15, [some (.ref a0), some (.int x1), some (.int 0)], [])) rfl ?_
  refine Ev_w (L' := [some (.ref a0), none, some (.int 0)]) (zle_c (zle_n (zle_c zle_0))) ?_
  exact zf109_15_ok hK h0 hF
-- PaperParcels.apply(I)I
abbrev zM108 : ev_M := (am_in nd_i108, am_fl nd_f0, am_ct nd_k0, am_sl nd_ml nd_s108, nx_exc, some .int)
noncomputable def zf108 (a0 : Nat) (x1 : Int32) (s : zS) : Option (am_O × zS × Nat) :=
  zgf s (zrf a0 3) 0 fun v1 =>
  if ¬ v1 = 0 then
    if x1 < 0 then
      some (.inr (hx_E 0), s, 1)
    else
      zgf s (zrf a0 3) 1 fun v2 =>
      if x1 ≤ v2 then
        zbv (zf109 (zrf a0 3) x1 s) fun s4 =>
        zar (zrf a0 1) 2 fun q5 =>
        zgf s4 q5 6 fun v6 =>
        some (.inl (some (.int v6)), s4, 0)
      else
        some (.inr (hx_E 0), s, 1)
  else
    some (.inr (hx_E 2), s, 1)
theorem zf108_ok {K : cx_K} (hK : Kok K) {lg : Nat → Int64} {o : am_O} {g' : Nat} {s' : zS} {a0 : Nat} (h0 : zsh a0 = 0) {x1 : Int32} {s : zS} (hF : zf108 a0 x1 s = some (o, s', g')) : Ct K 108 [.ref a0, .int x1] (zmk lg s) (o) (zmk lg s') g' := by
  unfold zf108 at hF
  refine Ct_ofX hK nd_ok108 (exc := nx_exc) (nx_Xw (Nat.le_of_ble_eq_true rfl) (Nat.le_of_ble_eq_true rfl)) (mL := 2) (rt := some .int) rfl rfl (Nat.le_of_ble_eq_true rfl) zlen_le ?_
  refine Ev_p 1 (c' := (1, [some (.ref a0), some (.int x1)], [.ref a0])) rfl ?_
  refine Ez_gr (M := zM108) (ci := 0) (f := 3) (t := 8) rfl rfl h0 rfl ?_
  refine Ev_p 0 (c' := (4, [some (.ref a0), some (.int x1)], [.ref (zrf a0 3)])) rfl ?_
  refine Ez_gf (M := zM108) (ci := 8) (f := 0) rfl rfl (zty (ci := 0) (f := 3) (t := 8) h0 rfl) rfl hF (fun v1 hF => ?_)
  refine Ev_p 0 (c' := (7, [some (.ref a0), some (.int x1)], [.int v1])) rfl ?_
  refine Ez_if (M := zM108) (b := ¬ v1 = 0) rfl rfl hF (fun _ hF => ?_) (fun _ hF => ?_)
  · refine Ev_p 1 (c' := (19, [some (.ref a0), some (.int x1)], [.int x1])) rfl ?_
    refine Ez_if (M := zM108) (b := x1 < 0) rfl rfl hF (fun _ hF => ?_) (fun _ hF => ?_)
    · refine Ev_p 0 (c' := (33, [some (.ref a0), some (.int x1)], [])) rfl ?_
      exact Ez_thr (M := zM108) rfl hF
    · refine Ev_p 2 (c' := (24, [some (.ref a0), some (.int x1)], [.ref a0, .int x1])) rfl ?_
      refine Ez_gr (M := zM108) (ci := 0) (f := 3) (t := 8) rfl rfl h0 rfl ?_
      refine Ev_p 0 (c' := (27, [some (.ref a0), some (.int x1)], [.ref (zrf a0 3), .int x1])) rfl ?_
      refine Ez_gf (M := zM108) (ci := 8) (f := 1) rfl rfl (zty (ci := 0) (f := 3) (t := 8) h0 rfl) rfl hF (fun v2 hF => ?_)
      refine Ev_p 0 (c' := (30, [some (.ref a0), some (.int x1)], [.int v2, .int x1])) rfl ?_
      refine Ez_if (M := zM108) (b := x1 ≤ v2) rfl rfl hF (fun _ hF => ?_) (fun _ hF => ?_)
      · refine Ev_p 1 (c' := (42, [some (.ref a0), some (.int x1)], [.ref a0])) rfl ?_
        refine Ez_gr (M := zM108) (ci := 0) (f := 3) (t := 8) rfl rfl h0 rfl ?_
        refine Ev_p 1 (c' := (46, [some (.ref a0), some (.int x1)], [.int x1, .ref (zrf a0 3)])) rfl ?_
        refine Ez_cv (M := zM108) (As := [.ref (zrf a0 3), .int x1]) (st' := []) (am_site_v (y := 109) (k := 2) (ci := 8) rfl rfl (zrcv rfl (zty (ci := 0) (f := 3) (t := 8) h0 rfl) rfl)) (Nat.le_of_ble_eq_true rfl) (Nat.le_of_ble_eq_true rfl) rfl rfl (fun _ hF => zf109_ok hK (zty (ci := 0) (f := 3) (t := 8) h0 rfl) hF) hF (fun s4 hF => ?_)
        refine Ev_p 1 (c' := (50, [some (.ref a0), some (.int x1)], [.ref a0])) rfl ?_
        refine Ez_gr (M := zM108) (ci := 0) (f := 1) (t := 103) rfl rfl h0 rfl ?_
        refine Ev_p 1 (c' := (54, [some (.ref a0), some (.int x1)], [.int 2, .ref (zrf a0 1)])) rfl ?_
        refine Ez_ar3 (M := zM108) rfl (zty (ci := 0) (f := 1) (t := 103) h0 rfl) hF (fun q5 hq5 hF => ?_)
        refine Ev_p 0 (c' := (55, [some (.ref a0), some (.int x1)], [.ref q5])) rfl ?_
        refine Ez_gf (M := zM108) (ci := 2) (f := 6) rfl rfl hq5 rfl hF (fun v6 hF => ?_)
        refine Ev_p 0 (c' := (58, [some (.ref a0), some (.int x1)], [.int v6])) rfl ?_
        exact Ez_xri (M := zM108) rfl rfl hF
      · refine Ev_p 0 (c' := (33, [some (.ref a0), some (.int x1)], [])) rfl ?_
        exact Ez_thr (M := zM108) rfl hF
  · refine Ev_p 0 (c' := (10, [some (.ref a0), some (.int x1)], [])) rfl ?_
    exact Ez_thr (M := zM108) rfl hF
-- PaperParcels$Emitter.needsLook(LPaperParcels$Paper;I)Z
abbrev zM118 : ev_M := (am_in nd_i118, am_fl nd_f10, am_ct nd_k10, am_sl nd_ml nd_s118, fun _ => none, some .boolean)
noncomputable def zf118_43 (a0 : Nat)  (x1 : Int32) (s : zS) : Option (Int32 × zS) :=
  zal s (zrf a0 0) x1 fun v1 =>
  if ¬ v1 = 1 then
    zrb 0 s
  else
    zal s (zrf a0 2) x1 fun v2 =>
    if v2 = 100 then
      zrb 0 s
    else
      zrb 1 s
theorem zf118_43_ok {K : cx_K} (hK : Kok K) {lg : Nat → Int64} {v : Int32} {s' : zS} {a0 : Nat} (h0 : zsh a0 = 2)   {x1 : Int32}  {s : zS} (hF : zf118_43 a0 x1 s = some (v, s')) : Ev K zM118 (43, [some (.ref a0), some (.int x1), none], [], zmk lg s) 0 (.inl (some (.int v))) (zmk lg s') 0 := by
  unfold zf118_43 at hF
  refine Ev_p 1 (c' := (44, [some (.ref a0), some (.int x1), none], [.ref a0])) rfl ?_
  refine Ez_gr (M := zM118) (ci := 2) (f := 0) (t := 100) rfl rfl h0 rfl ?_
  refine Ev_p 1 (c' := (48, [some (.ref a0), some (.int x1), none], [.int x1, .ref (zrf a0 0)])) rfl ?_
  refine Ez_al (M := zM118) rfl (zty (ci := 2) (f := 0) (t := 100) h0 rfl) hF (fun v1 hF => ?_)
  refine Ev_p 1 (c' := (50, [some (.ref a0), some (.int x1), none], [.int 1, .int v1])) rfl ?_
  refine Ez_if (M := zM118) (b := ¬ v1 = 1) rfl rfl hF (fun _ hF => ?_) (fun _ hF => ?_)
  · refine Ev_p 1 (c' := (69, [some (.ref a0), some (.int x1), none], [.int 0])) rfl ?_
    exact Ez_rb (M := zM118) rfl rfl hF
  · refine Ev_p 1 (c' := (54, [some (.ref a0), some (.int x1), none], [.ref a0])) rfl ?_
    refine Ez_gr (M := zM118) (ci := 2) (f := 2) (t := 100) rfl rfl h0 rfl ?_
    refine Ev_p 1 (c' := (58, [some (.ref a0), some (.int x1), none], [.int x1, .ref (zrf a0 2)])) rfl ?_
    refine Ez_al (M := zM118) rfl (zty (ci := 2) (f := 2) (t := 100) h0 rfl) hF (fun v2 hF => ?_)
    refine Ev_p 1 (c' := (61, [some (.ref a0), some (.int x1), none], [.int 100, .int v2])) rfl ?_
    refine Ez_if (M := zM118) (b := v2 = 100) rfl rfl hF (fun _ hF => ?_) (fun _ hF => ?_)
    · refine Ev_p 1 (c' := (69, [some (.ref a0), some (.int x1), none], [.int 0])) rfl ?_
      exact Ez_rb (M := zM118) rfl rfl hF
    · refine Ev_p 2 (c' := (69, [some (.ref a0), some (.int x1), none], [.int 1])) rfl ?_
      exact Ez_rb (M := zM118) rfl rfl hF
noncomputable def zf118 (a0 : Nat) (x1 : Int32) (s : zS) : Option (Int32 × zS) :=
  zal s (zrf a0 1) x1 fun v1 =>
  zal s (zrf a0 0) x1 fun v2 =>
  if ¬ v2 = 2 then
    zf118_43 a0 x1 s
  else
    if v1 = (-1) then
      zf118_43 a0 x1 s
    else
      zal s (zrf a0 2) x1 fun v3 =>
      zal s (zrf a0 2) v1 fun v4 =>
      if v3 = v4 then
        zrb 0 s
      else
        zrb 1 s
theorem zf118_ok {K : cx_K} (hK : Kok K) {lg : Nat → Int64} {v : Int32} {s' : zS} {a0 : Nat} (h0 : zsh a0 = 2) {x1 : Int32} {s : zS} (hF : zf118 a0 x1 s = some (v, s')) : Ct K 118 [.ref a0, .int x1] (zmk lg s) (.inl (some (.int v))) (zmk lg s') 0 := by
  unfold zf118 at hF
  refine Ct_of hK nd_ok118 (mL := 3) (rt := some .boolean) rfl rfl (Nat.le_of_ble_eq_true rfl) zlen_le ?_
  refine Ev_p 1 (c' := (1, [some (.ref a0), some (.int x1), none], [.ref a0])) rfl ?_
  refine Ez_gr (M := zM118) (ci := 2) (f := 1) (t := 100) rfl rfl h0 rfl ?_
  refine Ev_p 1 (c' := (5, [some (.ref a0), some (.int x1), none], [.int x1, .ref (zrf a0 1)])) rfl ?_
  refine Ez_al (M := zM118) rfl (zty (ci := 2) (f := 1) (t := 100) h0 rfl) hF (fun v1 hF => ?_)
  refine Ev_p 2 (c' := (8, [some (.ref a0), some (.int x1), some (.int v1)], [.ref a0])) rfl ?_
  refine Ez_gr (M := zM118) (ci := 2) (f := 0) (t := 100) rfl rfl h0 rfl ?_
  refine Ev_p 1 (c' := (12, [some (.ref a0), some (.int x1), some (.int v1)], [.int x1, .ref (zrf a0 0)])) rfl ?_
  refine Ez_al (M := zM118) rfl (zty (ci := 2) (f := 0) (t := 100) h0 rfl) hF (fun v2 hF => ?_)
  refine Ev_p 1 (c' := (14, [some (.ref a0), some (.int x1), some (.int v1)], [.int 2, .int v2])) rfl ?_
  refine Ez_if (M := zM118) (b := ¬ v2 = 2) rfl rfl hF (fun _ hF => ?_) (fun _ hF => ?_)
  · refine Ev_p 0 (c' := (43, [some (.ref a0), some (.int x1), some (.int v1)], [])) rfl ?_
    refine Ev_w (L' := [some (.ref a0), some (.int x1), none]) (zle_c (zle_c (zle_n zle_0))) ?_
    exact zf118_43_ok hK h0 hF
  · refine Ev_p 2 (c' := (19, [some (.ref a0), some (.int x1), some (.int v1)], [.int (-1), .int v1])) rfl ?_
    refine Ez_if (M := zM118) (b := v1 = (-1)) rfl rfl hF (fun _ hF => ?_) (fun _ hF => ?_)
    · refine Ev_p 0 (c' := (43, [some (.ref a0), some (.int x1), some (.int v1)], [])) rfl ?_
      refine Ev_w (L' := [some (.ref a0), some (.int x1), none]) (zle_c (zle_c (zle_n zle_0))) ?_
      exact zf118_43_ok hK h0 hF
    · refine Ev_p 1 (c' := (23, [some (.ref a0), some (.int x1), some (.int v1)], [.ref a0])) rfl ?_
      refine Ez_gr (M := zM118) (ci := 2) (f := 2) (t := 100) rfl rfl h0 rfl ?_
      refine Ev_p 1 (c' := (27, [some (.ref a0), some (.int x1), some (.int v1)], [.int x1, .ref (zrf a0 2)])) rfl ?_
      refine Ez_al (M := zM118) rfl (zty (ci := 2) (f := 2) (t := 100) h0 rfl) hF (fun v3 hF => ?_)
      refine Ev_p 1 (c' := (29, [some (.ref a0), some (.int x1), some (.int v1)], [.ref a0, .int v3])) rfl ?_
      refine Ez_gr (M := zM118) (ci := 2) (f := 2) (t := 100) rfl rfl h0 rfl ?_
      refine Ev_p 1 (c' := (33, [some (.ref a0), some (.int x1), some (.int v1)], [.int v1, .ref (zrf a0 2), .int v3])) rfl ?_
      refine Ez_al (M := zM118) rfl (zty (ci := 2) (f := 2) (t := 100) h0 rfl) hF (fun v4 hF => ?_)
      refine Ev_p 0 (c' := (34, [some (.ref a0), some (.int x1), some (.int v1)], [.int v4, .int v3])) rfl ?_
      refine Ez_if (M := zM118) (b := v3 = v4) rfl rfl hF (fun _ hF => ?_) (fun _ hF => ?_)
      · refine Ev_p 1 (c' := (42, [some (.ref a0), some (.int x1), some (.int v1)], [.int 0])) rfl ?_
        exact Ez_rb (M := zM118) rfl rfl hF
      · refine Ev_p 2 (c' := (42, [some (.ref a0), some (.int x1), some (.int v1)], [.int 1])) rfl ?_
        exact Ez_rb (M := zM118) rfl rfl hF
-- PaperParcels$Emitter.styleFor(I)I
abbrev zM119 : ev_M := (am_in nd_i119, am_fl nd_f10, am_ct nd_k10, am_sl nd_ml nd_s119, fun _ => none, some .int)
noncomputable def zf119_2 (a0 : Nat)  : Nat → Int32 → Int32 → zS → Option (Int32 × zS)
  | 0, _, _, _ => none
  | n + 1, x1, x2, s =>
    zgf s a0 5 fun v1 =>
    if v1 ≤ x2 then
      some ((-1), s)
    else
      zal s (zrf a0 4) x2 fun v2 =>
      if ¬ v2 = x1 then
        zf119_2 a0 n x1 (x2 + 1) s
      else
        some (x2, s)
theorem zf119_2_ok {K : cx_K} (hK : Kok K) {lg : Nat → Int64} {v : Int32} {s' : zS} {a0 : Nat} (h0 : zsh a0 = 10)   {n : Nat} : ∀ {x1 : Int32} {x2 : Int32} {s : zS}, zf119_2 a0 n x1 x2 s = some (v, s') → Ev K zM119 (2, [some (.ref a0), some (.int x1), some (.int x2)], [], zmk lg s) 0 (.inl (some (.int v))) (zmk lg s') 0 := by
  induction n with
  | zero => intro x1 x2 s hF; rw [zf119_2] at hF; cases hF
  | succ n ih =>
    intro x1 x2 s hF
    rw [zf119_2] at hF
    refine Ev_p 2 (c' := (4, [some (.ref a0), some (.int x1), some (.int x2)], [.ref a0, .int x2])) rfl ?_
    refine Ez_gf (M := zM119) (ci := 10) (f := 5) rfl rfl h0 rfl hF (fun v1 hF => ?_)
    refine Ev_p 0 (c' := (7, [some (.ref a0), some (.int x1), some (.int x2)], [.int v1, .int x2])) rfl ?_
    refine Ez_if (M := zM119) (b := v1 ≤ x2) rfl rfl hF (fun _ hF => ?_) (fun _ hF => ?_)
    · refine Ev_p 1 (c' := (29, [some (.ref a0), some (.int x1), some (.int x2)], [.int (-1)])) rfl ?_
      exact Ez_ri (M := zM119) rfl rfl hF
    · refine Ev_p 1 (c' := (11, [some (.ref a0), some (.int x1), some (.int x2)], [.ref a0])) rfl ?_
      refine Ez_gr (M := zM119) (ci := 10) (f := 4) (t := 100) rfl rfl h0 rfl ?_
      refine Ev_p 1 (c' := (15, [some (.ref a0), some (.int x1), some (.int x2)], [.int x2, .ref (zrf a0 4)])) rfl ?_
      refine Ez_al (M := zM119) rfl (zty (ci := 10) (f := 4) (t := 100) h0 rfl) hF (fun v2 hF => ?_)
      refine Ev_p 1 (c' := (17, [some (.ref a0), some (.int x1), some (.int x2)], [.int x1, .int v2])) rfl ?_
      refine Ez_if (M := zM119) (b := ¬ v2 = x1) rfl rfl hF (fun _ hF => ?_) (fun _ hF => ?_)
      · refine Ev_p 2 (c' := (2, [some (.ref a0), some (.int x1), some (.int (x2 + 1))], [])) rfl ?_
        exact ih hF
      · refine Ev_p 1 (c' := (21, [some (.ref a0), some (.int x1), some (.int x2)], [.int x2])) rfl ?_
        exact Ez_ri (M := zM119) rfl rfl hF
noncomputable def zf119 (a0 : Nat) (x1 : Int32) (s : zS) : Option (Int32 × zS) :=
  zf119_2 a0 zfz x1 0 s
theorem zf119_ok {K : cx_K} (hK : Kok K) {lg : Nat → Int64} {v : Int32} {s' : zS} {a0 : Nat} (h0 : zsh a0 = 10) {x1 : Int32} {s : zS} (hF : zf119 a0 x1 s = some (v, s')) : Ct K 119 [.ref a0, .int x1] (zmk lg s) (.inl (some (.int v))) (zmk lg s') 0 := by
  unfold zf119 at hF
  refine Ct_of hK nd_ok119 (mL := 3) (rt := some .int) rfl rfl (Nat.le_of_ble_eq_true rfl) zlen_le ?_
  refine Ev_p 2 (c' := (2, [some (.ref a0), some (.int x1), some (.int 0)], [])) rfl ?_
  exact zf119_2_ok hK h0 hF

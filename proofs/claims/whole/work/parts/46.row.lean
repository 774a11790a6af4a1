/-! Row: put, at, clear. -/
abbrev M13 : ev_M := (am_in nd_i13, am_fl nd_f1, am_ct nd_k1, am_sl nd_ml nd_s13, fun _ => none, none)
theorem ne_of {h : List va_E} {r a : Nat} {x : Nat × List Value} {y : ClassId × vp_A} (hr : h[r]? = some (.inr x)) (ha : h[a]? = some (.inl y)) : a ≠ r := by
  intro e
  subst e
  rw [hr] at ha
  cases ha
/-- put, where there is room -/
theorem m13_in {K : cx_K} (hK : Kok K) {h : List va_E} {r a n sz : Nat} {f : Nat → Int32} {ov c : Int32} (hl : h.length ≤ 1000000) (hr : h[r]? = some (.inr (1, [.ref a, .int (nI sz), .int ov]))) (ha : h[a]? = some (.inl (0, n, .inl f))) (hn : n < 2 ^ 31) (hs : sz < n) :
    Ct K 13 [.ref r, .int c] h (.inl none) ((h.set a (.inl (0, n, .inl (upd f sz c)))).set r (.inr (1, [.ref a, .int (nI (sz + 1)), .int ov]))) 0 := by
  have hne := ne_of hr ha
  refine Ct_of hK nd_ok13 (mL := 2) (rt := none) rfl rfl (Nat.le_of_ble_eq_true rfl) (by simpa using hl) ?_
  refine Ev_p 1 (c' := (1, [some (.ref r), some (.int c)], [.ref r])) rfl ?_
  refine Ev_get (M := M13) rfl rfl hr rfl ?_
  refine Ev_p 1 (c' := (5, [some (.ref r), some (.int c)], [.ref r, .int (nI sz)])) rfl ?_
  refine Ev_get (M := M13) rfl rfl hr rfl ?_
  refine Ev_len (M := M13) rfl ha ?_
  refine Ev_b (M := M13) (b := nI n ≤ nI sz) rfl rfl (fun hb => absurd hb (nI_ge hs hn)) (fun _ => ?_)
  refine Ev_p 1 (c' := (13, [some (.ref r), some (.int c)], [.ref r])) rfl ?_
  refine Ev_get (M := M13) rfl rfl hr rfl ?_
  refine Ev_p 1 (c' := (17, [some (.ref r), some (.int c)], [.ref r, .ref a])) rfl ?_
  refine Ev_get (M := M13) rfl rfl hr rfl ?_
  refine Ev_p 1 (c' := (21, [some (.ref r), some (.int c)], [.int c, .int (nI sz), .ref a])) rfl ?_
  refine Ev_ist (M := M13) rfl ha (nI_in hs hn) ?_
  rw [nI_clamp (by omega)]
  have hr1 : (h.set a (.inl (0, n, .inl (upd f sz c))))[r]? = some (.inr (1, [.ref a, .int (nI sz), .int ov])) := by rw [List.getElem?_set_ne hne]; exact hr
  refine Ev_p 2 (c' := (24, [some (.ref r), some (.int c)], [.ref r, .ref r])) rfl ?_
  refine Ev_get (M := M13) rfl rfl hr1 rfl ?_
  refine Ev_p 2 (c' := (29, [some (.ref r), some (.int c)], [.int (nI sz + 1), .ref r])) rfl ?_
  rw [nI_1]
  refine Ev_put (M := M13) rfl rfl hr1 (Nat.le_of_ble_eq_true rfl) rfl ?_
  refine Ev_p 1 (c' := (40, [some (.ref r), some (.int c)], [])) rfl ?_
  exact Ev_r rfl

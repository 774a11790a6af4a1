/-! The text on the class's side: clear, at, wipe, length, character; and place. -/
abbrev M15 : ev_M := (am_in nd_i15, am_fl nd_f1, am_ct nd_k1, am_sl nd_ml nd_s15, fun _ => none, none)
abbrev M18 : ev_M := (am_in nd_i18, am_fl nd_f1, am_ct nd_k1, am_sl nd_ml nd_s18, fun _ => none, some .int)
abbrev M14 : ev_M := (am_in nd_i14, am_fl nd_f0, am_ct nd_k0, am_sl nd_ml nd_s14, fun _ => none, some .int)
abbrev M16 : ev_M := (am_in nd_i16, am_fl nd_f0, am_ct nd_k0, am_sl nd_ml nd_s16, fun _ => none, some .int)
abbrev M17 : ev_M := (am_in nd_i17, am_fl nd_f0, am_ct nd_k0, am_sl nd_ml nd_s17, fun _ => none, some .int)
abbrev M19 : ev_M := (am_in nd_i19, am_fl nd_f0, am_ct nd_k0, am_sl nd_ml nd_s19, fun _ => none, some .int)
theorem set_get {h : List va_E} {r : Nat} {x y : va_E} (hr : h[r]? = some x) : (h.set r y)[r]? = some y := by
  rw [List.getElem?_set_self (List.getElem?_eq_some_iff.mp hr).1]
theorem m15 {K : cx_K} (hK : Kok K) {h : List va_E} {r a : Nat} {sz ov : Int32} (hl : h.length ≤ 1000000) (hr : h[r]? = some (.inr (1, [.ref a, .int sz, .int ov]))) :
    Ct K 15 [.ref r] h (.inl none) (h.set r (.inr (1, [.ref a, .int 0, .int 0]))) 0 := by
  refine Ct_of hK nd_ok15 (mL := 1) (rt := none) rfl rfl (Nat.le_of_ble_eq_true rfl) (by simpa using hl) ?_
  refine Ev_p 2 (c' := (2, [some (.ref r)], [.int 0, .ref r])) rfl ?_
  refine Ev_put (M := M15) rfl rfl hr (Nat.le_of_ble_eq_true rfl) rfl ?_
  refine Ev_p 2 (c' := (7, [some (.ref r)], [.int 0, .ref r])) rfl ?_
  refine Ev_put (M := M15) rfl rfl (set_get hr) (Nat.le_of_ble_eq_true rfl) rfl ?_
  rw [List.set_set]
  exact Ev_r rfl
/-- what stands at j in a row of sz letters -/
def rowAt (f : Nat → Int32) (sz : Nat) (j : Int32) : Int32 := if j < 0 ∨ nI sz ≤ j then -1 else f j.toNatClampNeg
theorem m18 {K : cx_K} (hK : Kok K) {h : List va_E} {r a n sz : Nat} {f : Nat → Int32} {ov j : Int32} (hl : h.length ≤ 1000000) (hr : h[r]? = some (.inr (1, [.ref a, .int (nI sz), .int ov]))) (ha : h[a]? = some (.inl (0, n, .inl f))) (hn : n < 2 ^ 31) (hs : sz ≤ n) :
    Ct K 18 [.ref r, .int j] h (.inl (some (.int (rowAt f sz j)))) h 0 := by
  refine Ct_of hK nd_ok18 (mL := 2) (rt := some .int) rfl rfl (Nat.le_of_ble_eq_true rfl) hl ?_
  unfold rowAt
  refine Ev_p 1 (c' := (1, [some (.ref r), some (.int j)], [.int j])) rfl ?_
  refine Ev_b (M := M18) (b := j < 0) rfl rfl (fun hb => ?_) (fun hb => ?_)
  · rw [if_pos (Or.inl hb)]
    refine Ev_p 1 (c' := (22, [some (.ref r), some (.int j)], [.int (-1)])) rfl ?_
    exact Ev_r rfl
  · refine Ev_p 2 (c' := (6, [some (.ref r), some (.int j)], [.ref r, .int j])) rfl ?_
    refine Ev_get (M := M18) rfl rfl hr rfl ?_
    refine Ev_b (M := M18) (b := nI sz ≤ j) rfl rfl (fun hc => ?_) (fun hc => ?_)
    · rw [if_pos (Or.inr hc)]
      refine Ev_p 1 (c' := (22, [some (.ref r), some (.int j)], [.int (-1)])) rfl ?_
      exact Ev_r rfl
    · have hno : ¬ (j < 0 ∨ nI sz ≤ j) := fun q => q.elim hb hc
      rw [if_neg hno]
      refine Ev_p 1 (c' := (13, [some (.ref r), some (.int j)], [.ref r])) rfl ?_
      refine Ev_get (M := M18) rfl rfl hr rfl ?_
      refine Ev_p 1 (c' := (17, [some (.ref r), some (.int j)], [.int j, .ref a])) rfl ?_
      refine Ev_ild (M := M18) rfl ha (fun q => q.elim hb (fun q => hc ?_)) ?_
      · have e1 := Int32.le_iff_toInt_le.mp (Int32.not_lt.mp hb)
        have e2 : (nI sz).toInt = (sz : Int) := by unfold nI; rw [Int32.toInt_ofNat_of_lt (by omega)]
        have e3 : (0 : Int32).toInt = 0 := rfl
        rw [Int32.le_iff_toInt_le, e2]
        have e4 : j.toNatClampNeg = j.toInt.toNat := rfl
        omega
      refine Ev_p 1 (c' := (22, [some (.ref r), some (.int j)], [.int (f j.toNatClampNeg)])) rfl ?_
      exact Ev_r rfl
theorem m16 {K : cx_K} (hK : Kok K) {h : List va_E} {o r s2 s3 s4 s5 a : Nat} {sz ov : Int32} (hl : h.length ≤ 1000000) (ho : h[o]? = some (.inr (0, [.ref r, .ref s2, .ref s3, .ref s4, .ref s5]))) (hr : h[r]? = some (.inr (1, [.ref a, .int sz, .int ov]))) :
    Ct K 16 [.ref o] h (.inl (some (.int sz))) h 0 := by
  refine Ct_of hK nd_ok16 (mL := 1) (rt := some .int) rfl rfl (Nat.le_of_ble_eq_true rfl) hl ?_
  refine Ev_p 1 (c' := (1, [some (.ref o)], [.ref o])) rfl ?_
  refine Ev_get (M := M16) rfl rfl ho rfl ?_
  refine Ev_get (M := M16) rfl rfl hr rfl ?_
  exact Ev_r rfl
theorem m14 {K : cx_K} (hK : Kok K) {h : List va_E} {o r s2 s3 s4 s5 a : Nat} {sz ov : Int32} (hl : h.length ≤ 1000000) (ho : h[o]? = some (.inr (0, [.ref r, .ref s2, .ref s3, .ref s4, .ref s5]))) (hr : h[r]? = some (.inr (1, [.ref a, .int sz, .int ov]))) :
    Ct K 14 [.ref o] h (.inl (some (.int sz))) (h.set r (.inr (1, [.ref a, .int 0, .int 0]))) 0 := by
  refine Ct_of hK nd_ok14 (mL := 2) (rt := some .int) rfl rfl (Nat.le_of_ble_eq_true rfl) (by simpa using hl) ?_
  refine Ev_p 1 (c' := (1, [some (.ref o), none], [.ref o])) rfl ?_
  refine Ev_get (M := M14) rfl rfl ho rfl ?_
  refine Ev_get (M := M14) rfl rfl hr rfl ?_
  refine Ev_p 2 (c' := (9, [some (.ref o), some (.int sz)], [.ref o])) rfl ?_
  refine Ev_get (M := M14) rfl rfl ho rfl ?_
  refine Ev_call (M := M14) (am_site_v (y := 15) (k := 1) (ci := 1) rfl rfl (am_rcv_v rfl hr)) (Nat.le_of_ble_eq_true rfl) (Nat.le_of_ble_eq_true rfl) (m15 hK hl hr) ?_
  refine Ev_p 1 (c' := (16, [some (.ref o), some (.int sz)], [.int sz])) rfl ?_
  exact Ev_r rfl
theorem m17 {K : cx_K} (hK : Kok K) {h : List va_E} {o r s2 s3 s4 s5 a n sz : Nat} {f : Nat → Int32} {ov j : Int32} (hl : h.length ≤ 1000000) (ho : h[o]? = some (.inr (0, [.ref r, .ref s2, .ref s3, .ref s4, .ref s5]))) (hr : h[r]? = some (.inr (1, [.ref a, .int (nI sz), .int ov]))) (ha : h[a]? = some (.inl (0, n, .inl f))) (hn : n < 2 ^ 31) (hs : sz ≤ n) :
    Ct K 17 [.ref o, .int j] h (.inl (some (.int (rowAt f sz j)))) h 0 := by
  refine Ct_of hK nd_ok17 (mL := 2) (rt := some .int) rfl rfl (Nat.le_of_ble_eq_true rfl) hl ?_
  refine Ev_p 1 (c' := (1, [some (.ref o), some (.int j)], [.ref o])) rfl ?_
  refine Ev_get (M := M17) rfl rfl ho rfl ?_
  refine Ev_p 1 (c' := (5, [some (.ref o), some (.int j)], [.int j, .ref r])) rfl ?_
  refine Ev_call (M := M17) (am_site_v (y := 18) (k := 2) (ci := 1) rfl rfl (am_rcv_v rfl hr)) (Nat.le_of_ble_eq_true rfl) (Nat.le_of_ble_eq_true rfl) (m18 hK hl hr ha hn hs) ?_
  exact Ev_r rfl

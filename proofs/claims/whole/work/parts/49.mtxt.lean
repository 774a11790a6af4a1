/-! The text on the model's side: thrown, length, wipe, character. fs: the model's fields (0 thrown, 1 the text, 2 its length). -/
abbrev M147 : ev_M := (am_in nd_i147, am_fl nd_f11, am_ct nd_k11, am_sl nd_ml nd_s147, fun _ => none, some .int)
abbrev M149 : ev_M := (am_in nd_i149, am_fl nd_f11, am_ct nd_k11, am_sl nd_ml nd_s149, fun _ => none, some .int)
abbrev M150 : ev_M := (am_in nd_i150, am_fl nd_f11, am_ct nd_k11, am_sl nd_ml nd_s150, fun _ => none, some .int)
abbrev M151 : ev_M := (am_in nd_i151, am_fl nd_f11, am_ct nd_k11, am_sl nd_ml nd_s151, fun _ => none, some .int)
theorem m147 {K : cx_K} (hK : Kok K) {h : List va_E} {o : Nat} {fs : List Value} {t : Int32} (hl : h.length ≤ 1000000) (ho : h[o]? = some (.inr (11, fs))) (h0 : fs[0]? = some (.int t)) : Ct K 147 [.ref o] h (.inl (some (.int t))) h 0 := by
  refine Ct_of hK nd_ok147 (mL := 1) (rt := some .int) rfl rfl (Nat.le_of_ble_eq_true rfl) hl ?_
  refine Ev_p 1 (c' := (1, [some (.ref o)], [.ref o])) rfl ?_
  refine Ev_get (M := M147) rfl rfl ho h0 ?_
  exact Ev_r rfl
theorem m150 {K : cx_K} (hK : Kok K) {h : List va_E} {o : Nat} {fs : List Value} {n : Int32} (hl : h.length ≤ 1000000) (ho : h[o]? = some (.inr (11, fs))) (hf : fs.length = 57) (h2 : fs[2]? = some (.int n)) : Ct K 150 [.ref o] h (.inl (some (.int n))) (h.set o (.inr (11, fs.set 0 (.int 0)))) 0 := by
  refine Ct_of hK nd_ok150 (mL := 1) (rt := some .int) rfl rfl (Nat.le_of_ble_eq_true rfl) (by simpa using hl) ?_
  refine Ev_p 2 (c' := (2, [some (.ref o)], [.int 0, .ref o])) rfl ?_
  refine Ev_put (M := M150) rfl rfl ho (by rw [hf]; decide) rfl ?_
  refine Ev_p 1 (c' := (6, [some (.ref o)], [.ref o])) rfl ?_
  refine Ev_get (M := M150) rfl rfl (set_get ho) (by rw [List.getElem?_set_ne (by decide)]; exact h2) ?_
  exact Ev_r rfl
theorem m149 {K : cx_K} (hK : Kok K) {h : List va_E} {o : Nat} {fs : List Value} {n : Int32} (hl : h.length ≤ 1000000) (ho : h[o]? = some (.inr (11, fs))) (hf : fs.length = 57) (h2 : fs[2]? = some (.int n)) : Ct K 149 [.ref o] h (.inl (some (.int n))) (h.set o (.inr (11, (fs.set 0 (.int 0)).set 2 (.int 0)))) 0 := by
  refine Ct_of hK nd_ok149 (mL := 2) (rt := some .int) rfl rfl (Nat.le_of_ble_eq_true rfl) (by simpa using hl) ?_
  refine Ev_p 2 (c' := (2, [some (.ref o), none], [.int 0, .ref o])) rfl ?_
  refine Ev_put (M := M149) rfl rfl ho (by rw [hf]; decide) rfl ?_
  refine Ev_p 1 (c' := (6, [some (.ref o), none], [.ref o])) rfl ?_
  refine Ev_get (M := M149) rfl rfl (set_get ho) (by rw [List.getElem?_set_ne (by decide)]; exact h2) ?_
  refine Ev_p 3 (c' := (12, [some (.ref o), some (.int n)], [.int 0, .ref o])) rfl ?_
  refine Ev_put (M := M149) rfl rfl (set_get ho) (by rw [List.length_set, hf]; decide) rfl ?_
  rw [List.set_set]
  refine Ev_p 1 (c' := (16, [some (.ref o), some (.int n)], [.int n])) rfl ?_
  exact Ev_r rfl
theorem m151 {K : cx_K} (hK : Kok K) {h : List va_E} {o a n sz : Nat} {fs : List Value} {f : Nat → Int32} {j : Int32} (hl : h.length ≤ 1000000) (ho : h[o]? = some (.inr (11, fs))) (hf : fs.length = 57) (h1 : fs[1]? = some (.ref a)) (h2 : fs[2]? = some (.int (nI sz))) (ha : h[a]? = some (.inl (0, n, .inl f))) (hn : n < 2 ^ 31) (hs : sz ≤ n) : Ct K 151 [.ref o, .int j] h (.inl (some (.int (rowAt f sz j)))) (h.set o (.inr (11, fs.set 0 (.int 0)))) 0 := by
  have hne := ne_of ho ha
  refine Ct_of hK nd_ok151 (mL := 2) (rt := some .int) rfl rfl (Nat.le_of_ble_eq_true rfl) (by simpa using hl) ?_
  unfold rowAt
  refine Ev_p 2 (c' := (2, [some (.ref o), some (.int j)], [.int 0, .ref o])) rfl ?_
  refine Ev_put (M := M151) rfl rfl ho (by rw [hf]; decide) rfl ?_
  refine Ev_p 1 (c' := (6, [some (.ref o), some (.int j)], [.int j])) rfl ?_
  refine Ev_b (M := M151) (b := j < 0) rfl rfl (fun hb => ?_) (fun hb => ?_)
  · rw [if_pos (Or.inl hb)]
    refine Ev_p 1 (c' := (27, [some (.ref o), some (.int j)], [.int (-1)])) rfl ?_
    exact Ev_r rfl
  · refine Ev_p 2 (c' := (11, [some (.ref o), some (.int j)], [.ref o, .int j])) rfl ?_
    refine Ev_get (M := M151) rfl rfl (set_get ho) (by rw [List.getElem?_set_ne (by decide)]; exact h2) ?_
    refine Ev_b (M := M151) (b := nI sz ≤ j) rfl rfl (fun hc => ?_) (fun hc => ?_)
    · rw [if_pos (Or.inr hc)]
      refine Ev_p 1 (c' := (27, [some (.ref o), some (.int j)], [.int (-1)])) rfl ?_
      exact Ev_r rfl
    · have hno : ¬ (j < 0 ∨ nI sz ≤ j) := fun q => q.elim hb hc
      rw [if_neg hno]
      refine Ev_p 1 (c' := (18, [some (.ref o), some (.int j)], [.ref o])) rfl ?_
      refine Ev_get (M := M151) rfl rfl (set_get ho) (by rw [List.getElem?_set_ne (by decide)]; exact h1) ?_
      refine Ev_p 1 (c' := (22, [some (.ref o), some (.int j)], [.int j, .ref a])) rfl ?_
      refine Ev_ild (M := M151) (f := f) (n := n) rfl (by rw [List.getElem?_set_ne (Ne.symm hne)]; exact ha) (fun q => q.elim hb (fun q => hc ?_)) ?_
      · have e1 := Int32.le_iff_toInt_le.mp (Int32.not_lt.mp hb)
        have e2 : (nI sz).toInt = (sz : Int) := by unfold nI; rw [Int32.toInt_ofNat_of_lt (by omega)]
        have e3 : (0 : Int32).toInt = 0 := rfl
        rw [Int32.le_iff_toInt_le, e2]
        have e4 : j.toNatClampNeg = j.toInt.toNat := rfl
        omega
      refine Ev_p 1 (c' := (27, [some (.ref o), some (.int j)], [.int (f j.toNatClampNeg)])) rfl ?_
      exact Ev_r rfl

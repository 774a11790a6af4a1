theorem nm_mt_at {ml : List nm_M} {y : Nat} {q : nm_M} (h : ml[y]? = some q) : nm_mt ml y = q.1 := by
  unfold nm_mt
  rw [List.getD_eq_getElem?_getD, h]
  rfl
set_option maxHeartbeats 4000000 in
theorem nm_sok {ct : List nm_K} {ml : List nm_M} {own : String} {L : List nm_S} (h : L.all (nm_schk ct ml own) = true) : am_Sw own nm_Ts nm_Tn (ct.map (fun q => q.1)) (nm_mt ml) (am_sl ml L) := by
  intro ix kd y k ci hs
  unfold am_sl at hs
  split at hs
  · cases hs
  · next y' b pos hf =>
    have hm := nm_find hf
    have h1 := List.all_eq_true.mp h _ hm
    split at hs
    · cases hs
    · next q hq =>
      simp only [Option.some.injEq, Prod.mk.injEq] at hs
      obtain ⟨e1, e2, e3, e4⟩ := hs
      subst e2
      subst e3
      subst e4
      unfold nm_schk at h1
      simp only [hq, Bool.and_eq_true] at h1
      obtain ⟨h2, h3⟩ := h1
      rw [nm_mt_at hq]
      unfold nm_mchk at h2
      simp only [Bool.and_eq_true, decide_eq_true_eq] at h2
      obtain ⟨m1, m2, m3, m4, m5⟩ := h2
      refine ⟨nm_in m1 rfl, nm_in m2 rfl, ⟨m3, m4⟩, fun e => ?_, fun e => ?_, fun e => ?_, fun e => ?_⟩
      · rw [e] at e1
        cases b with
        | true => simp at e1
        | false =>
          simp only [Bool.false_eq_true, if_false, decide_eq_true_eq] at h3 e1
          rw [e1] at m5
          simp only [Bool.and_eq_true, decide_eq_true_eq] at m5
          exact ⟨nm_in h3 rfl, nm_in m5.1 rfl, m5.2⟩
      · rw [e] at e1
        cases b with
        | true => simp at e1
        | false =>
          simp only [Bool.false_eq_true, if_false, decide_eq_true_eq] at h3 e1
          rw [e1] at m5
          simp only [Bool.and_eq_true, decide_eq_true_eq] at m5
          obtain ⟨m6, m7, m8⟩ := m5
          split at m8
          · next r hr =>
            exact ⟨nm_in h3 rfl, nm_in m6 rfl, m7, r.1.1, r.1.2.1, r.1.2.2, by rw [List.getElem?_map, hr]; rfl, nm_in (of_decide_eq_true m8) rfl⟩
          · cases m8
      · rw [e] at e1
        cases b with
        | true => simp at e1
        | false =>
          simp only [Bool.false_eq_true, if_false, decide_eq_true_eq] at h3 e1
          rw [e1] at m5
          simp only [Bool.and_eq_true, decide_eq_true_eq] at m5
          exact ⟨nm_in h3 rfl, nm_in m5.1 rfl, m5.2.1, m5.2.2.1, m5.2.2.2⟩
      · rw [e] at e1
        cases b with
        | true =>
          simp only [if_true, Bool.and_eq_true, decide_eq_true_eq] at h3
          obtain ⟨h4, h5⟩ := h3
          rw [h4] at m5
          simp only [Bool.and_eq_true, decide_eq_true_eq] at m5
          split at h5
          · next o i x host hw =>
            simp only [Bool.and_eq_true, decide_eq_true_eq] at h5
            obtain ⟨rfl, rfl, rfl⟩ := h5
            exact ⟨⟨host, nm_inN hw rfl⟩, nm_in m5.1 rfl, m5.2⟩
          · cases h5
        | false =>
          simp only [Bool.false_eq_true, if_false] at e1
          rw [e1] at m5
          cases m5
theorem nm_ok {ct : List nm_K} {ml : List nm_M} {fr lo : Nat → Nat} {x : Nat} {q : nm_M} {ini : Bool} {LI : List (Nat × Instr × Nat)} {LF : List nm_F} {LK : List (Nat × Value × Nat)} {LS : List nm_S} (hx : ml[x]? = some q) (hpl : plainName q.1.1.cls = true) (hct : ∀ q ∈ ct, nm_cok q)
    (hI : am_ic q.1.2.1 LI = true) (hini : ini = true → q.1.1.name = "<init>") (hF : LF.all (nm_fchk ct q.1.1.cls ini) = true) (hK : LK.all (nm_kchk q.1.1.cls) = true) (hS : LS.all (nm_schk ct ml q.1.1.cls) = true) (hR : LS.all (fun z => decide (fr z.2.1 + 1 ≤ fr x ∧ 8 + ((nm_mt ml z.2.1).2.2.1 + 11) + lo z.2.1 ≤ lo x)) = true) :
    am_ok nm_Ts nm_Tn (ct.map (fun q => q.1)) (nm_mt ml) fr lo x (am_in LI) (am_fl LF) (am_ct LK) (am_sl ml LS) := by
  unfold am_ok
  rw [nm_mt_at hx]
  refine ⟨hpl, fun meth hm => nm_fok hct hF (fun e => hm.trans (hini e)), am_in_ok hI, (nm_kok hK).1, (nm_kok hK).2, nm_sok hS, fun ix kd y k ci hs => ?_⟩
  unfold am_sl at hs
  split at hs
  · cases hs
  · next y' b pos hf =>
    have h1 := List.all_eq_true.mp hR _ (nm_find hf)
    split at hs
    · cases hs
    · simp only [Option.some.injEq, Prod.mk.injEq] at hs
      obtain ⟨-, rfl, -, -⟩ := hs
      simpa using h1
/-- things made, by pool places: (place, (class, fresh fields, words: classLink, instantiable, initialized)) -/
abbrev nm_N : Type := Nat × Nat × List Value × Nat × Nat × Nat
def am_nl (L : List nm_N) (ix : Nat) : Option (Nat × List Value) := ((L.find? (fun q => q.1 == ix)).map (fun q => q.2)).map (fun q => (q.1, q.2.1))
def nm_nchk (ct : List nm_K) (own : String) (q : nm_N) : Bool := match ct[q.2.1]? with
  | none => false
  | some r => decide (lw_tbl[q.2.2.2.1]? = some (Cond.classLink own q.1 r.1.1)) && (decide (lw_tbl[q.2.2.2.2.1]? = some (Cond.instantiable r.1.1 r.1.2.2)) && (decide (lw_tbl[q.2.2.2.2.2]? = some (Cond.initialized r.1.1)) && (decide (q.2.2.1.length = r.1.2.2) && ((List.range r.1.2.2).all (fun j => decide (defaultValue (r.2 j) = vp_V q.2.2.1 j)) && q.2.2.1.all (fun v => match v with
    | .ref _ => false
    | _ => true)))))
theorem nm_nok {ct : List nm_K} {own : String} {L : List nm_N} (hct : ∀ q ∈ ct, nm_cok q) (h : L.all (nm_nchk ct own) = true) : am_Nw own nm_Ts (ct.map (fun q => q.1)) (am_nl L) := by
  intro ix ci fs hf
  unfold am_nl at hf
  cases hg : (L.find? (fun q => q.1 == ix)).map (fun q => q.2) with
  | none => rw [hg] at hf; cases hf
  | some r =>
    rw [hg] at hf
    simp only [Option.map_some, Option.some.injEq, Prod.mk.injEq] at hf
    obtain ⟨rfl, rfl⟩ := hf
    have h1 := List.all_eq_true.mp h _ (nm_find hg)
    unfold nm_nchk at h1
    split at h1
    · cases h1
    · next q hq =>
      simp only [Bool.and_eq_true, decide_eq_true_eq] at h1
      obtain ⟨g1, g2, g3, g4, g5, g6⟩ := h1
      obtain ⟨c1, c2, c3⟩ := hct q (List.mem_of_getElem? hq)
      refine ⟨q.1.1, q.1.2.1, q.1.2.2, q.2, by rw [List.getElem?_map, hq]; rfl, c1, c2, nm_in g1 rfl, nm_in g2 rfl, nm_in g3 rfl, g4, fun j hj => ?_, fun v hv k e => ?_⟩
      · have := List.all_eq_true.mp g5 j (List.mem_range.mpr hj)
        simpa using this
      · have := List.all_eq_true.mp g6 v hv
        rw [e] at this
        cases this
/-- pool places of a kind: (place, word) -/
def am_pl (L : List (Nat × Nat)) (ix : Nat) : Bool := ((L.find? (fun q => q.1 == ix)).map (fun q => q.2)).isSome
theorem nm_pok {w : Nat → Cond} {L : List (Nat × Nat)} (hg : ∀ ix, goodWord (w ix) = true) (h : L.all (fun q => decide (lw_tbl[q.2]? = some (w q.1))) = true) : ∀ ix, am_pl L ix = true → w ix ∈ nm_Ts := by
  intro ix hx
  unfold am_pl at hx
  cases hgt : (L.find? (fun q => q.1 == ix)).map (fun q => q.2) with
  | none => rw [hgt] at hx; cases hx
  | some r =>
    have h1 := List.all_eq_true.mp h _ (nm_find hgt)
    exact nm_in (of_decide_eq_true h1) (hg ix)

/-! The faults of elements, on the model's side: misfit, elementFault. -/
set_option maxRecDepth 100000
set_option linter.unusedVariables false
theorem zst_k {p e : Nat} {C : List Int32} {E : List zE} (hp : p < 2) (he : e < E.length) (h30 : E.length ≤ 30) (hok : zok C E) (hk : ∀ j, j < e → zkO p (zkd E j)) (h : zst E (if p = 0 then 116 else 100) e = true) : zkO p (zkd E e) := by
  obtain ⟨o1, o2⟩ := hok e he
  have hp2 : p = 0 ∨ p = 1 := by omega
  unfold zst at h
  rcases o2 with ⟨o3, o4⟩ | ⟨j, o3, o4⟩
  · rw [o4, if_pos rfl, decide_eq_true_eq] at h
    rw [h]
    rcases hp2 with rfl | rfl
    · exact ⟨fun _ => Or.inl rfl, fun q => absurd q (by decide)⟩
    · exact ⟨fun q => absurd q (by decide), fun _ => Or.inl rfl⟩
  · rw [o4, if_neg (show ¬ nI j = -1 from zn_nm (by omega)), zn_cl (by omega)] at h
    have ho := hk j o3
    generalize zkd E j = o at *
    generalize zkd E e = k at *
    rcases hp2 with rfl | rfl
    · rcases ho.1 rfl with rfl | rfl
      · have : k = 115 := by simpa [zmst] using h
        exact ⟨fun _ => Or.inr this, fun q => absurd q (by decide)⟩
      · exact absurd h (by simp [zmst])
    · refine ⟨fun q => absurd q (by decide), fun _ => ?_⟩
      rcases ho.2 rfl with rfl | rfl | rfl | rfl | rfl
      · have : k = 112 ∨ k = 108 := by simpa [zmst] using h
        rcases this with g | g
        · exact Or.inr (Or.inl g)
        · exact Or.inr (Or.inr (Or.inl g))
      · have : k = 120 := by simpa [zmst] using h
        exact Or.inr (Or.inr (Or.inr (Or.inr this)))
      · have : k = 105 := by simpa [zmst] using h
        exact Or.inr (Or.inr (Or.inr (Or.inl this)))
      · have : k = 112 ∨ k = 108 := by simpa [zmst] using h
        rcases this with g | g
        · exact Or.inr (Or.inl g)
        · exact Or.inr (Or.inr (Or.inl g))
      · have : k = 120 := by simpa [zmst] using h
        exact Or.inr (Or.inr (Or.inr (Or.inr this)))
theorem zoi_lt {o : Option Nat} (h : ∀ f, o = some f → f < 2000000) : (zoi o < 0 ↔ o = none) := by
  cases o with
  | none => exact ⟨fun _ => rfl, fun _ => by decide⟩
  | some f => exact ⟨fun q => absurd q (zn_nn (by have := h f rfl; omega)), fun q => (by cases q)⟩
theorem z175 {p e : Nat} {s : zS} {C : List Int32} {E : List zE} {O : List (Nat × Nat)} (hp : p < 2) (h : zMs p s C) (hZ : zMz p s E O) (hb : zEb E) (hok : zok C E) (hoo : zoo C E O) (he : e < E.length) (hk : ∀ j, j < e → zkO p (zkd E j)) : zf175 179 (nI p) (nI e) s = some (zoi (zfo C E O (if p = 0 then 116 else 100) e), s) := by
  obtain ⟨hE, hOw⟩ := hZ
  have h30 := hE.2.1
  have hl := h.1.1
  have n30 : ∀ i, (30 : Int32) * nI p + nI i = nI (30 * p + i) := fun i => by rw [zn_lit 30, zn_mul, zn_add]
  obtain ⟨t1, t2, t3⟩ := hE.2.2 e he
  have kk : s 187 (30 * p + e) = zkd E e := t1
  obtain ⟨o1, o2⟩ := hok e he
  have hbeg : (E.getD e (0, 0, 0, [])).2.1 < C.length := zin o1.2.2.1 (by decide)
  unfold zf175
  rw [show zrf 179 10 = 187 from rfl, n30, zal_n (by show _ < 60; omega), kk, show zrf 179 11 = 188 from rfl, zal_n (by show _ < 60; omega), t2, z176 hp hE he hok hk, zbi_e, zb_if]
  have hfo : ∀ x, zfo C E O (if p = 0 then 116 else 100) e = x ↔ zfo C E O (if p = 0 then 116 else 100) e = x := fun x => Iff.rfl
  unfold zfo
  cases hst : zst E (if p = 0 then 116 else 100) e with
  | false => rw [if_neg (by decide), if_neg (by decide)]; rfl
  | true =>
    rw [if_pos rfl, if_pos rfl]
    have hkO := zst_k hp he h30 hok hk hst
    have hk2 : (p = 1 → zkd E e ≠ 115) ∧ (p = 0 → zkd E e ≠ 112 ∧ zkd E e ≠ 120) := by
      refine ⟨fun q => ?_, fun q => ?_⟩
      · rcases hkO.2 q with g | g | g | g | g <;> rw [g] <;> decide
      · rcases hkO.1 q with g | g <;> rw [g] <;> decide
    rw [z178 hp h hE he o1 hk2, zbi_e]
    have hA : ∀ q ∈ (E.getD e (0, 0, 0, [])).2.2.2, q.1 < 300 := by
      intro q hq
      obtain ⟨j, hj, ej⟩ := List.getElem_of_mem hq
      have := hb.2.2 e he j hj
      rw [zgetA hj, ej] at this
      exact this
    have lb : ∀ (A : List (Nat × Nat)) f, (∀ q ∈ A, q.1 < 300) → zbd C (zkd E e) A = some f → f < 300 := by
      intro A
      induction A with
      | nil => intro f _ h; cases h
      | cons q A ih =>
        intro f hA h
        rw [zbd] at h
        split at h
        · exact ih f (fun x hx => hA x (List.mem_cons_of_mem _ hx)) h
        · cases h
          exact hA _ List.mem_cons_self
    cases hbd : zbd C (zkd E e) (E.getD e (0, 0, 0, [])).2.2.2 with
    | some f =>
      have := lb _ _ hA hbd
      rw [if_neg (show ¬ zoi (some f) < 0 from zn_nn (by omega))]
    | none =>
      rw [if_pos (show zoi none < 0 by decide)]
      -- the last tests
      have t124 : zf175_124 179 (nI p) (nI e) (zkd E e) (nI (E.getD e (0, 0, 0, [])).2.1) s = some (zoi (if (decide (zkd E e = 105) && !(zhs E e 112 108 (E.length - (e + 1)) (e + 1))) = true then some (E.getD e (0, 0, 0, [])).2.1 else none), s) := by
        unfold zf175_124 zf175_148
        rw [z183 hp hE he, zbi_e]
        by_cases g : zkd E e = 105
        · cases zhs E e 112 108 (E.length - (e + 1)) (e + 1) <;> simp [g, zoi]
        · simp [g, zoi]
      have t95 : ∀ o : Option Nat, (∀ j, o = some j → j < 5000) → zf175_95 179 (nI p) (nI e) (zkd E e) (nI (E.getD e (0, 0, 0, [])).2.1) (zoi o) s = some (zoi (match o with | some j => some j | none => if zlk E e = true then some (E.getD e (0, 0, 0, [])).2.1 else none), s) := by
        intro o ho
        unfold zf175_95
        cases o with
        | some j =>
          have := ho j rfl
          rw [if_neg (show ¬ zoi (some j) < 0 from zn_nn (by omega))]
        | none =>
          rw [if_pos (show zoi none < 0 by decide), z183 hp hE he, zbi_e]
          unfold zf175_148
          by_cases g1 : zkd E e = 108
          · have g2 : ¬ zkd E e = 105 := by rw [g1]; decide
            rw [if_neg (show ¬ ¬ zkd E e = 108 from fun q => q g1)]
            cases hh : zhs E e 105 105 (E.length - (e + 1)) (e + 1) with
            | false =>
              have : zlk E e = true := by unfold zlk; rw [hh, decide_eq_true g1]; rfl
              rw [if_pos (show (if false = true then (1 : Int32) else 0) = 0 from rfl), if_neg (show ¬ (1 : Int32) = 0 by decide), if_pos this]
              rfl
            | true =>
              have : zlk E e = false := by unfold zlk; rw [hh, decide_eq_false g2]; simp
              rw [if_neg (show ¬ (if true = true then (1 : Int32) else 0) = 0 by decide), t124, this, decide_eq_false g2]
              rfl
          · have : zlk E e = (decide (zkd E e = 105) && !(zhs E e 112 108 (E.length - (e + 1)) (e + 1))) := by unfold zlk; rw [decide_eq_false g1]; simp
            rw [if_pos g1, t124, this]
      have t73 : zf175_73 179 (nI p) (nI e) (zkd E e) (nI (E.getD e (0, 0, 0, [])).2.1) s = some (zoi (match (if zkd E e = 112 ∨ zkd E e = 120 then none else zfl O e C.length 0) with | some j => some j | none => if zlk E e = true then some (E.getD e (0, 0, 0, [])).2.1 else none), s) := by
        have n95 := t95 none (fun j q => by cases q)
        have e1 : zf175_95 179 (nI p) (nI e) (zkd E e) (nI (E.getD e (0, 0, 0, [])).2.1) (-1) s = zf175_95 179 (nI p) (nI e) (zkd E e) (nI (E.getD e (0, 0, 0, [])).2.1) (zoi none) s := rfl
        unfold zf175_73
        rw [e1, n95]
        by_cases g1 : zkd E e = 112
        · rw [if_pos g1, if_pos (Or.inl g1)]
        · rw [if_neg g1]
          by_cases g2 : zkd E e = 120
          · rw [if_neg (fun q => q g2), if_pos (Or.inr g2)]
          · rw [if_pos g2, if_neg (fun q => q.elim g1 g2), z182 hp h hOw (by omega), zbi_e]
            refine t95 _ (fun j q => ?_)
            have lt : ∀ m i j, zfl O e m i = some j → j < i + m := by
              intro m
              induction m with
              | zero => intro i j h; cases h
              | succ m ih =>
                intro i j h
                rw [zfl] at h
                split at h
                · cases h; omega
                · have := ih _ _ h
                  omega
            have := lt _ _ _ q
            omega
      by_cases g : zkd E e = 115
      · rw [if_neg (show ¬ ¬ zkd E e = 115 from fun q => q g), z181 (b := 0) hp h hE he o1, zbi_e]
        have vn := zvp_n (C := C) (l := 110) (E.getD e (0, 0, 0, [])).2.2.2
        have vlt : ∀ (A : List (Nat × Nat)) v, (∀ q ∈ A, q.1 < 300) → zvp C 110 A = some v → v < 400 := by
          intro A
          induction A with
          | nil => intro v _ h; cases h
          | cons q A ih =>
            intro v hA h
            rw [zvp] at h
            split at h
            · cases h
              have := hA q List.mem_cons_self
              omega
            · exact ih v (fun x hx => hA x (List.mem_cons_of_mem _ hx)) h
        cases hv : zvp C 110 (E.getD e (0, 0, 0, [])).2.2.2 with
        | none =>
          rw [if_neg (show ¬ 0 ≤ zoi none by decide), if_pos ⟨g, vn.mp hv⟩]
          rfl
        | some v =>
          have := vlt _ _ hA hv
          rw [if_pos (show 0 ≤ zoi (some v) from Int32.not_lt.mp (zn_nn (by omega))), if_neg (fun q => by have := vn.mpr q.2; rw [hv] at this; cases this), t73]
          try rfl
      · rw [if_pos (show ¬ zkd E e = 115 from g), if_neg (fun q => g q.1), t73]
        try rfl
theorem z174 {p : Nat} {s : zS} {C : List Int32} {E : List zE} {O : List (Nat × Nat)} (hp : p < 2) (h : zMs p s C) (hZ : zMz p s E O) (hb : zEb E) (hok : zok C E) (hoo : zoo C E O) :
    (zff C E O (if p = 0 then 116 else 100) E.length 0 = none → zf174 179 (nI p) s = some (0, s) ∧ ∀ j, j < E.length → zkO p (zkd E j)) ∧ (∀ f, zff C E O (if p = 0 then 116 else 100) E.length 0 = some f → zf174 179 (nI p) s = some (5, zw s 179 3 (nI (1000 * p + f)))) := by
  have h30 := hZ.1.2.1
  have hl := h.1.1
  have h175 : ∀ e, e < E.length → (∀ j, j < e → zkO p (zkd E j)) → zf175 179 (nI p) (nI e) s = some (zoi (zfo C E O (if p = 0 then 116 else 100) e), s) := fun e he hk => z175 hp h hZ hb hok hoo he hk
  have hstk : ∀ e, e < E.length → (∀ j, j < e → zkO p (zkd E j)) → zst E (if p = 0 then 116 else 100) e = true → zkO p (zkd E e) := fun e he hk hs => zst_k hp he h30 hok hk hs
  generalize (if p = 0 then (116 : Int32) else 100) = out at *
  have l : ∀ m n i, i + m = E.length → m < n → (∀ j, j < i → zkO p (zkd E j)) → (zff C E O out m i = none → zf174_2 179 n (nI p) (nI i) s = some (0, s) ∧ ∀ j, j < E.length → zkO p (zkd E j)) ∧ (∀ f, zff C E O out m i = some f → zf174_2 179 n (nI p) (nI i) s = some (5, zw s 179 3 (nI (1000 * p + f)))) := by
    intro m
    induction m with
    | zero =>
      intro n i hi hn hk
      obtain ⟨n, rfl⟩ : ∃ n', n = n' + 1 := ⟨n - 1, by omega⟩
      rw [zf174_2, show zrf 179 9 = 186 from rfl, zal_n (by show p < 2; omega), hZ.1.1, if_pos ((zn_le (by omega) (by omega)).mpr (by omega))]
      exact ⟨fun _ => ⟨rfl, fun j hj => hk j (by omega)⟩, fun f q => (by cases q)⟩
    | succ m ih =>
      intro n i hi hn hk
      obtain ⟨n, rfl⟩ : ∃ n', n = n' + 1 := ⟨n - 1, by omega⟩
      rw [zf174_2, show zrf 179 9 = 186 from rfl, zal_n (by show p < 2; omega), hZ.1.1, if_neg (fun q => by have := (zn_le (by omega) (by omega)).mp q; omega), h175 i (by omega) hk, zbi_e, zff]
      cases hz : zfo C E O out i with
      | none =>
        rw [if_pos (show zoi none < 0 by decide), zn_a1]
        refine ih n (i + 1) (by omega) (by omega) (fun j hj => ?_)
        by_cases e1 : j = i
        · subst e1
          refine hstk j (by omega) hk ?_
          cases hst : zst E out j with
          | true => rfl
          | false =>
            unfold zfo at hz
            rw [hst, if_neg (by decide)] at hz
            cases hz
        · exact hk j (by omega)
      | some f =>
        have := zfo_b hb hok (by omega) hl hz
        rw [if_neg (show ¬ zoi (some f) < 0 from zn_nn (by omega)), show zoi (some f) = nI f from rfl, zn_lit 1000, zn_mul, zn_add, z158, zbi_e]
        exact ⟨fun q => (by cases q), fun f' q => (by cases q; rfl)⟩
  exact l E.length zfz 0 (Nat.zero_add _) (by rw [zfz_e]; omega) (fun j hj => absurd hj (Nat.not_lt_zero _))

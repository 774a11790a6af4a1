/-! read, the text's faults on the class's side: all of them. -/
set_option maxRecDepth 100000
set_option linter.unusedVariables false
theorem zin {C : List Int32} {i : Nat} {x : Int32} (h : C.getD i (-1) = x) (hx : x ≠ -1) : i < C.length := Nat.lt_of_not_le (fun q => by rw [zgetD_out q] at h; exact hx h.symm)
theorem zat1_b {C ls : List Int32} {a f : Nat} (h : zat1 C ls a = .inl f) : f ≤ a + 304 := by
  have hr := (zrun_le C 300 (a + 4)).1
  unfold zat1 at h
  split at h
  · split at h
    · split at h
      · split at h
        · cases h
        · cases h; omega
      · cases h; omega
    · cases h; omega
  · cases h; omega
theorem zats_b {C : List Int32} : ∀ n a A, (∀ f, zats C n a A = .inl f → f ≤ C.length + 304) ∧ (∀ b A', zats C n a A = .inr (b, A') → b ≤ a ∨ b ≤ C.length) := by
  intro n
  induction n with
  | zero => intro a A; exact ⟨fun f h => (by cases h), fun b A' h => (by cases h; exact Or.inl (Nat.le_refl _))⟩
  | succ n ih =>
    intro a A
    rw [zats]
    by_cases g : C.getD a (-1) = 32
    · rw [if_pos g]
      have ha := zin g (by decide)
      cases hz : zat1 C (A.map fun q => C.getD q.1 (-1)) a with
      | inl p =>
        have := zat1_b hz
        exact ⟨fun f h => (by cases h; omega), fun b A' h => (by cases h)⟩
      | inr m =>
        have hq : a + 4 + m < C.length := by
          unfold zat1 at hz
          split at hz
          · split at hz
            · split at hz
              · split at hz
                · next q4 => cases hz; exact zin q4 (by decide)
                · cases hz
              · cases hz
            · cases hz
          · cases hz
        obtain ⟨i1, i2⟩ := ih (a + 4 + m + 1) (A ++ [(a + 1, m)])
        refine ⟨i1, fun b A' h => ?_⟩
        have := i2 b A' h
        omega
    · rw [if_neg g]
      exact ⟨fun f h => (by cases h), fun b A' h => (by cases h; exact Or.inl (Nat.le_refl _))⟩
theorem zbeg_b {C : List Int32} {c d a : Nat} (ha : a ≤ C.length) : (∀ f, zbeg C c d a = .inl f → f ≤ C.length + 304) ∧ (∀ cl b A, zbeg C c d a = .inr (cl, b, A) → b ≤ C.length) := by
  unfold zbeg
  by_cases g0 : c = 30 ∨ d = 8
  · rw [if_pos g0]
    exact ⟨fun f h => (by cases h; omega), fun cl b A h => (by cases h)⟩
  rw [if_neg g0]
  by_cases g1 : zsm (C.getD (a + 1) (-1)) = true
  rotate_left
  · rw [if_neg g1]
    exact ⟨fun f h => (by cases h; omega), fun cl b A h => (by cases h)⟩
  rw [if_pos g1]
  obtain ⟨i1, i2⟩ := zats_b (C := C) 60 (a + 2) []
  cases hz : zats C 60 (a + 2) [] with
  | inl p => exact ⟨fun f h => (by cases h; exact i1 p hz), fun cl b A h => (by cases h)⟩
  | inr x =>
    obtain ⟨b, A⟩ := x
    have := i2 b A hz
    simp only
    by_cases g2 : C.getD b (-1) = 47
    · rw [if_pos g2]
      by_cases g3 : C.getD (b + 1) (-1) = 62
      · have := zin g3 (by decide)
        rw [if_pos g3]
        exact ⟨fun f h => (by cases h), fun cl b A h => (by cases h; omega)⟩
      · rw [if_neg g3]
        exact ⟨fun f h => (by cases h; omega), fun cl b A h => (by cases h)⟩
    · rw [if_neg g2]
      by_cases g3 : C.getD b (-1) = 62
      · have := zin g3 (by decide)
        rw [if_pos g3]
        exact ⟨fun f h => (by cases h), fun cl b A h => (by cases h; omega)⟩
      · rw [if_neg g3]
        exact ⟨fun f h => (by cases h; omega), fun cl b A h => (by cases h)⟩
theorem zpar_b {C : List Int32} : ∀ n a E st O f, a ≤ C.length → zpar C n a E st O = .inl f → f ≤ C.length + 304 := by
  intro n
  induction n with
  | zero => intro a E st O f ha h; cases h; omega
  | succ n ih =>
    intro a E st O f ha h
    cases st with
    | nil =>
      rw [zpar] at h
      split at h
      · split at h
        · split at h
          · next hz => cases h; exact (zbeg_b ha).1 _ hz
          · next cl b A hz => exact ih _ _ _ _ _ ((zbeg_b ha).2 _ _ _ hz) h
        · cases h; omega
      · split at h
        · cases h
        · cases h; omega
    | cons e st =>
      rw [zpar] at h
      split at h
      · split at h
        · split at h
          · split at h
            · next q4 =>
              have := zin q4 (by decide)
              exact ih _ _ _ _ _ (by omega) h
            · next q1 q2 q3 q4 =>
              have := zin q1 (by decide)
              cases h; omega
          · next q1 q2 q3 =>
            have := zin q1 (by decide)
            cases h; omega
        · split at h
          · next hz => cases h; exact (zbeg_b ha).1 _ hz
          · next cl b A hz => exact ih _ _ _ _ _ ((zbeg_b ha).2 _ _ _ hz) h
      · split at h
        · cases h; omega
        · next q =>
          have : a < C.length := Nat.lt_of_not_le (fun z => q (Or.inl (zgetD_out z)))
          exact ih _ _ _ _ _ (by omega) h
theorem zs26a {s : zS} {T : List Int32} (hT : zRow 1 s T) (hL : zLt T) (hT2 : T.length ≤ 480) (hN : zNm s) :
    (∀ k p, ztf T = .inl (k, p) → ∃ s', zf26 28 1 s = some (nI k, s') ∧ s' 28 1 = nI p ∧ zNm s' ∧ 1 ≤ k ∧ k ≤ 4) ∧
    (∀ C C' X X', ztf T = .inr (C, C', X, X') → ∃ s', zf26 28 1 s = zrest s' ∧ zNm s' ∧ zRow 38 s' C ∧ zRow 41 s' C' ∧ zPz 43 s' X.1 X.2 ∧ zPz 52 s' X'.1 X'.2 ∧ zLt C ∧ zLt C') := by
  obtain ⟨a1, a2⟩ := zs27 hT hN hT2
  have ne : ∀ f : Nat, f < 5000 → ¬ nI f = -1 := fun f hf => zn_nm (by omega)
  unfold ztf
  cases ho : zol T with
  | inl p =>
    obtain ⟨s1, b1, b2⟩ := a1 p ho
    have hp := zol_p ho hT2
    refine ⟨fun k q h => ?_, fun _ _ _ _ h => (by cases h)⟩
    cases h
    refine ⟨zw s1 28 1 (nI p), ?_, zw_s, ⟨by rw [zw_ne (by decide)]; exact b2.1, by rw [zw_ne (by decide)]; exact b2.2⟩, by decide, by decide⟩
    unfold zf26
    rw [b1, zbi_e, z33, zbi_e, if_neg (ne p (by omega))]
    exact if_neg (by decide)
  | inr x =>
    obtain ⟨b, c, b', c'⟩ := x
    obtain ⟨s1, b1, b2, b3, b4⟩ := a2 b c b' c' ho
    -- where the parts lie
    have hsc : (5 + c + 4 ≤ T.length ∧ ∀ k, k < 4 → zhx (T.getD (5 + c + k) (-1)) = true) ∧ (5 + c + 4 + 5 + c' + 4 ≤ T.length ∧ ∀ k, k < 4 → zhx (T.getD (5 + c + 4 + 5 + c' + k) (-1)) = true) := by
      unfold zol at ho
      split at ho
      · cases ho
      · next b0 c0 e1 =>
        split at ho
        · cases ho
        · next b1' c1' e2 =>
          split at ho
          · cases ho
          · cases ho
            have g1 := zsc_c e1
            have g2 := zsc_c e2
            rw [Nat.zero_add] at g1
            exact ⟨⟨g1.2.1, g1.2.2⟩, ⟨g2.2.1, g2.2.2⟩⟩
    obtain ⟨⟨hl1, hx1⟩, hl2, hx2⟩ := hsc
    have fr1 : ∀ q, zW27 28 1 q = false → s1 q = s q := fun q hq => zf27_fr (q := q) hq b1
    obtain ⟨s2, hs2⟩ : ∃ s2, s2 = zw s1 28 1 (-1) := ⟨_, rfl⟩
    have f2 : ∀ q, q ≠ 28 → s2 q = s1 q := fun q hq => by rw [hs2, zw_ne hq]
    have hT1 : zRow 1 s2 T := zRow_fr (by rw [f2 1 (by decide), fr1 1 (by rfl)]) (by rw [show zrf 1 0 = 2 from rfl, f2 2 (by decide), fr1 2 (by rfl)]) hT
    have p37 : zPt s2 37 b 5 (5 + c) := by unfold zPt; rw [f2 37 (by decide)]; exact b3
    have p40 : zPt s2 40 b' (5 + c + 4 + 5) (5 + c + 4 + 5 + c') := by unfold zPt; rw [f2 40 (by decide)]; exact b4
    have n2 : zNm s2 := ⟨by rw [f2 37 (by decide)]; exact b2.1, by rw [f2 40 (by decide)]; exact b2.2⟩
    have e0 : zf26 28 1 s = zbi (zf34 28 37 1 s2) fun v5 s6 => if ¬ v5 = 0 then zf26_38 28 1 v5 s6 else zbi (zf34 28 40 1 s6) fun v7 s8 => zf26_38 28 1 v7 s8 := by
      unfold zf26
      rw [b1, zbi_e, z33, zbi_e, if_pos rfl, ← hs2, if_pos rfl]
      rfl
    rw [e0]
    obtain ⟨u1, u2⟩ := zs34 (a := 37) (Or.inl rfl) hT1 hL p37 hl1 (by omega) hT2 hx1
    have fr3 : ∀ v s3 q, zf34 28 37 1 s2 = some (v, s3) → zW34 28 37 1 q = false → s3 q = s2 q := fun v s3 q h hq => zf34_fr (q := q) hq h
    have nm3 : ∀ v s3, zf34 28 37 1 s2 = some (v, s3) → zNm s3 := fun v s3 h => ⟨by rw [fr3 v s3 37 h (by rfl)]; exact n2.1, by rw [fr3 v s3 40 h (by rfl)]; exact n2.2⟩
    have e38 : ∀ (k : Nat) (t : zS), k ≠ 0 → k < 100 → zf26_38 28 1 (nI k) t = some (nI k, t) := by
      intro k t h1 h2
      unfold zf26_38
      exact if_neg (fun q => h1 ((zn_eqL (k := 0) (by omega) (by decide)).mp q))
    have ifz : ∀ (k : Nat) (A B : Option (Int32 × zS)), k ≠ 0 → k < 100 → (if ¬ nI k = 0 then A else B) = A := fun k A B h1 h2 => if_pos (fun q => h1 ((zn_eqL (k := 0) (by omega) (by decide)).mp q))
    simp only
    cases hu : zup T b (5 + c) (5 + c) 5 [] with
    | inl f =>
      obtain ⟨s3, v1, v2⟩ := u1 f hu
      refine ⟨fun k q h => ?_, fun _ _ _ _ h => (by cases h)⟩
      cases h
      refine ⟨s3, ?_, v2, nm3 _ _ v1, by decide, by decide⟩
      rw [v1, zbi_e]
      exact (ifz 2 _ _ (by decide) (by decide)).trans (e38 2 s3 (by decide) (by decide))
    | inr C =>
      obtain ⟨lC, lC2, u3, u4⟩ := u2 C hu
      simp only
      cases hk : zcO T (5 + c) (zcr 65535 C) with
      | false =>
        obtain ⟨s3, v1, v2⟩ := u4 hk
        rw [if_neg (by decide)]
        refine ⟨fun k q h => ?_, fun _ _ _ _ h => (by cases h)⟩
        cases h
        refine ⟨s3, ?_, v2, nm3 _ _ v1, by decide, by decide⟩
        rw [v1, zbi_e]
        exact (ifz 3 _ _ (by decide) (by decide)).trans (e38 3 s3 (by decide) (by decide))
      | true =>
        rw [if_pos rfl]
        obtain ⟨s3, v1, v2, v3⟩ := u3 hk
        have f3 := fr3 0 s3
        have hT3 : zRow 1 s3 T := zRow_fr (f3 1 v1 (by rfl)) (f3 2 v1 (by rfl)) hT1
        have p40' : zPt s3 40 b' (5 + c + 4 + 5) (5 + c + 4 + 5 + c') := by unfold zPt; rw [f3 40 v1 (by rfl)]; exact p40
        have n3 := nm3 _ _ v1
        rw [v1, zbi_e, if_neg (show ¬ ¬ (0 : Int32) = 0 from fun q => q rfl)]
        obtain ⟨w1, w2⟩ := zs34 (a := 40) (Or.inr rfl) hT3 hL p40' hl2 (by omega) hT2 hx2
        have fr4 : ∀ v s4 q, zf34 28 40 1 s3 = some (v, s4) → zW34 28 40 1 q = false → s4 q = s3 q := fun v s4 q h hq => zf34_fr (q := q) hq h
        have nm4 : ∀ v s4, zf34 28 40 1 s3 = some (v, s4) → zNm s4 := fun v s4 h => ⟨by rw [fr4 v s4 37 h (by rfl)]; exact n3.1, by rw [fr4 v s4 40 h (by rfl)]; exact n3.2⟩
        cases hu' : zup T b' (5 + c + 4 + 5 + c') (5 + c + 4 + 5 + c') (5 + c + 4 + 5) [] with
        | inl f =>
          obtain ⟨s4, x1, x2⟩ := w1 f hu'
          refine ⟨fun k q h => ?_, fun _ _ _ _ h => (by cases h)⟩
          cases h
          refine ⟨s4, ?_, x2, nm4 _ _ x1, by decide, by decide⟩
          rw [x1, zbi_e]
          exact e38 2 s4 (by decide) (by decide)
        | inr C' =>
          obtain ⟨lC', lC2', w3, w4⟩ := w2 C' hu'
          simp only
          cases hk' : zcO T (5 + c + 4 + 5 + c') (zcr 65535 C') with
          | false =>
            obtain ⟨s4, x1, x2⟩ := w4 hk'
            rw [if_neg (by decide)]
            refine ⟨fun k q h => ?_, fun _ _ _ _ h => (by cases h)⟩
            cases h
            refine ⟨s4, ?_, x2, nm4 _ _ x1, by decide, by decide⟩
            rw [x1, zbi_e]
            exact e38 3 s4 (by decide) (by decide)
          | true =>
            rw [if_pos rfl]
            obtain ⟨s4, x1, x2, x3⟩ := w3 hk'
            have f4 := fr4 0 s4
            have n4 := nm4 _ _ x1
            have r38 : zRow 38 s4 C := zRow_fr (f4 38 x1 (by rfl)) (f4 39 x1 (by rfl)) v3
            rw [x1, zbi_e]
            have e1 : zf26_38 28 1 0 s4 = zbi (zf40 43 s4) fun v1 s2 => zbi (zf33 28 v1 s2) fun v3 s4 => if ¬ v3 = 0 then some (4, s4) else zbi (zf40 52 s4) fun v5 s6 => zbi (zf52 v5 s6) fun v7 s8 => zbi (zf33 28 v7 s8) fun v9 s10 => if v9 = 0 then zrest s10 else some (4, s10) := by
              unfold zf26_38
              rw [if_pos rfl]
              rfl
            rw [e1]
            obtain ⟨y1, y2⟩ := zs40 (a := 43) (Or.inl ⟨rfl, rfl⟩) r38 lC
            have fr5 : ∀ v s5 q, zf40 43 s4 = some (v, s5) → zW40 43 q = false → s5 q = s4 q := fun v s5 q h hq => zf40_fr (q := q) hq h
            cases hp1 : zpar C 400 0 [] [] [] with
            | inl f =>
              obtain ⟨s5, z1⟩ := y1 f hp1
              have hf := zpar_b _ _ _ _ _ _ (Nat.zero_le _) hp1
              refine ⟨fun k q h => ?_, fun _ _ _ _ h => (by cases h)⟩
              cases h
              refine ⟨zw s5 28 1 (nI f), ?_, zw_s, ⟨by rw [zw_ne (by decide), fr5 _ s5 37 z1 (by rfl)]; exact n4.1, by rw [zw_ne (by decide), fr5 _ s5 40 z1 (by rfl)]; exact n4.2⟩, by decide, by decide⟩
              rw [z1, zbi_e, z33, zbi_e, if_neg (ne f (by omega))]
              exact if_pos (by decide)
            | inr X =>
              obtain ⟨s5, z1, z2⟩ := y2 X.1 X.2 hp1
              have f5 := fr5 (-1) s5
              obtain ⟨s6, hs6⟩ : ∃ s6, s6 = zw s5 28 1 (-1) := ⟨_, rfl⟩
              have f6 : ∀ q, q ≠ 28 → s6 q = s5 q := fun q hq => by rw [hs6, zw_ne hq]
              have r38' : zRow 38 s6 C := zRow_fr (by rw [f6 38 (by decide), f5 38 z1 (by rfl)]) (by rw [show zrf 38 0 = 39 from rfl, f6 39 (by decide), f5 39 z1 (by rfl)]) r38
              have r41' : zRow 41 s6 C' := zRow_fr (by rw [f6 41 (by decide), f5 41 z1 (by rfl)]) (by rw [show zrf 41 0 = 42 from rfl, f6 42 (by decide), f5 42 z1 (by rfl)]) x3
              have n6 : zNm s6 := ⟨by rw [f6 37 (by decide), f5 37 z1 (by rfl)]; exact n4.1, by rw [f6 40 (by decide), f5 40 z1 (by rfl)]; exact n4.2⟩
              rw [z1, zbi_e, z33, zbi_e, if_pos rfl, ← hs6, if_neg (show ¬ ¬ (0 : Int32) = 0 from fun q => q rfl)]
              obtain ⟨y3, y4⟩ := zs40 (a := 52) (Or.inr ⟨rfl, rfl⟩) r41' lC'
              have fr7 : ∀ v s7 q, zf40 52 s6 = some (v, s7) → zW40 52 q = false → s7 q = s6 q := fun v s7 q h hq => zf40_fr (q := q) hq h
              have e52 : ∀ (f : Nat) (t : zS), f < 5000 → zf52 (nI f) t = some (nI (1000 + f), t) := by
                intro f t hf
                unfold zf52
                rw [if_pos (show ¬ nI f = -1 from ne f hf), zn_lit 1000, zn_add]
              simp only
              cases hp2 : zpar C' 400 0 [] [] [] with
              | inl f =>
                obtain ⟨s7, q1⟩ := y3 f hp2
                have hf := zpar_b _ _ _ _ _ _ (Nat.zero_le _) hp2
                refine ⟨fun k q h => ?_, fun _ _ _ _ h => (by cases h)⟩
                cases h
                refine ⟨zw s7 28 1 (nI (1000 + f)), ?_, zw_s, ⟨by rw [zw_ne (by decide), fr7 _ s7 37 q1 (by rfl)]; exact n6.1, by rw [zw_ne (by decide), fr7 _ s7 40 q1 (by rfl)]; exact n6.2⟩, by decide, by decide⟩
                rw [q1, zbi_e, e52 f s7 (by omega), zbi_e, z33, zbi_e, if_neg (ne (1000 + f) (by omega))]
                exact if_neg (by decide)
              | inr X' =>
                obtain ⟨s7, q1, q2⟩ := y4 X'.1 X'.2 hp2
                have f7 := fr7 (-1) s7
                refine ⟨fun k q h => (by cases h), fun C1 C1' X1 X1' h => ?_⟩
                cases h
                obtain ⟨s8, hs8⟩ : ∃ s8, s8 = zw s7 28 1 (-1) := ⟨_, rfl⟩
                have f8 : ∀ q, q ≠ 28 → s8 q = s7 q := fun q hq => by rw [hs8, zw_ne hq]
                have e52b : zf52 (-1) s7 = some (-1, s7) := rfl
                have pz : ∀ (a : Nat) (t t' : zS) (E : List zE) (O : List (Nat × Nat)), (∀ q, a ≤ q → q ≤ a + 8 → t' q = t q) → zPz a t E O → zPz a t' E O := by
                  intro a t t' E O hq h
                  refine ⟨zEl_fr (by rw [hq a (by omega) (by omega)]) (by rw [hq a (by omega) (by omega)]) (fun q h1 h2 => hq q (by omega) (by omega)) h.1, h.2.1, fun j hj => ?_⟩
                  rw [hq (a + 8) (by omega) (by omega)]
                  exact h.2.2 j hj
                refine ⟨s8, ?_, ⟨by rw [f8 37 (by decide), f7 37 q1 (by rfl)]; exact n6.1, by rw [f8 40 (by decide), f7 40 q1 (by rfl)]; exact n6.2⟩, ?_, ?_, ?_, ?_, lC, lC'⟩
                · rw [q1, zbi_e, e52b, zbi_e, z33, zbi_e, if_pos rfl, ← hs8]
                  exact if_pos rfl
                · exact zRow_fr (by rw [f8 38 (by decide), f7 38 q1 (by rfl)]) (by rw [show zrf 38 0 = 39 from rfl, f8 39 (by decide), f7 39 q1 (by rfl)]) r38'
                · exact zRow_fr (by rw [f8 41 (by decide), f7 41 q1 (by rfl)]) (by rw [show zrf 41 0 = 42 from rfl, f8 42 (by decide), f7 42 q1 (by rfl)]) r41'
                · refine pz 43 s5 s8 X.1 X.2 (fun q h1 h2 => ?_) z2
                  rw [f8 q (by omega), f7 q q1 ?_, f6 q (by omega)]
                  have h3 : q = 43 ∨ q = 44 ∨ q = 45 ∨ q = 46 ∨ q = 47 ∨ q = 48 ∨ q = 49 ∨ q = 50 ∨ q = 51 := by omega
                  rcases h3 with rfl | rfl | rfl | rfl | rfl | rfl | rfl | rfl | rfl <;> rfl
                · refine pz 52 s7 s8 X'.1 X'.2 (fun q h1 h2 => f8 q (by omega)) q2

/-! read: the faults and the plain form as one, and the class's findFault. -/
set_option maxRecDepth 100000
set_option linter.unusedVariables false
theorem zpar_srt {C : List Int32} (hl : C.length ≤ 300) : ∀ n a E st O F O', O.Pairwise (fun x y => x.1 < y.1) → (∀ q ∈ O, q.1 < a) → zpar C n a E st O = .inr (F, O') → O'.Pairwise (fun x y => x.1 < y.1) := by
  intro n
  induction n with
  | zero => intro a E st O F O' _ _ h; cases st <;> cases h
  | succ n ih =>
    intro a E st O F O' hp hq h
    cases st with
    | nil =>
      rw [zpar] at h
      split at h
      · split at h
        · next g =>
          cases hb : zbeg C 0 0 a with
          | inl p => rw [hb] at h; cases h
          | inr x =>
            obtain ⟨cl, b, A⟩ := x
            rw [hb] at h
            have := (zbeg_ok (pa := -1) hl g hb).2.1
            exact ih b _ _ O F O' hp (fun q w => by have := hq q w; omega) h
        · cases h
      · split at h
        · cases h; exact hp
        · cases h
    | cons e st =>
      rw [zpar] at h
      split at h
      · next g =>
        split at h
        · split at h
          · split at h
            · exact ih (a + 4) E st O F O' hp (fun q w => by have := hq q w; omega) h
            · cases h
          · cases h
        · cases hb : zbeg C E.length (st.length + 1) a with
          | inl p => rw [hb] at h; cases h
          | inr x =>
            obtain ⟨cl, b, A⟩ := x
            rw [hb] at h
            have := (zbeg_ok (pa := -1) hl g hb).2.1
            exact ih b _ _ O F O' hp (fun q w => by have := hq q w; omega) h
      · split at h
        · cases h
        · refine ih (a + 1) E (e :: st) (O ++ [(a, e)]) F O' ?_ (fun q w => ?_) h
          · rw [List.pairwise_append]
            refine ⟨hp, List.pairwise_singleton _ _, fun x hx y hy => ?_⟩
            rw [List.mem_singleton.mp hy]
            exact hq x hx
          · rcases List.mem_append.mp w with w | w
            · have := hq q w; omega
            · rw [List.mem_singleton.mp w]; show a < a + 1; omega
theorem zoO_i {p o : Nat} : ∀ {O : List (Nat × Nat)}, O.Pairwise (fun x y => x.1 < y.1) → (p, o) ∈ O → zoO O p = some o := by
  intro O
  induction O with
  | nil => intro _ h; cases h
  | cons q O ih =>
    intro hp h
    obtain ⟨h1, h2⟩ := List.pairwise_cons.mp hp
    rcases List.mem_cons.mp h with h | h
    · subst h
      unfold zoO
      rw [List.find?_cons_of_pos (by simp)]
    · have := h1 _ h
      dsimp only at this
      unfold zoO
      rw [List.find?_cons_of_neg (by simp; omega)]
      exact ih h2 h
theorem zff_n {C : List Int32} {E : List zE} {O : List (Nat × Nat)} {out : Int32} : ∀ m e, zff C E O out m e = none → ∀ x, e ≤ x → x < e + m → zfo C E O out x = none := by
  intro m
  induction m with
  | zero => intro e _ x h1 h2; omega
  | succ m ih =>
    intro e h x h1 h2
    rw [zff] at h
    cases hf : zfo C E O out e with
    | some f => rw [hf] at h; cases h
    | none =>
      rw [hf] at h
      by_cases g : x = e
      · rw [g]; exact hf
      · exact ih (e + 1) h x (by omega) (by omega)
theorem zff_s {C : List Int32} {E : List zE} {O : List (Nat × Nat)} {out : Int32} : ∀ m e f, zff C E O out m e = some f → ∃ x, e ≤ x ∧ x < e + m ∧ zfo C E O out x = some f := by
  intro m
  induction m with
  | zero => intro e f h; cases h
  | succ m ih =>
    intro e f h
    rw [zff] at h
    cases hf : zfo C E O out e with
    | some g => rw [hf] at h; cases h; exact ⟨e, Nat.le_refl _, by omega, hf⟩
    | none =>
      rw [hf] at h
      obtain ⟨x, a, b, c⟩ := ih (e + 1) f h
      exact ⟨x, by omega, by omega, c⟩
theorem zfl_n {O : List (Nat × Nat)} {e : Nat} : ∀ m i, zfl O e m i = none → ∀ j, i ≤ j → j < i + m → zow O j ≠ nI e := by
  intro m
  induction m with
  | zero => intro i _ j h1 h2; omega
  | succ m ih =>
    intro i h j h1 h2
    rw [zfl] at h
    split at h
    · cases h
    · next g =>
      by_cases q : j = i
      · rw [q]; exact g
      · exact ih (i + 1) h j (by omega) (by omega)
theorem zfo_n {C : List Int32} {E : List zE} {O : List (Nat × Nat)} {out : Int32} {e : Nat} (h : zfo C E O out e = none) : zst E out e = true ∧ zga C (zkd E e) (E.getD e (0, 0, 0, [])).2.2.2 ∧ (zkd E e = 115 → (110 : Int32) ∈ (E.getD e (0, 0, 0, [])).2.2.2.map (fun q => C.getD q.1 (-1))) ∧ (zkd E e = 112 ∨ zkd E e = 120 ∨ zfl O e C.length 0 = none) ∧ zlk E e = false := by
  unfold zfo at h
  split at h
  · next g1 =>
    cases hb : zbd C (zkd E e) (E.getD e (0, 0, 0, [])).2.2.2 with
    | some f => rw [hb] at h; cases h
    | none =>
      rw [hb] at h
      dsimp only at h
      split at h
      · cases h
      · next g2 =>
        refine ⟨g1, zbd_ga _ hb, fun q => Classical.byContradiction fun w => g2 ⟨q, w⟩, ?_, ?_⟩
        · by_cases q : zkd E e = 112 ∨ zkd E e = 120
          · rcases q with q | q
            · exact Or.inl q
            · exact Or.inr (Or.inl q)
          · rw [if_neg q] at h
            cases hz : zfl O e C.length 0 with
            | some j => rw [hz] at h; cases h
            | none => exact Or.inr (Or.inr rfl)
        · split at h
          · cases h
          · split at h
            · cases h
            · next w => simpa using w
  · cases h
/-- what is good about elements without faults -/
def zGe (C : List Int32) (E : List zE) (C' : List Int32) (F : List zE) (O' : List (Nat × Nat)) : Prop :=
  (zok C E ∧ zEb E ∧ zgA C E ∧ E ≠ [] ∧ zkd E 0 = 116 ∧ (∀ e, 1 ≤ e → e < E.length → ∃ n, znm C E 110 e = some n) ∧ C.length ≤ 300 ∧ ∀ e, e < E.length → (E.getD e (0, 0, 0, [])).2.1 < C.length) ∧
  (zok C' F ∧ zEb F ∧ zgA C' F ∧ F ≠ [] ∧ zKp F ∧ zinc F ∧ zoo C' F O' ∧ (∀ q ∈ O', zkd F q.2 = 112 ∨ zkd F q.2 = 120) ∧ zBo C' F O' ∧ C'.length ≤ 300 ∧ (∀ e, e < F.length → (F.getD e (0, 0, 0, [])).2.1 < C'.length) ∧ (∀ e, e < F.length → C'.getD (F.getD e (0, 0, 0, [])).2.1 (-1) = 60) ∧ ∀ e, e < F.length → zlk F e = false)
theorem zok_bg {C : List Int32} {E : List zE} (h : zok C E) {e : Nat} (he : e < E.length) : (E.getD e (0, 0, 0, [])).2.1 < C.length ∧ C.getD (E.getD e (0, 0, 0, [])).2.1 (-1) = 60 := by
  have h1 := (h e he).1.2.2.1
  refine ⟨Nat.lt_of_not_le (fun q => ?_), h1⟩
  rw [zgetD_out q] at h1
  exact absurd h1 (by decide)
theorem zkO_all {p : Nat} {C : List Int32} {E : List zE} {O : List (Nat × Nat)} (hp : p < 2) (h30 : E.length ≤ 30) (hok : zok C E) (hn : ∀ e, e < E.length → zst E (if p = 0 then 116 else 100) e = true) : ∀ e, e < E.length → zkO p (zkd E e) := by
  intro e
  induction e using Nat.strongRecOn with
  | ind e ih =>
    intro he
    exact zst_k hp he h30 hok (fun j hj => ih j hj (by omega)) (hn e he)
theorem zGe_of {C : List Int32} {E : List zE} {O : List (Nat × Nat)} {C' : List Int32} {F : List zE} {O' : List (Nat × Nat)} (hl : C.length ≤ 300) (hl' : C'.length ≤ 300) (hb : zEb E) (hb' : zEb F) (hp : zpar C 400 0 [] [] [] = .inr (E, O)) (hp' : zpar C' 400 0 [] [] [] = .inr (F, O')) (hf : zff C E O 116 E.length 0 = none) (hf' : zff C' F O' 100 F.length 0 = none) : zGe C E C' F O' := by
  obtain ⟨a1, a2, a3, a4⟩ := zpar_ok hl 400 0 [] [] [] E O (fun e he => absurd he (Nat.not_lt_zero _)) (fun e he => absurd he List.not_mem_nil) (fun _ => rfl) (fun q hq => absurd hq List.not_mem_nil) (fun e e' _ he => absurd he (Nat.not_lt_zero _)) (fun e he => absurd he (Nat.not_lt_zero _)) hp
  obtain ⟨b1, b2, b3, b4⟩ := zpar_ok hl' 400 0 [] [] [] F O' (fun e he => absurd he (Nat.not_lt_zero _)) (fun e he => absurd he List.not_mem_nil) (fun _ => rfl) (fun q hq => absurd hq List.not_mem_nil) (fun e e' _ he => absurd he (Nat.not_lt_zero _)) (fun e he => absurd he (Nat.not_lt_zero _)) hp'
  have n1 : ∀ e, e < E.length → _ := fun e he => zfo_n (zff_n _ _ hf e (Nat.zero_le _) (by omega))
  have n2 : ∀ e, e < F.length → _ := fun e he => zfo_n (zff_n _ _ hf' e (Nat.zero_le _) (by omega))
  have k1 := zkO_all (p := 0) (O := O) (by decide) hb.1 a1 (fun e he => (n1 e he).1)
  have k2 := zkO_all (p := 1) (O := O') (by decide) hb'.1 b1 (fun e he => (n2 e he).1)
  have hK : zKp F := zKp_of b1 hb'.1 (fun e he => (n2 e he).1) k2
  have srt := zpar_srt hl' 400 0 [] [] [] F O' List.Pairwise.nil (fun q hq => absurd hq List.not_mem_nil) hp'
  have hO : ∀ q ∈ O', zkd F q.2 = 112 ∨ zkd F q.2 = 120 := by
    intro q hq
    obtain ⟨c1, c2, c3⟩ := b2 q hq
    rcases (n2 q.2 c2).2.2.2.1 with w | w | w
    · exact Or.inl w
    · exact Or.inr w
    · exfalso
      have h1 := zfl_n _ _ w q.1 (Nat.zero_le _) (by omega)
      rw [zow_O, zoO_i srt (show (q.1, q.2) ∈ O' from hq)] at h1
      exact h1 rfl
  refine ⟨⟨a1, hb, fun e he => (n1 e he).2.1, a4, ?_, ?_, hl, fun e he => (zok_bg a1 he).1⟩, b1, hb', fun e he => (n2 e he).2.1, b4, hK, b3, b2, hO, zBo_of hl' hK hb'.1 hO hp', hl', fun e he => (zok_bg b1 he).1, fun e he => (zok_bg b1 he).2, fun e he => (n2 e he).2.2.2.2⟩
  · have h0 : 0 < E.length := List.length_pos_iff.mpr a4
    have h1 := (n1 0 h0).1
    rcases (a1 0 h0).2 with w | ⟨k, w, _⟩
    · unfold zst at h1
      rw [if_pos w.2] at h1
      simpa using h1
    · omega
  · intro e he1 he2
    have h1 := (n1 e he2).1
    rcases (a1 e he2).2 with w | ⟨k, w1, w2⟩
    · omega
    · have h30 := hb.1
      unfold zst at h1
      rw [w2, if_neg (zn_nm (by omega)), zn_cl (by omega)] at h1
      have hk : zkd E e = 115 := by
        rcases (k1 k (by omega)).1 rfl with q | q
        · rw [q] at h1
          unfold zmst at h1
          simpa using h1
        · rw [q] at h1
          unfold zmst at h1
          simp at h1
      have h2 := (n1 e he2).2.2.1 hk
      have h3 : zvp C 110 (E.getD e (0, 0, 0, [])).2.2.2 ≠ none := fun q => (zvp_n _).mp q h2
      rw [zvp_q] at h3
      unfold znm zcn
      cases hq : zfq C 110 (E.getD e (0, 0, 0, [])).2.2.2 with
      | none => rw [hq] at h3; exact absurd rfl h3
      | some q => exact ⟨_, rfl⟩
/-- what read finds: a fault and its place, or the plain form -/
def zrd (T : List Int32) : (Nat × Nat) ⊕ List zN :=
  match ztf T with
  | .inl f => .inl f
  | .inr (C, C', X, X') => match zff C X.1 X.2 116 X.1.length 0 with
    | some f => .inl (5, f)
    | none => match zff C' X'.1 X'.2 100 X'.1.length 0 with
      | some f => .inl (5, 1000 + f)
      | none => match zf6 C X.1 C' X'.1 with
        | .inl f => .inl (6, f)
        | .inr S => if (zbl (fun e => zpk (zLo C X.1 S C' X'.1 e)) C' X'.1 X'.2 C'.length 0 ([], fun _ => none)).1.length ≤ 40 then .inr (zbl (fun e => zpk (zLo C X.1 S C' X'.1 e)) C' X'.1 X'.2 C'.length 0 ([], fun _ => none)).1 else .inl (7, 0)
theorem ztf_p {T C C' : List Int32} {X X' : List zE × List (Nat × Nat)} (h : ztf T = .inr (C, C', X, X')) : zpar C 400 0 [] [] [] = .inr X ∧ zpar C' 400 0 [] [] [] = .inr X' := by
  unfold ztf at h
  split at h
  · cases h
  · split at h
    · cases h
    · split at h
      · split at h
        · cases h
        · split at h
          · split at h
            · cases h
            · next g1 =>
              split at h
              · cases h
              · next g2 => cases h; exact ⟨g1, g2⟩
          · cases h
      · cases h
theorem zgb {C : List Int32} {E : List zE} (h : ∀ e, e < E.length → (E.getD e (0, 0, 0, [])).2.1 < C.length) (hl : C.length ≤ 300) (e : Nat) : (E.getD e (0, 0, 0, [])).2.1 < 1000 := by
  by_cases q : e < E.length
  · have := h e q; omega
  · rw [List.getD_eq_getElem?_getD, List.getElem?_eq_none (by omega)]
    show 0 < 1000
    decide
theorem zf6_b {C : List Int32} {E : List zE} {C' : List Int32} {F : List zE} {f : Nat} (h : ∀ e, (E.getD e (0, 0, 0, [])).2.1 < 1000) (h' : ∀ e, (F.getD e (0, 0, 0, [])).2.1 < 1000) (hf : zf6 C E C' F = .inl f) : f < 2000 := by
  unfold zf6 at hf
  split at hf
  · next e _ => cases hf; have := h e; omega
  · split at hf
    · next e _ => cases hf; have := h e; omega
    · split at hf
      · next e _ => cases hf; have := h e; omega
      · split at hf
        · next e _ => cases hf; have := h' e; omega
        · cases hf
/-- findFault of the class -/
theorem zs26 {s : zS} {T : List Int32} (hT : zRow 1 s T) (hL : zLt T) (hT2 : T.length ≤ 480) (hN : zNm s) :
    (∀ k p, zrd T = .inl (k, p) → ∃ s', zf26 28 1 s = some (nI k, s') ∧ s' 28 1 = nI p ∧ zNm s' ∧ 1 ≤ k ∧ k ≤ 7) ∧
    (∀ D, zrd T = .inr D → ∃ s', zf26 28 1 s = some (0, s') ∧ s' 28 1 = -1 ∧ zNm s' ∧ zPc 29 s' D) ∧
    (∀ C C' X X', ztf T = .inr (C, C', X, X') → zEb X.1 ∧ zEb X'.1 ∧ C.length ≤ 300 ∧ C'.length ≤ 300 ∧ zLt C') := by
  obtain ⟨a1, a2⟩ := zs26a hT hL hT2 hN
  unfold zrd
  cases ht : ztf T with
  | inl f =>
    refine ⟨fun k p h => ?_, fun D h => (by cases h), fun _ _ _ _ h => (by cases h)⟩
    cases h
    obtain ⟨s', b1, b2, b3, b4, b5⟩ := a1 k p ht
    exact ⟨s', b1, b2, b3, b4, by omega⟩
  | inr R =>
    obtain ⟨C, C', ⟨E, O⟩, ⟨F, O'⟩⟩ := R
    obtain ⟨s1, b1, b2, b3, b4, b5, b6, b7, b8⟩ := a2 _ _ _ _ ht
    have hl : C.length ≤ 300 := b3.2.1
    have hl' : C'.length ≤ 300 := b4.2.1
    obtain ⟨hp, hp'⟩ := ztf_p ht
    obtain ⟨o1, o2, _, _⟩ := zpar_ok hl 400 0 [] [] [] E O (fun e he => absurd he (Nat.not_lt_zero _)) (fun e he => absurd he List.not_mem_nil) (fun _ => rfl) (fun q hq => absurd hq List.not_mem_nil) (fun e e' _ he => absurd he (Nat.not_lt_zero _)) (fun e he => absurd he (Nat.not_lt_zero _)) hp
    obtain ⟨p1, p2, _, _⟩ := zpar_ok hl' 400 0 [] [] [] F O' (fun e he => absurd he (Nat.not_lt_zero _)) (fun e he => absurd he List.not_mem_nil) (fun _ => rfl) (fun q hq => absurd hq List.not_mem_nil) (fun e e' _ he => absurd he (Nat.not_lt_zero _)) (fun e he => absurd he (Nat.not_lt_zero _)) hp'
    dsimp only at b5 b6 ⊢
    have fo : ∀ {C : List Int32} {E : List zE} {O : List (Nat × Nat)} {out : Int32} {f : Nat}, zEb E → zok C E → C.length ≤ 300 → zff C E O out E.length 0 = some f → f < 1000 := by
      intro C E O out f h1 h2 h3 h
      obtain ⟨x, _, x2, x3⟩ := zff_s _ _ _ h
      exact zfo_b h1 h2 (by omega) h3 x3
    have e53 := z53 (out := 116) (s := s1) (Or.inl ⟨rfl, rfl⟩) b3 b5 o1 o2
    have f28 : ∀ {x : Int32} {t : zS} (q : Nat), q ≠ 28 → zw t 28 1 x q = t q := fun q hq => zw_ne hq
    have nmf : ∀ {t u : zS}, zNm t → u 37 = t 37 → u 40 = t 40 → zNm u := fun h h1 h2 => ⟨by rw [h1]; exact h.1, by rw [h2]; exact h.2⟩
    suffices hm : (∀ k p, (match zff C E O 116 E.length 0 with
        | some f => (.inl (5, f) : (Nat × Nat) ⊕ List zN)
        | none => match zff C' F O' 100 F.length 0 with
          | some f => .inl (5, 1000 + f)
          | none => match zf6 C E C' F with
            | .inl f => .inl (6, f)
            | .inr S => if (zbl (fun e => zpk (zLo C E S C' F e)) C' F O' C'.length 0 ([], fun _ => none)).1.length ≤ 40 then .inr (zbl (fun e => zpk (zLo C E S C' F e)) C' F O' C'.length 0 ([], fun _ => none)).1 else .inl (7, 0)) = .inl (k, p) → ∃ s', zrest s1 = some (nI k, s') ∧ s' 28 1 = nI p ∧ zNm s' ∧ 1 ≤ k ∧ k ≤ 7) ∧
      (∀ D, (match zff C E O 116 E.length 0 with
        | some f => (.inl (5, f) : (Nat × Nat) ⊕ List zN)
        | none => match zff C' F O' 100 F.length 0 with
          | some f => .inl (5, 1000 + f)
          | none => match zf6 C E C' F with
            | .inl f => .inl (6, f)
            | .inr S => if (zbl (fun e => zpk (zLo C E S C' F e)) C' F O' C'.length 0 ([], fun _ => none)).1.length ≤ 40 then .inr (zbl (fun e => zpk (zLo C E S C' F e)) C' F O' C'.length 0 ([], fun _ => none)).1 else .inl (7, 0)) = .inr D → ∃ s', zrest s1 = some (0, s') ∧ s' 28 1 = -1 ∧ zNm s' ∧ zPc 29 s' D) by
      rw [b1]
      exact ⟨hm.1, hm.2, fun _ _ _ _ h => by cases h; exact ⟨b5.2.1, b6.2.1, hl, hl', b8⟩⟩
    unfold zrest
    rw [e53, zbi_e, z33, zbi_e]
    cases hf : zff C E O 116 E.length 0 with
    | some f =>
      have hf1 := fo b5.2.1 o1 hl hf
      dsimp only
      rw [show zoi (some f) = nI f from rfl, if_neg (show ¬ nI f = -1 from zn_nm (by omega)), if_pos (show ¬ (1 : Int32) = 0 by decide)]
      refine ⟨fun k p h => ?_, fun D h => (by cases h)⟩
      cases h
      exact ⟨_, rfl, zw_s, nmf b2 (f28 37 (by decide)) (f28 40 (by decide)), by decide, by decide⟩
    | none =>
      dsimp only
      rw [show zoi none = -1 from rfl, if_pos (show (-1 : Int32) = -1 from rfl), if_neg (show ¬ ¬ (0 : Int32) = 0 from fun q => q rfl)]
      obtain ⟨s2, hs2⟩ : ∃ s2, s2 = zw s1 28 1 (-1) := ⟨_, rfl⟩
      have f2 : ∀ q, q ≠ 28 → s2 q = s1 q := fun q hq => by rw [hs2, zw_ne hq]
      have c2 : zCs s2 C E O C' F O' := zCs_f (s := s1) ⟨b3, b4, b5, b6⟩ (fun q a b => f2 q (by omega))
      rw [← hs2]
      have e53' := z53 (out := 100) (s := s2) (Or.inr ⟨rfl, rfl⟩) c2.2.1 c2.2.2.2 p1 p2
      rw [e53', zbi_e]
      cases hf' : zff C' F O' 100 F.length 0 with
      | some f =>
        have hf1 := fo b6.2.1 p1 hl' hf'
        have e52 : zf52 (zoi (some f)) s2 = some (nI (1000 + f), s2) := by
          unfold zf52
          rw [show zoi (some f) = nI f from rfl, if_pos (show ¬ nI f = -1 from zn_nm (by omega)), zn_lit 1000, zn_add]
        dsimp only
        rw [e52, zbi_e, z33, zbi_e, if_neg (show ¬ nI (1000 + f) = -1 from zn_nm (by omega)), if_neg (show ¬ (1 : Int32) = 0 by decide)]
        refine ⟨fun k p h => ?_, fun D h => (by cases h)⟩
        cases h
        exact ⟨_, rfl, zw_s, nmf b2 (by rw [f28 37 (by decide), f2 37 (by decide)]) (by rw [f28 40 (by decide), f2 40 (by decide)]), by decide, by decide⟩
      | none =>
        have e52 : zf52 (zoi none) s2 = some (-1, s2) := by
          unfold zf52
          rw [show zoi none = -1 from rfl, if_neg (show ¬ ¬ (-1 : Int32) = -1 from fun q => q rfl)]
        dsimp only
        rw [e52, zbi_e, z33, zbi_e, if_pos (show (-1 : Int32) = -1 from rfl), if_pos (show (0 : Int32) = 0 from rfl)]
        obtain ⟨s3, hs3⟩ : ∃ s3, s3 = zw s2 28 1 (-1) := ⟨_, rfl⟩
        have f3 : ∀ q, q ≠ 28 → s3 q = s1 q := fun q hq => by rw [hs3, zw_ne hq, f2 q hq]
        have c3 : zCs s3 C E O C' F O' := zCs_f (s := s1) ⟨b3, b4, b5, b6⟩ (fun q a b => f3 q (by omega))
        rw [← hs3]
        obtain ⟨g1, g2⟩ := zGe_of hl hl' b5.2.1 b6.2.1 hp hp' hf hf'
        obtain ⟨g11, g12, g13, g14, g15, g16, g17, g18⟩ := g1
        obtain ⟨g21, g22, g23, g24, g25, g26, g27, g28, g29, g210, g211, g212, g213⟩ := g2
        obtain ⟨s4, d1, d2, d3⟩ := z61 c3 g13 g23 g14
        have c4 : zCs s4 C E O C' F O' := zCs_f c3 (fun q a b => d1 q (by omega))
        cases h6 : zf6 C E C' F with
        | inl f =>
          have hf1 := zf6_b (zgb g18 g17) (zgb g211 g210) h6
          dsimp only
          rw [d2 f h6, zbi_e, z33, zbi_e, if_neg (show ¬ nI f = -1 from zn_nm (by omega)), if_neg (show ¬ (1 : Int32) = 0 by decide)]
          refine ⟨fun k p h => ?_, fun D h => (by cases h)⟩
          cases h
          exact ⟨_, rfl, zw_s, nmf b2 (by rw [f28 37 (by decide), d1 37 (by decide), f3 37 (by decide)]) (by rw [f28 40 (by decide), d1 40 (by decide), f3 40 (by decide)]), by decide, by decide⟩
        | inr S =>
          obtain ⟨d4, d5, d6⟩ := d3 S h6
          dsimp only
          rw [d4, zbi_e, z33, zbi_e, if_pos (show (-1 : Int32) = -1 from rfl), if_pos (show (0 : Int32) = 0 from rfl)]
          obtain ⟨s5, hs5⟩ : ∃ s5, s5 = zw s4 28 1 (-1) := ⟨_, rfl⟩
          have f5 : ∀ q, q ≠ 28 → s5 q = s4 q := fun q hq => by rw [hs5, zw_ne hq]
          have c5 : zCs s5 C E O C' F O' := zCs_f c4 (fun q a b => f5 q (by omega))
          have t5 : zSt s5 S := fun n hn => by rw [f5 62 (by decide)]; exact d5 n hn
          rw [← hs5]
          obtain ⟨s6, h1, h2, h3⟩ := z67 c5 g13 t5 d6
          have c6 : zCs s6 C E O C' F O' := zCs_f c5 (fun q a b => h2 q (by omega))
          obtain ⟨s7, i1, i2, i3⟩ := z70 c6 h3 g210 g13 g23 d6 g25 g26 g27 g28 (fun q hq => (g29.1 q hq).1) (fun e he => by have := g211 e he; omega)
          have nm7 : ∀ x, zNm (zw s7 28 1 x) := fun x => nmf b2 (by rw [f28 37 (by decide), i3 37 (by omega), h2 37 (by omega), f5 37 (by decide), d1 37 (by decide), f3 37 (by decide)]) (by rw [f28 40 (by decide), i3 40 (by omega), h2 40 (by omega), f5 40 (by decide), d1 40 (by decide), f3 40 (by decide)])
          rw [h1, zbv_e]
          by_cases g40 : (zbl (fun e => zpk (zLo C E S C' F e)) C' F O' C'.length 0 ([], fun _ => none)).1.length ≤ 40
          · obtain ⟨j1, j2⟩ := i1 g40
            rw [if_pos g40, j1, zbi_e, if_neg (show ¬ (1 : Int32) = 0 by decide)]
            refine ⟨fun k p h => (by cases h), fun D h => ?_⟩
            cases h
            refine ⟨zw s7 28 1 (-1), ?_, zw_s, nm7 _, zPc_f zQ29 j2 (fun q a b => zw_ne (by omega))⟩
            unfold zf26_154
            rw [z33, zbi_e, if_pos (show (-1 : Int32) = -1 from rfl), if_pos (show (0 : Int32) = 0 from rfl)]
          · rw [if_neg g40, i2 g40, zbi_e, if_pos (show (0 : Int32) = 0 from rfl)]
            refine ⟨fun k p h => ?_, fun D h => (by cases h)⟩
            cases h
            refine ⟨zw s7 28 1 0, ?_, zw_s, nm7 _, by decide, by decide⟩
            unfold zf26_154
            rw [z33, zbi_e, if_neg (show ¬ (0 : Int32) = -1 by decide), if_neg (show ¬ (1 : Int32) = 0 by decide)]
            rfl

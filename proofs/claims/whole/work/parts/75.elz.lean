/-! read, the elements on the class's side: all of them. -/
set_option maxRecDepth 100000
set_option linter.unusedVariables false
/-- whose letter stands at j -/
def zow (O : List (Nat × Nat)) (j : Nat) : Int32 := match O.find? (fun q => q.1 == j) with
  | some q => nI q.2
  | none => -1
theorem zow_app {O : List (Nat × Nat)} {p e j : Nat} (h : ∀ q ∈ O, q.1 < p) : zow (O ++ [(p, e)]) j = if j = p then nI e else zow O j := by
  unfold zow
  rw [List.find?_append]
  by_cases g : j = p
  · subst g
    have e1 : O.find? (fun q => q.1 == j) = none := by
      rw [List.find?_eq_none]
      intro q hq
      have := h q hq
      simp
      omega
    rw [e1, if_pos rfl]
    simp
  · rw [if_neg g]
    have e2 : ([(p, e)] : List (Nat × Nat)).find? (fun q => q.1 == j) = none := by
      rw [List.find?_eq_none]
      intro q hq
      rw [List.mem_singleton.mp hq]
      simp
      omega
    rw [e2, Option.or_none]
def ztop (st : List Nat) : Int32 := match st with
  | [] => -1
  | e :: _ => nI e
/-- the open elements: each in the next -/
def zStk (E : List zE) : List Nat → Prop
  | [] => True
  | e :: st => e < E.length ∧ (E.getD e (0, 0, 0, [])).2.2.1 = ztop st ∧ zStk E st
theorem zStk_app {E : List zE} {q : zE} : ∀ st, zStk E st → zStk (E ++ [q]) st := by
  intro st
  induction st with
  | nil => intro _; exact trivial
  | cons e st ih =>
    intro h
    obtain ⟨h1, h2, h3⟩ := h
    exact ⟨by rw [List.length_append]; omega, by rw [zgetE_l h1]; exact h2, ih h3⟩
theorem zs50 {a r p d e : Nat} {s : zS} {C : List Int32} {E : List zE} {st : List Nat} (hB : zB a r) (hC : zRow r s C) (hE : zEl a s E) (hb : zEb E) (hp : s a 11 = nI p) (hpl : p < 1000) (hd : s a 13 = nI (d + 1)) (ho : s a 12 = nI e) (hst : zStk E (e :: st)) :
    (C.getD (p + 2) (-1) ≠ zkd E e → ∃ s', zf50 a s = some (0, s') ∧ s' a 11 = nI (p + 2)) ∧
    (C.getD (p + 2) (-1) = zkd E e → C.getD (p + 3) (-1) ≠ 62 → ∃ s', zf50 a s = some (0, s') ∧ s' a 11 = nI (p + 3)) ∧
    (C.getD (p + 2) (-1) = zkd E e → C.getD (p + 3) (-1) = 62 → ∃ s', zf50 a s = some (1, s') ∧ s' a 11 = nI (p + 4) ∧ s' a 12 = ztop st ∧ s' a 13 = nI d ∧ (∀ f, f ≠ 11 → f ≠ 12 → f ≠ 13 → s' a f = s a f) ∧ ∀ q, q ≠ a → s' q = s q) := by
  obtain ⟨b0, b1, b2, b3, b4, b5, b6, b7, b8, b9⟩ := zB_e hB
  obtain ⟨c1, c2, c3, c4, c5, c6, c7, c8, c9, c10⟩ := zB_c hB
  obtain ⟨t1, t2, t3⟩ := hst
  have h30 := hb.1
  have he := hE.2.2 e t1
  obtain ⟨s2, hs2⟩ : ∃ s2, s2 = zw s a 11 (nI (p + 2)) := ⟨_, rfl⟩
  have hC2 : zRow r s2 C := by rw [hs2]; exact zRow_w hC (Or.inl (by omega)) (by rw [b9]; omega)
  have p2 : s2 a 11 = nI (p + 2) := by rw [hs2, zw_s]
  have e0 : zf50 a s = zbi (zf47 a (zkd E e) s2) fun v5 s6 => if v5 = 0 then zrb 0 s6 else zbi (zf47 a 62 s6) fun v7 s8 => if ¬ v7 = 0 then zgf s8 a 12 fun v9 => zal s8 (a + 3) v9 fun v10 => zpf s8 a 12 v10 fun s11 => zgf s11 a 13 fun v12 => zpf s11 a 13 (v12 - 1) fun s13 => zrb 1 s13 else zrb 0 s8 := by
    unfold zf50
    simp only [zgf, zpf, hp]
    rw [zn_lit 2, zn_add, ← hs2]
    have v3 : s2 a 12 = nI e := by rw [hs2, zw_o (Or.inr (by decide)), ho]
    rw [v3, b1, zal_n (by omega)]
    have v4 : s2 (a + 1) e = zkd E e := by rw [hs2, zw_ne (by omega)]; exact he.1
    rw [v4, b3]
  rw [e0, zs47 hB hC2 p2 (by omega)]
  refine ⟨fun g1 => ?_, fun g1 g2 => ?_, fun g1 g2 => ?_⟩
  · rw [if_neg g1]
    exact ⟨s2, rfl, p2⟩
  · rw [if_pos g1]
    simp only [zbi]
    rw [if_neg (show ¬ (1 : Int32) = 0 by decide)]
    have hC6 : zRow r (zw s2 a 11 (nI (p + 2 + 1))) C := zRow_w hC2 (Or.inl (by omega)) (by rw [b9]; omega)
    rw [zs47 hB hC6 zw_s (by omega), if_neg g2]
    exact ⟨_, rfl, zw_s⟩
  · rw [if_pos g1]
    simp only [zbi]
    rw [if_neg (show ¬ (1 : Int32) = 0 by decide)]
    have hC6 : zRow r (zw s2 a 11 (nI (p + 2 + 1))) C := zRow_w hC2 (Or.inl (by omega)) (by rw [b9]; omega)
    rw [zs47 hB hC6 zw_s (by omega), if_pos g2]
    simp only [zgf, zpf]
    rw [if_pos (show ¬ (1 : Int32) = 0 by decide)]
    obtain ⟨s8, hs8⟩ : ∃ s8, s8 = zw (zw s2 a 11 (nI (p + 2 + 1))) a 11 (nI (p + 2 + 1 + 1)) := ⟨_, rfl⟩
    rw [← hs8]
    have k8 : ∀ f, f ≠ 11 → s8 a f = s a f := fun f hf => by rw [hs8, zw_o (Or.inr hf), zw_o (Or.inr hf), hs2, zw_o (Or.inr hf)]
    have f8 : ∀ q, q ≠ a → s8 q = s q := fun q hq => by rw [hs8, zw_ne hq, zw_ne hq, hs2, zw_ne hq]
    rw [k8 12 (by decide), ho, zal_n (by omega), f8 (a + 3) (by omega), he.2.2.1, t2, zw_o (Or.inr (by decide)), k8 13 (by decide), hd, zn_lit 1, zn_sub (by omega), Nat.add_sub_cancel]
    refine ⟨_, rfl, ?_, ?_, zw_s, ?_, ?_⟩
    · rw [zw_o (Or.inr (by decide)), zw_o (Or.inr (by decide)), hs8, zw_s]
    · rw [zw_o (Or.inr (by decide)), zw_s]
    · intro f h1 h2 h3
      rw [zw_o (Or.inr h3), zw_o (Or.inr h2), k8 f h1]
    · intro q hq
      rw [zw_ne hq, zw_ne hq, f8 q hq]
theorem z40_0 {a n t : Nat} {s : zS} (ht : t < 100000) : zf40_37 a (n + 1) 0 (nI t) s = some (s a 11, s) := by
  have e1 : zf40_162 a 0 s = some (s a 11, s) := rfl
  rw [zf40_37, e1]
  by_cases g : 300 ≤ t
  · rw [if_pos ((zn_geL (k := 300) (by omega) (by decide)).mpr g)]
  · rw [if_neg (fun q => g ((zn_geL (k := 300) (by omega) (by decide)).mp q)), if_pos rfl]
/-- the class's elements and letters are these -/
def zPz (a : Nat) (s : zS) (E : List zE) (O : List (Nat × Nat)) : Prop := zEl a s E ∧ zEb E ∧ ∀ j, j < 300 → s (a + 8) j = zow O j
theorem zs40_l {a r : Nat} {C : List Int32} (hB : zB a r) (hcl : C.length ≤ 300) (hneg : ∀ p, p < C.length → C.getD p (-1) ≠ -1) : ∀ n nf t p (s : zS) (E : List zE) (st : List Nat) (O : List (Nat × Nat)), n + 1 < nf → C.length < p + n → t ≤ p → p ≤ C.length → zRow r s C → zPz a s E O → s a 11 = nI p → s a 12 = ztop st → s a 13 = nI st.length → st.length ≤ 8 → zStk E st → (E = [] → st = []) → 5 * zfa E E.length ≤ p → (∀ q ∈ O, q.1 < p) →
    (∀ f, zpar C n p E st O = .inl f → ∃ s', zf40_37 a nf 1 (nI t) s = some (nI f, s')) ∧
    (∀ E' O', zpar C n p E st O = .inr (E', O') → ∃ s', zf40_37 a nf 1 (nI t) s = some (-1, s') ∧ zPz a s' E' O') := by
  obtain ⟨b0, b1, b2, b3, b4, b5, b6, b7, b8, b9⟩ := zB_e hB
  obtain ⟨c1, c2, c3, c4, c5, c6, c7, c8, c9, c10⟩ := zB_c hB
  intro n
  induction n with
  | zero => intro nf t p s E st O hn hf; omega
  | succ n ih =>
    intro nf t p s E st O hn hf ht hpl hC hP hp ho hd hs8 hst hES h5 hO
    obtain ⟨nf, rfl⟩ : ∃ n', nf = n' + 1 := ⟨nf - 1, by omega⟩
    obtain ⟨nf, rfl⟩ : ∃ n', nf = n' + 1 := ⟨nf - 1, by omega⟩
    have hz0 : ∀ (s' : zS) (f : Nat), s' a 11 = nI f → zf40_37 a (nf + 1) 0 (nI (t + 1)) s' = some (nI f, s') := fun s' f h => by rw [z40_0 (by omega), h]
    obtain ⟨hE, hb, hOw⟩ := hP
    have h30 := hb.1
    rw [zf40_37]
    by_cases gp : p = C.length
    · -- at the end of the content
      have e1 : (if (300 : Int32) ≤ nI t then zf40_162 a 1 s else if (1 : Int32) = 0 then zf40_162 a 1 s else zgf s a 11 fun v1 => zgf s (zrf a 0) 1 fun v2 => if v2 ≤ v1 then zf40_162 a 1 s else zgf s a 11 fun v3 => zbi (zf18 (zrf a 0) v3 s) fun v4 s5 => zgf s5 a 12 fun v6 => if ¬ v6 = (-1) then if ¬ v4 = 60 then zbi (zf51 a v4 s5) fun v7 s8 => zf40_37 a (nf + 1) v7 (nI t + 1) s8 else zgf s5 a 11 fun v9 => zbi (zf18 (zrf a 0) (v9 + 1) s5) fun v10 s11 => if ¬ v10 = 47 then zbi (zf42 a s11) fun v12 s13 => zf40_37 a (nf + 1) v12 (nI t + 1) s13 else zbi (zf50 a s11) fun v14 s15 => zf40_37 a (nf + 1) v14 (nI t + 1) s15 else zgf s5 a 6 fun v16 => if ¬ v16 = 0 then zf40_37 a (nf + 1) 0 (nI t + 1) s5 else if ¬ v4 = 60 then zf40_37 a (nf + 1) 0 (nI t + 1) s5 else zbi (zf42 a s5) fun v17 s18 => if v17 = 0 then zf40_37 a (nf + 1) 0 (nI t + 1) s18 else zf40_37 a (nf + 1) 1 (nI t + 1) s18) = zf40_162 a 1 s := by
        by_cases g : 300 ≤ t
        · rw [if_pos ((zn_geL (k := 300) (by omega) (by decide)).mpr g)]
        · rw [if_neg (fun q => g ((zn_geL (k := 300) (by omega) (by decide)).mp q)), if_neg (show ¬ (1 : Int32) = 0 by decide)]
          simp only [zgf]
          rw [b0, hC.1, hp, if_pos ((zn_le (by omega) (by omega)).mpr (by omega))]
      rw [e1]
      have e2 : zf40_162 a 1 s = if E.length = 0 then some (nI p, s) else if st = [] then some (-1, s) else some (nI p, s) := by
        unfold zf40_162
        rw [if_neg (show ¬ (1 : Int32) = 0 by decide)]
        simp only [zgf, hE.1, hp, ho]
        by_cases g1 : E.length = 0
        · rw [if_pos g1, if_pos ((zn_leL (k := 0) (by omega) (by decide)).mpr (by omega))]
        · rw [if_neg g1, if_neg (fun q => by have := (zn_leL (k := 0) (by omega) (by decide)).mp q; omega)]
          cases st with
          | nil => rw [if_neg (fun q => q rfl), if_pos rfl]
          | cons e st =>
            have := hst.1
            rw [if_pos (show ¬ ztop (e :: st) = -1 from zn_nm (by omega)), if_neg (fun q => by cases q)]
      have g0 : C.getD p (-1) = -1 := zgetD_out (by omega)
      rw [e2]
      cases st with
      | nil =>
        rw [zpar]
        by_cases g1 : E = []
        · rw [if_pos g1, if_neg (by rw [g0]; decide), if_pos (by rw [g1]; rfl)]
          exact ⟨fun f h => (by cases h; exact ⟨s, rfl⟩), fun _ _ h => (by cases h)⟩
        · have g2 : ¬ E.length = 0 := fun q => g1 (List.length_eq_zero_iff.mp q)
          rw [if_neg g1, if_pos gp, if_neg g2, if_pos rfl]
          exact ⟨fun f h => (by cases h), fun _ _ h => (by cases h; exact ⟨s, rfl, hE, hb, hOw⟩)⟩
      | cons e st =>
        have g2 : ¬ E.length = 0 := by have := hst.1; omega
        rw [zpar, if_neg (by rw [g0]; decide), if_pos (Or.inl g0), if_neg g2, if_neg (fun q => by cases q)]
        exact ⟨fun f h => (by cases h; exact ⟨s, rfl⟩), fun _ _ h => (by cases h)⟩
    · have hpl2 : p < C.length := by omega
      rw [if_neg (fun q => by have := (zn_geL (k := 300) (by omega) (by decide)).mp q; omega), if_neg (show ¬ (1 : Int32) = 0 by decide)]
      simp only [zgf]
      rw [b0, hC.1, hp, if_neg (fun q => by have := (zn_le (by omega) (by omega)).mp q; omega), z18 hC (by omega)]
      simp only [zbi]
      rw [ho, hp, zn_a1, zn_a1, z18 hC (by omega), hE.1]
      simp only
      cases st with
      | nil =>
        rw [if_neg (show ¬ ¬ ztop [] = -1 from fun q => q rfl), zpar]
        by_cases g1 : E = []
        · have g2 : E.length = 0 := by rw [g1]; rfl
          rw [if_pos g1, if_neg (show ¬ ¬ nI E.length = 0 from fun q => q (by rw [g2]; rfl))]
          by_cases g3 : C.getD p (-1) = 60
          · rw [if_pos g3, if_neg (show ¬ ¬ C.getD p (-1) = 60 from fun q => q g3)]
            obtain ⟨u1, u2⟩ := zs42 (d := 0) hB hC hE hb hp hd (by omega) h5 hpl2
            rw [g2] at u1 u2
            cases hz : zbeg C 0 0 p with
            | inl f' =>
              obtain ⟨s', v1, v2⟩ := u1 f' hz
              rw [v1]
              simp only
              rw [if_pos trivial, hz0 s' f' v2]
              exact ⟨fun f h => (by cases h; exact ⟨s', rfl⟩), fun _ _ h => (by cases h)⟩
            | inr x =>
              obtain ⟨cl, b', A⟩ := x
              obtain ⟨s', v1, v2, v3, v4, v5, v6, v7, v8, v9, v10⟩ := u2 cl b' A hz
              rw [v1]
              simp only
              rw [if_neg (show ¬ (1 : Int32) = 0 by decide)]
              have ho' : s a 12 = -1 := ho
              rw [ho', g1, List.nil_append] at v2 v3 v8
              rw [ho'] at v5
              refine ih (nf + 1) (t + 1) b' s' [(C.getD (p + 1) (-1), p, -1, A)] (if cl = true then [] else [0]) O (by omega) (by omega) (by omega) v9 (zRow_fr (v7 r (by omega) (by omega)) (v7 _ (by rw [b9]; omega) (by rw [b9]; omega)) hC) ⟨v2, v3, ?_⟩ v4 ?_ ?_ ?_ ?_ (fun q => by cases q) v8 (fun q hq => Nat.lt_trans (hO q hq) v10)
              · intro j hj
                rw [v7 (a + 8) (by omega) (by omega)]
                exact hOw j hj
              · rw [v5]
                cases cl <;> rfl
              · rw [v6]
                cases cl <;> rfl
              · cases cl <;> decide
              · cases cl
                · exact ⟨Nat.zero_lt_one, rfl, trivial⟩
                · exact trivial
          · rw [if_neg g3, if_pos (show ¬ C.getD p (-1) = 60 from g3), hz0 s p hp]
            exact ⟨fun f h => (by cases h; exact ⟨s, rfl⟩), fun _ _ h => (by cases h)⟩
        · have g2 : ¬ E.length = 0 := fun q => g1 (List.length_eq_zero_iff.mp q)
          rw [if_neg g1, if_neg gp, if_pos (show ¬ nI E.length = 0 from fun q => g2 ((zn_eqL (k := 0) (by omega) (by decide)).mp q)), hz0 s p hp]
          exact ⟨fun f h => (by cases h; exact ⟨s, rfl⟩), fun _ _ h => (by cases h)⟩
      | cons e st =>
        have he := hst.1
        rw [if_pos (show ¬ ztop (e :: st) = -1 from zn_nm (by omega)), zpar]
        have hEe : E ≠ [] := fun q => by rw [q] at he; exact absurd he (Nat.not_lt_zero _)
        by_cases g3 : C.getD p (-1) = 60
        · rw [if_pos g3, if_neg (show ¬ ¬ C.getD p (-1) = 60 from fun q => q g3)]
          by_cases g4 : C.getD (p + 1) (-1) = 47
          · rw [if_pos g4, if_neg (show ¬ ¬ C.getD (p + 1) (-1) = 47 from fun q => q g4)]
            obtain ⟨u1, u2, u3⟩ := zs50 (d := st.length) hB hC hE hb hp (by omega) hd ho hst
            by_cases g5 : C.getD (p + 2) (-1) = zkd E e
            · rw [if_pos g5]
              by_cases g6 : C.getD (p + 3) (-1) = 62
              · obtain ⟨s', v1, v2, v3, v4, v5, v6⟩ := u3 g5 g6
                have hin : p + 3 < C.length := Nat.lt_of_not_le (fun q => by rw [zgetD_out q] at g6; exact absurd g6 (by decide))
                rw [if_pos g6, v1]
                simp only
                refine ih (nf + 1) (t + 1) (p + 4) s' E st O (by omega) (by omega) (by omega) (by omega) (zRow_fr (v6 r (by omega)) (v6 _ (by rw [b9]; omega)) hC) ⟨zEl_fr (v5 6 (by decide) (by decide) (by decide)) (v5 9 (by decide) (by decide) (by decide)) (fun q h1 h2 => v6 q (by omega)) hE, hb, ?_⟩ v2 v3 v4 (by rw [List.length_cons] at hs8; omega) hst.2.2 (fun q => absurd q hEe) (by omega) (fun q hq => by have := hO q hq; omega)
                intro j hj
                rw [v6 (a + 8) (by omega)]
                exact hOw j hj
              · obtain ⟨s', v1, v2⟩ := u2 g5 g6
                rw [if_neg g6, v1]
                simp only
                rw [hz0 s' _ v2]
                exact ⟨fun f h => (by cases h; exact ⟨s', rfl⟩), fun _ _ h => (by cases h)⟩
            · obtain ⟨s', v1, v2⟩ := u1 g5
              rw [if_neg g5, v1]
              simp only
              rw [hz0 s' _ v2]
              exact ⟨fun f h => (by cases h; exact ⟨s', rfl⟩), fun _ _ h => (by cases h)⟩
          · rw [if_neg g4, if_pos (show ¬ C.getD (p + 1) (-1) = 47 from g4)]
            obtain ⟨u1, u2⟩ := zs42 (d := st.length + 1) hB hC hE hb hp hd (by rw [List.length_cons] at hs8; omega) h5 hpl2
            cases hz : zbeg C E.length (st.length + 1) p with
            | inl f' =>
              obtain ⟨s', v1, v2⟩ := u1 f' hz
              rw [v1]
              simp only
              rw [hz0 s' f' v2]
              exact ⟨fun f h => (by cases h; exact ⟨s', rfl⟩), fun _ _ h => (by cases h)⟩
            | inr x =>
              obtain ⟨cl, b', A⟩ := x
              obtain ⟨s', v1, v2, v3, v4, v5, v6, v7, v8, v9, v10⟩ := u2 cl b' A hz
              rw [v1]
              simp only
              have ho' : s a 12 = nI e := ho
              rw [ho'] at v2 v3 v5 v8
              have h8 : st.length + 1 ≠ 8 := by
                intro q
                unfold zbeg at hz
                rw [if_pos (Or.inr q)] at hz
                cases hz
              refine ih (nf + 1) (t + 1) b' s' (E ++ [(C.getD (p + 1) (-1), p, nI e, A)]) (if cl = true then e :: st else E.length :: e :: st) O (by omega) (by omega) (by omega) v9 (zRow_fr (v7 r (by omega) (by omega)) (v7 _ (by rw [b9]; omega) (by rw [b9]; omega)) hC) ⟨v2, v3, ?_⟩ v4 ?_ ?_ ?_ ?_ (fun q => by simp at q) (by rw [List.length_append, List.length_singleton]; exact v8) (fun q hq => Nat.lt_trans (hO q hq) v10)
              · intro j hj
                rw [v7 (a + 8) (by omega) (by omega)]
                exact hOw j hj
              · rw [v5]
                cases cl <;> rfl
              · rw [v6]
                cases cl <;> rfl
              · rw [List.length_cons] at hs8
                cases cl
                · show (E.length :: e :: st).length ≤ 8
                  rw [List.length_cons, List.length_cons]
                  omega
                · show (e :: st).length ≤ 8
                  rw [List.length_cons]
                  omega
              · cases cl
                · refine ⟨by rw [List.length_append, List.length_singleton]; omega, by rw [zgetE_r]; rfl, zStk_app _ hst⟩
                · exact zStk_app _ hst
        · rw [if_neg g3, if_pos (show ¬ C.getD p (-1) = 60 from g3)]
          unfold zf51
          by_cases g4 : C.getD p (-1) = 62
          · rw [if_pos (Or.inr (Or.inl g4)), if_pos g4]
            have : zrb 0 s = some (0, s) := rfl
            rw [this]
            simp only
            rw [hz0 s p hp]
            exact ⟨fun f h => (by cases h; exact ⟨s, rfl⟩), fun _ _ h => (by cases h)⟩
          · rw [if_neg g4]
            by_cases g5 : C.getD p (-1) = 38
            · rw [if_pos (Or.inr (Or.inr (Or.inl g5))), if_pos g5]
              have : zrb 0 s = some (0, s) := rfl
              rw [this]
              simp only
              rw [hz0 s p hp]
              exact ⟨fun f h => (by cases h; exact ⟨s, rfl⟩), fun _ _ h => (by cases h)⟩
            · rw [if_neg g5]
              by_cases g6 : C.getD p (-1) = 126
              · rw [if_pos (Or.inr (Or.inr (Or.inr g6))), if_neg (show ¬ ¬ C.getD p (-1) = 126 from fun q => q g6)]
                have : zrb 0 s = some (0, s) := rfl
                rw [this]
                simp only
                rw [hz0 s p hp]
                exact ⟨fun f h => (by cases h; exact ⟨s, rfl⟩), fun _ _ h => (by cases h)⟩
              · have g7 : ¬ C.getD p (-1) = -1 := by
                  intro q
                  have h7 := hC.2.2 p hpl2
                  rw [b9] at h7
                  exact hneg p hpl2 q
                have hin2 : ¬ (C.getD p (-1) = -1 ∨ C.getD p (-1) = 62 ∨ C.getD p (-1) = 38 ∨ C.getD p (-1) = 126) := fun q => by
                  rcases q with q | q | q | q
                  · exact g7 q
                  · exact g4 q
                  · exact g5 q
                  · exact g6 q
                rw [if_neg hin2, if_pos (show ¬ C.getD p (-1) = 126 from g6)]
                simp only [zgf, zpf]
                rw [hp, ho, b8, zas_n (by omega)]
                rw [zw_ne (by omega), hp, zn_a1]
                have : zrb 1 (zw (zw s (a + 8) p (ztop (e :: st))) a 11 (nI (p + 1))) = some (1, zw (zw s (a + 8) p (ztop (e :: st))) a 11 (nI (p + 1))) := rfl
                rw [this]
                simp only
                obtain ⟨s', hs'⟩ : ∃ s', s' = zw (zw s (a + 8) p (ztop (e :: st))) a 11 (nI (p + 1)) := ⟨_, rfl⟩
                rw [← hs']
                have f' : ∀ q, q ≠ a → q ≠ a + 8 → s' q = s q := fun q h1 h2 => by rw [hs', zw_ne h1, zw_ne h2]
                have k' : ∀ f, f ≠ 11 → s' a f = s a f := fun f hf => by rw [hs', zw_o (Or.inr hf), zw_ne (by omega)]
                refine ih (nf + 1) (t + 1) (p + 1) s' E (e :: st) (O ++ [(p, e)]) (by omega) (by omega) (by omega) (by omega) (zRow_fr (f' r (by omega) (by omega)) (f' _ (by rw [b9]; omega) (by rw [b9]; omega)) hC) ⟨zEl_fr (k' 6 (by decide)) (k' 9 (by decide)) (fun q h1 h2 => f' q (by omega) (by omega)) hE, hb, ?_⟩ (by rw [hs', zw_s]) (by rw [k' 12 (by decide)]; exact ho) (by rw [k' 13 (by decide)]; exact hd) hs8 hst hES (by omega) ?_
                · intro j hj
                  rw [zow_app hO, hs', zw_ne (by omega)]
                  by_cases ej : j = p
                  · rw [if_pos ej, ej, zw_s]
                    rfl
                  · rw [if_neg ej, zw_o (Or.inr ej)]
                    exact hOw j hj
                · intro q hq
                  rcases List.mem_append.mp hq with hq | hq
                  · have := hO q hq
                    omega
                  · rw [List.mem_singleton.mp hq]
                    show p < p + 1
                    omega
/-- the row is filled -/
theorem z41 {q N : Nat} {x : Int32} (hN : zca q = N) : ∀ m i n (s : zS), i + m = N → m < n → ∃ s', zf41_5 q n x (nI i) (nI N) s = some s' ∧ (∀ j, j < i → s' q j = s q j) ∧ (∀ j, i ≤ j → j < N → s' q j = x) ∧ ∀ k, k ≠ q → s' k = s k := by
  have hlt := zca_lt q
  intro m
  induction m with
  | zero =>
    intro i n s hi hn
    obtain ⟨n, rfl⟩ : ∃ n', n = n' + 1 := ⟨n - 1, by omega⟩
    refine ⟨s, ?_, fun _ _ => rfl, fun j h1 h2 => by omega, fun _ _ => rfl⟩
    rw [zf41_5, if_pos ((zn_le (by omega) (by omega)).mpr (by omega))]
  | succ m ih =>
    intro i n s hi hn
    obtain ⟨n, rfl⟩ : ∃ n', n = n' + 1 := ⟨n - 1, by omega⟩
    obtain ⟨s', h1, h2, h3, h4⟩ := ih (i + 1) n (zw s q i x) (by omega) (by omega)
    refine ⟨s', ?_, fun j hj => ?_, fun j j1 j2 => ?_, fun k hk => ?_⟩
    · rw [zf41_5, if_neg (fun q => by have := (zn_le (by omega) (by omega)).mp q; omega), zas_n (by omega), zn_a1]
      exact h1
    · rw [h2 j (by omega), zw_o (Or.inr (by omega))]
    · by_cases e : j = i
      · rw [h2 j (by omega), e, zw_s]
      · exact h3 j (by omega) j2
    · rw [h4 k hk, zw_ne hk]
theorem zs40 {a r : Nat} {s : zS} {C : List Int32} (hB : zB a r) (hC : zRow r s C) (hL : zLt C) :
    (∀ f, zpar C 400 0 [] [] [] = .inl f → ∃ s', zf40 a s = some (nI f, s')) ∧
    (∀ E O, zpar C 400 0 [] [] [] = .inr (E, O) → ∃ s', zf40 a s = some (-1, s') ∧ zPz a s' E O) := by
  obtain ⟨b0, b1, b2, b3, b4, b5, b6, b7, b8, b9⟩ := zB_e hB
  obtain ⟨c1, c2, c3, c4, c5, c6, c7, c8, c9, c10⟩ := zB_c hB
  have hc3 := hC.2.1
  rw [b9, c9] at hc3
  have hneg : ∀ p, p < C.length → C.getD p (-1) ≠ -1 := by
    intro p hp e
    obtain ⟨v, v1, v2, v3⟩ := hL _ (zgetD_mem hp)
    rw [v3] at e
    exact zn_nm (by omega) e
  obtain ⟨s5, hs5⟩ : ∃ s5, s5 = zw (zw (zw (zw (zw s a 6 0) a 9 0) a 11 0) a 12 (-1)) a 13 0 := ⟨_, rfl⟩
  have f5 : ∀ q, q ≠ a → s5 q = s q := fun q hq => by rw [hs5, zw_ne hq, zw_ne hq, zw_ne hq, zw_ne hq, zw_ne hq]
  obtain ⟨s7, h1, h2, h3, h4⟩ := z41 (q := a + 8) (x := -1) c8 300 0 zfz s5 rfl (by rw [zfz_e]; decide)
  have e0 : zf40 a s = zf40_37 a zfz 1 (nI 0) s7 := by
    unfold zf40
    simp only [zpf]
    rw [← hs5, b8]
    unfold zf41
    rw [c8]
    have q : zf41_5 (a + 8) zfz (-1) 0 (nI 300) s5 = some s7 := h1
    rw [q]
    rfl
  have k7 : ∀ f, s7 a f = s5 a f := fun f => by rw [h4 a (by omega)]
  have z6 : s7 a 6 = nI 0 := by rw [k7, hs5, zw_o (Or.inr (by decide)), zw_o (Or.inr (by decide)), zw_o (Or.inr (by decide)), zw_o (Or.inr (by decide)), zw_s]; rfl
  have z9 : s7 a 9 = nI 0 := by rw [k7, hs5, zw_o (Or.inr (by decide)), zw_o (Or.inr (by decide)), zw_o (Or.inr (by decide)), zw_s]; rfl
  have z11 : s7 a 11 = nI 0 := by rw [k7, hs5, zw_o (Or.inr (by decide)), zw_o (Or.inr (by decide)), zw_s]; rfl
  have z12 : s7 a 12 = -1 := by rw [k7, hs5, zw_o (Or.inr (by decide)), zw_s]
  have z13 : s7 a 13 = nI 0 := by rw [k7, hs5, zw_s]; rfl
  rw [e0]
  exact zs40_l hB hc3 hneg 400 zfz 0 0 s7 [] [] [] (by rw [zfz_e]; decide) (by omega) (Nat.le_refl _) (Nat.zero_le _) (zRow_fr (by rw [h4 r (by omega), f5 r (by omega)]) (by rw [h4 _ (by rw [b9]; omega), f5 _ (by rw [b9]; omega)]) hC) ⟨⟨z6, z9, fun e he => absurd he (Nat.not_lt_zero _)⟩, ⟨Nat.zero_le _, Nat.zero_le _, fun e he => absurd he (Nat.not_lt_zero _)⟩, fun j hj => h3 j (Nat.zero_le _) hj⟩ z11 z12 z13 (Nat.zero_le _) trivial (fun _ => rfl) (Nat.zero_le _) (fun q hq => absurd hq List.not_mem_nil)

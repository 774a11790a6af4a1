/-! read, the package: how its parts are told (scan, packageFault; outline). -/
set_option maxRecDepth 100000
set_option linter.unusedVariables false
/-- numbers by letters: what holds of a letter -/
def zdg (c : Int32) : Bool := decide (48 ≤ c) && decide (c ≤ 57)
def zhx (c : Int32) : Bool := zdg c || (decide (97 ≤ c) && decide (c ≤ 102))
theorem z29 {x : Int32} {s : zS} : zf29 x s = some (if zdg x = true then 1 else 0, s) := by
  unfold zf29 zdg
  by_cases h1 : x < 48
  · rw [if_pos h1]
    have e : ¬ 48 ≤ x := Int32.not_le.mpr h1
    simp [e]
    rfl
  · rw [if_neg h1]
    have e : 48 ≤ x := Int32.not_lt.mp h1
    by_cases h2 : 57 < x
    · rw [if_pos h2]
      have e2 : ¬ x ≤ 57 := Int32.not_le.mpr h2
      simp [e2]
      rfl
    · rw [if_neg h2]
      have e2 : x ≤ 57 := Int32.not_lt.mp h2
      simp [e, e2]
      rfl
theorem z156 {x : Int32} {s : zS} : zf156 x s = some (if zdg x = true then 1 else 0, s) := z29
theorem z30 {x : Int32} {s : zS} : zf30 x s = some (if zhx x = true then 1 else 0, s) := by
  unfold zf30 zhx
  rw [z29]
  simp only [zbi]
  cases zdg x with
  | true => rfl
  | false =>
    rw [if_neg (by decide)]
    by_cases h1 : x < 97
    · rw [if_pos h1]
      have e : ¬ 97 ≤ x := Int32.not_le.mpr h1
      simp [e]
      rfl
    · rw [if_neg h1]
      have e : 97 ≤ x := Int32.not_lt.mp h1
      by_cases h2 : 102 < x
      · rw [if_pos h2]
        have e2 : ¬ x ≤ 102 := Int32.not_le.mpr h2
        simp [e2]
        rfl
      · rw [if_neg h2]
        have e2 : x ≤ 102 := Int32.not_lt.mp h2
        simp [e, e2]
        rfl
theorem zdg_v {x : Int32} (h : zdg x = true) : ∃ v, v ≤ 9 ∧ x = nI (48 + v) := by
  unfold zdg at h
  have h1 : 48 ≤ x ∧ x ≤ 57 := by simpa using h
  obtain ⟨v, rfl, hv⟩ := zn_of (x := x) (fun e => absurd (Int32.lt_of_le_of_lt h1.1 e) (by decide))
  have e1 := (zn_le (a := 48) (by decide) hv).mp h1.1
  have e2 := (zn_le (b := 57) hv (by decide)).mp h1.2
  exact ⟨v - 48, by omega, by congr 1; omega⟩
theorem zn_sub {a b : Nat} (h : b ≤ a) : nI a - nI b = nI (a - b) := by
  have e : nI a = nI (a - b) + nI b := by rw [zn_add]; congr 1; omega
  rw [e, Int32.add_sub_cancel]
theorem zn_dig {c v : Nat} : ((10 * nI c) + nI (48 + v)) - 48 = nI (10 * c + v) := by
  rw [zn_lit 10, zn_mul, zn_add, zn_lit 48, zn_sub (by omega)]
  congr 1
  omega
/-- the letter's number -/
def zdv (x : Int32) : Nat := x.toNatClampNeg - 48
theorem zdv_e {x : Int32} (h : zdg x = true) : x = nI (48 + zdv x) ∧ zdv x ≤ 9 := by
  obtain ⟨v, hv, rfl⟩ := zdg_v h
  have e : zdv (nI (48 + v)) = v := by
    unfold zdv
    rw [zn_cl (by omega)]
    omega
  rw [e]
  exact ⟨rfl, hv⟩
/-- how a part that begins at f is told: where it is none, or whether it is packed and how many data it has -/
def zsc (T : List Int32) (N : Int32) (f : Nat) : Nat ⊕ (Bool × Nat) :=
  if T.getD f (-1) = N then
    if T.getD (f + 1) (-1) = 48 ∨ T.getD (f + 1) (-1) = 49 then
      if zdg (T.getD (f + 2) (-1)) = true then
        if zdg (T.getD (f + 3) (-1)) = true then
          if zdg (T.getD (f + 4) (-1)) = true then
            let c := 10 * (10 * zdv (T.getD (f + 2) (-1)) + zdv (T.getD (f + 3) (-1))) + zdv (T.getD (f + 4) (-1))
            if f + 5 + c ≤ T.length then
              if zhx (T.getD (f + 5 + c) (-1)) = true then
                if zhx (T.getD (f + 5 + c + 1) (-1)) = true then
                  if zhx (T.getD (f + 5 + c + 2) (-1)) = true then
                    if zhx (T.getD (f + 5 + c + 3) (-1)) = true then .inr (decide (T.getD (f + 1) (-1) = 49), c)
                    else .inl (f + 5 + c + 3)
                  else .inl (f + 5 + c + 2)
                else .inl (f + 5 + c + 1)
              else .inl (f + 5 + c)
            else .inl T.length
          else .inl (f + 4)
        else .inl (f + 3)
      else .inl (f + 2)
    else .inl (f + 1)
  else .inl f
theorem zhx_m : zhx (-1) = false := by decide
theorem zdg_m : zdg (-1) = false := by decide
theorem zb_if {α : Type} {b : Bool} {A B : α} : (if ¬ (if b = true then (1 : Int32) else 0) = 0 then A else B) = if b = true then A else B := by
  cases b <;> rfl
theorem zb_if0 {α : Type} {b : Bool} {A B : α} : (if (if b = true then (1 : Int32) else 0) = 0 then A else B) = if b = true then B else A := by
  cases b <;> rfl
theorem zf28_d {a0 n f c p : Nat} {m : Int32} {s : zS} {T : List Int32} (h : zRow 1 s T) (hp : p < f + 5) (hf : f < 3000) : zf28_46 a0 1 (n + 1) (nI f) m (nI c) (nI p) s = if zdg (T.getD p (-1)) = true then zf28_46 a0 1 n (nI f) m (nI (10 * c + zdv (T.getD p (-1)))) (nI (p + 1)) s else some (nI p, s) := by
  rw [zf28_46, if_neg (fun e => by rw [zn_lit 5, zn_add] at e; have := (zn_le (by omega) (by omega)).mp e; omega), z18 h (by omega)]
  simp only [zbi]
  rw [z29]
  simp only
  rw [zb_if]
  by_cases e : zdg (T.getD p (-1)) = true
  · rw [if_pos e, if_pos e, z18 h (by omega)]
    simp only
    obtain ⟨e1, e2⟩ := zdv_e e
    have e3 : ((10 * nI c) + T.getD p (-1)) - 48 = nI (10 * c + zdv (T.getD p (-1))) := by
      have := zn_dig (c := c) (v := zdv (T.getD p (-1)))
      rw [← e1] at this
      exact this
    rw [e3, zn_a1]
  · rw [if_neg e, if_neg e]
theorem zf28_h {a0 n p q : Nat} {s : zS} {T : List Int32} (h : zRow 1 s T) (hq : s a0 4 = nI q) (hp : p < q + 4) (hf : q < 5000) : zf28_131 a0 1 (n + 1) (nI p) s = if zhx (T.getD p (-1)) = true then zf28_131 a0 1 n (nI (p + 1)) s else some (nI (min p T.length), s) := by
  have hl := zRow_lt h
  rw [zf28_131]
  simp only [zgf, hq]
  rw [if_neg (fun e => by rw [zn_lit 4, zn_add] at e; have := (zn_le (by omega) (by omega)).mp e; omega), z18 h (by omega)]
  simp only [zbi]
  rw [z30]
  simp only
  rw [zb_if]
  by_cases e : zhx (T.getD p (-1)) = true
  · rw [if_pos e, if_pos e, zn_a1]
  · rw [if_neg e, if_neg e, h.1]
    unfold zf31
    by_cases e2 : T.length < p
    · rw [if_pos ((zn_lt (by omega) (by omega)).mpr e2), Nat.min_eq_right (by omega)]
    · rw [if_neg (fun q => e2 ((zn_lt (by omega) (by omega)).mp q)), Nat.min_eq_left (by omega)]
/-- the class's part is told -/
theorem z0e : (0 : Int32) = nI 0 := rfl
theorem zs28 {a0 f : Nat} {s : zS} {T : List Int32} (h : zRow 1 s T) (ha : a0 ≠ 1 ∧ a0 ≠ 2) (hf : f < 1600) :
    (∀ p, zsc T (s a0 0) f = .inl p → ∃ s', zf28 a0 1 (nI f) s = some (nI p, s') ∧ s' a0 0 = s a0 0) ∧
    (∀ b c, zsc T (s a0 0) f = .inr (b, c) → ∃ s', zf28 a0 1 (nI f) s = some (-1, s') ∧ s' a0 0 = s a0 0 ∧ s' a0 2 = (if b = true then 1 else 0) ∧ s' a0 3 = nI (f + 5) ∧ s' a0 4 = nI (f + 5 + c)) := by
  have hl := zRow_lt h
  obtain ⟨N, hz⟩ : ∃ N, zfz = N + 10 := ⟨9990, zfz_e⟩
  have e0 : zf28 a0 1 (nI f) s = if T.getD f (-1) = s a0 0 then (if T.getD (f + 1) (-1) = 48 ∨ T.getD (f + 1) (-1) = 49 then zf28_46 a0 1 zfz (nI f) (T.getD (f + 1) (-1)) (nI 0) (nI (f + 2)) s else some (nI (f + 1), s)) else some (nI f, s) := by
    unfold zf28
    rw [z18 h (by omega)]
    simp only [zbi, zgf]
    rw [zn_a1, z18 h (by omega)]
    simp only
    have e2 : nI f + 2 = nI (f + 2) := by rw [zn_lit 2, zn_add]
    rw [e2]
    by_cases g1 : T.getD f (-1) = s a0 0
    · rw [if_pos g1, if_pos g1]
      by_cases g2 : T.getD (f + 1) (-1) = 48
      · rw [if_pos g2, if_pos (Or.inl g2)]
        exact congrArg (fun z => zf28_46 a0 1 zfz (nI f) (T.getD (f + 1) (-1)) z (nI (f + 2)) s) z0e
      · rw [if_neg g2]
        by_cases g3 : T.getD (f + 1) (-1) = 49
        · rw [if_pos g3, if_pos (Or.inr g3)]
          exact congrArg (fun z => zf28_46 a0 1 zfz (nI f) (T.getD (f + 1) (-1)) z (nI (f + 2)) s) z0e
        · rw [if_neg g3, if_neg (fun q => q.elim g2 g3)]
    · rw [if_neg g1, if_neg g1]
  rw [e0]
  unfold zsc
  by_cases g1 : T.getD f (-1) = s a0 0
  rotate_left
  · rw [if_neg g1, if_neg g1]
    exact ⟨fun p hp => by cases hp; exact ⟨s, rfl, rfl⟩, fun b c hc => by cases hc⟩
  rw [if_pos g1, if_pos g1]
  by_cases g2 : T.getD (f + 1) (-1) = 48 ∨ T.getD (f + 1) (-1) = 49
  rotate_left
  · rw [if_neg g2, if_neg g2]
    exact ⟨fun p hp => by cases hp; exact ⟨s, rfl, rfl⟩, fun b c hc => by cases hc⟩
  rw [if_pos g2, if_pos g2, hz, zf28_d h (by omega) (by omega)]
  by_cases g3 : zdg (T.getD (f + 2) (-1)) = true
  rotate_left
  · rw [if_neg g3, if_neg g3]
    exact ⟨fun p hp => by cases hp; exact ⟨s, rfl, rfl⟩, fun b c hc => by cases hc⟩
  rw [if_pos g3, if_pos g3, zf28_d h (by omega) (by omega)]
  by_cases g4 : zdg (T.getD (f + 3) (-1)) = true
  rotate_left
  · rw [if_neg g4, if_neg g4]
    exact ⟨fun p hp => by cases hp; exact ⟨s, rfl, rfl⟩, fun b c hc => by cases hc⟩
  rw [if_pos g4, if_pos g4, zf28_d h (by omega) (by omega)]
  by_cases g5 : zdg (T.getD (f + 4) (-1)) = true
  rotate_left
  · rw [if_neg g5, if_neg g5]
    exact ⟨fun p hp => by cases hp; exact ⟨s, rfl, rfl⟩, fun b c hc => by cases hc⟩
  rw [if_pos g5, if_pos g5]
  have v2 := (zdv_e g3).2
  have v3 := (zdv_e g4).2
  have v4 := (zdv_e g5).2
  have ec : 10 * (10 * (10 * 0 + zdv (T.getD (f + 2) (-1))) + zdv (T.getD (f + 2 + 1) (-1))) + zdv (T.getD (f + 2 + 1 + 1) (-1)) = 10 * (10 * zdv (T.getD (f + 2) (-1)) + zdv (T.getD (f + 3) (-1))) + zdv (T.getD (f + 4) (-1)) := by
    show 10 * (10 * (10 * 0 + zdv (T.getD (f + 2) (-1))) + zdv (T.getD (f + 3) (-1))) + zdv (T.getD (f + 4) (-1)) = _
    omega
  rw [ec]
  generalize hc : 10 * (10 * zdv (T.getD (f + 2) (-1)) + zdv (T.getD (f + 3) (-1))) + zdv (T.getD (f + 4) (-1)) = c
  have hcl : c ≤ 999 := by omega
  have key : ∀ m : Int32, zf28_46 a0 1 (N + 7) (nI f) m (nI c) (nI (f + 2 + 1 + 1 + 1)) s = zf28_104 a0 1 (nI f) (nI c) (if ¬ m = 49 then 0 else 1) s := by
    intro m
    rw [zf28_46, if_pos (by rw [zn_lit 5, zn_add]; exact (zn_le (by omega) (by omega)).mpr (Nat.le_refl _))]
    by_cases g : ¬ m = 49
    · rw [if_pos g, if_pos g]
    · rw [if_neg g, if_neg g]
  have key2 := key (T.getD (f + 1) (-1))
  have eb : (if ¬ T.getD (f + 1) (-1) = 49 then (0 : Int32) else 1) = if decide (T.getD (f + 1) (-1) = 49) = true then 1 else 0 := by
    by_cases g : T.getD (f + 1) (-1) = 49
    · rw [if_neg (fun q => q g), if_pos (by simpa using g)]
    · rw [if_pos g, if_neg (by simpa using g)]
  rw [eb] at key2
  rw [key2]
  generalize decide (T.getD (f + 1) (-1) = 49) = b
  obtain ⟨s4, hs4⟩ : ∃ s4, s4 = zw (zw (zw s a0 2 (if b = true then 1 else 0)) a0 3 (nI (f + 5))) a0 4 (nI (f + 5 + c)) := ⟨_, rfl⟩
  have h4 : zRow 1 s4 T := by
    subst hs4
    refine ⟨?_, h.2.1, ?_⟩
    · rw [zw_ne (Ne.symm ha.1), zw_ne (Ne.symm ha.1), zw_ne (Ne.symm ha.1)]
      exact h.1
    · intro j hj
      rw [show zrf 1 0 = 2 from rfl, zw_ne (Ne.symm ha.2), zw_ne (Ne.symm ha.2), zw_ne (Ne.symm ha.2)]
      exact h.2.2 j hj
  have q4 : s4 a0 4 = nI (f + 5 + c) := by rw [hs4, zw_s]
  have q3 : s4 a0 3 = nI (f + 5) := by rw [hs4, zw_o (Or.inr (by decide)), zw_s]
  have q2 : s4 a0 2 = (if b = true then 1 else 0) := by rw [hs4, zw_o (Or.inr (by decide)), zw_o (Or.inr (by decide)), zw_s]
  have q0 : s4 a0 0 = s a0 0 := by rw [hs4, zw_o (Or.inr (by decide)), zw_o (Or.inr (by decide)), zw_o (Or.inr (by decide))]
  have e104 : zf28_104 a0 1 (nI f) (nI c) (if b = true then 1 else 0) s = zf28_131 a0 1 zfz (nI (f + 5 + c)) s4 := by
    unfold zf28_104 zpb
    rw [if_pos (by cases b <;> decide)]
    simp only [zpf, zgf]
    rw [zn_lit 5, zn_add]
    simp only [zw_s, zn_add]
    rw [hs4]
  rw [e104, hz, zf28_h h4 q4 (by omega) (by omega)]
  by_cases g6 : f + 5 + c ≤ T.length
  rotate_left
  · rw [if_neg g6, zgetD_out (by omega), zhx_m, if_neg (by decide), Nat.min_eq_right (by omega)]
    exact ⟨fun p hp => by cases hp; exact ⟨s4, rfl, q0⟩, fun b c hc => by cases hc⟩
  rw [if_pos g6]
  have hin : ∀ p, zhx (T.getD p (-1)) = true → p < T.length := fun p hp => Nat.lt_of_not_le (fun q => by rw [zgetD_out q] at hp; exact absurd hp (by decide))
  by_cases g7 : zhx (T.getD (f + 5 + c) (-1)) = true
  rotate_left
  · rw [if_neg g7, if_neg g7, Nat.min_eq_left (by omega)]
    exact ⟨fun p hp => by cases hp; exact ⟨s4, rfl, q0⟩, fun b c hc => by cases hc⟩
  rw [if_pos g7, if_pos g7, zf28_h h4 q4 (by omega) (by omega)]
  have i7 := hin _ g7
  by_cases g8 : zhx (T.getD (f + 5 + c + 1) (-1)) = true
  rotate_left
  · rw [if_neg g8, if_neg g8, Nat.min_eq_left (by omega)]
    exact ⟨fun p hp => by cases hp; exact ⟨s4, rfl, q0⟩, fun b c hc => by cases hc⟩
  rw [if_pos g8, if_pos g8, zf28_h h4 q4 (by omega) (by omega)]
  have i8 := hin _ g8
  by_cases g9 : zhx (T.getD (f + 5 + c + 2) (-1)) = true
  rotate_left
  · rw [if_neg g9, if_neg g9, Nat.min_eq_left (by omega)]
    exact ⟨fun p hp => by cases hp; exact ⟨s4, rfl, q0⟩, fun b c hc => by cases hc⟩
  rw [if_pos g9, if_pos g9, zf28_h h4 q4 (by omega) (by omega)]
  have i9 := hin _ g9
  by_cases g10 : zhx (T.getD (f + 5 + c + 3) (-1)) = true
  rotate_left
  · rw [if_neg g10, if_neg g10, Nat.min_eq_left (by omega)]
    exact ⟨fun p hp => by cases hp; exact ⟨s4, rfl, q0⟩, fun b c hc => by cases hc⟩
  rw [if_pos g10, if_pos g10]
  have e131 : zf28_131 a0 1 (N + 6) (nI (f + 5 + c + 1 + 1 + 1 + 1)) s4 = some (-1, s4) := by
    rw [zf28_131]
    simp only [zgf, q4]
    rw [if_pos (by rw [zn_lit 4, zn_add]; exact (zn_le (by omega) (by omega)).mpr (Nat.le_refl _))]
  refine ⟨fun p hp => (by cases hp), fun b' c' hc' => ?_⟩
  cases hc'
  exact ⟨s4, e131, q0, q2, q3, q4⟩

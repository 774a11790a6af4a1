/-! The constructors' machine as a program: what it computes is the way. -/
def am_lA (call : Nat → List Value → List va_E → Option (Option Value × List va_E)) (ins : Nat → Option (Instr × Nat)) (fld : Nat → Option (Nat × Nat × Nat)) (cst : Nat → Option Value) (knw : Nat → Option (Nat × List Value)) (anw mnw obj : Nat → Bool) (site : Nat → Option (Nat × Nat × Nat × Nat)) (fin : am_S → Option (Option Value)) : Nat → am_S → Option (Option Value × List va_E)
  | 0, _ => none
  | n + 1, S => match am_nA ins fld cst knw anw mnw obj S with
    | some S' => am_lA call ins fld cst knw anw mnw obj site fin n S'
    | none => match am_site ins site S with
      | some (_, _, y, k, _) => if k ≤ S.2.2.1.length ∧ ((S.2.2.1.drop k).map fun v => v.category).sum ≤ 8 then (match call y (S.2.2.1.take k).reverse S.2.2.2 with
        | some (w, h1) => am_lA call ins fld cst knw anw mnw obj site fin n (S.1 + 3, S.2.1, w.toList ++ S.2.2.1.drop k, h1)
        | none => none) else none
      | none => match fin S with
        | some v => some (v, S.2.2.2)
        | none => none
theorem am_lA_ok {call : Nat → List Value → List va_E → Option (Option Value × List va_E)} {ins : Nat → Option (Instr × Nat)} {fld : Nat → Option (Nat × Nat × Nat)} {cst : Nat → Option Value} {knw : Nat → Option (Nat × List Value)} {anw mnw obj : Nat → Bool} {site : Nat → Option (Nat × Nat × Nat × Nat)} {fin : am_S → Option (Option Value)} {Cr : Nat → List Value → List va_E → Option Value → List va_E → Prop}
    (hc : ∀ y As h w h1, call y As h = some (w, h1) → Cr y As h w h1) {v : Option Value} {h' : List va_E} : ∀ n S, am_lA call ins fld cst knw anw mnw obj site fin n S = some (v, h') → am_EA ins fld cst knw anw mnw obj site fin Cr n S v h' := by
  intro n
  induction n with
  | zero => intro S h; cases h
  | succ n ih =>
    intro S h
    unfold am_lA at h
    split at h
    · next S' hS => exact Or.inl ⟨S', hS, ih _ h⟩
    · split at h
      · next ix kd y k ci hs =>
        split at h
        · next hk =>
          split at h
          · next w h1 hw => exact Or.inr (Or.inl ⟨ix, kd, y, k, ci, w, h1, hs, hk.1, hk.2, hc _ _ _ _ _ hw, ih _ h⟩)
          · cases h
        · cases h
      · split at h
        · next v' hv => cases h; exact Or.inr (Or.inr ⟨hv, rfl⟩)
        · cases h

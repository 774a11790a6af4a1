/-! What the constructors compute is what they promise. -/
/-- the world of the claim: launch, places, numbers, tables -/
def cx_ok (l : Launch) (D : va_G) (ad : Nat → Nat) (ca : Nat → ClassId) (A : Nat → Prop) (tys : List (ClassId × FieldType)) (XX : State → Prop) (b0 : Nat) : Prop :=
  tys[0]? = some (ca 0, .int) ∧ tys[1]? = some (ca 1, .boolean) ∧ tys[2]? = some (ca 2, .long) ∧ tys[3]? = some (ca 3, .object "PaperParcels$Paper") ∧ tys[4]? = some (ca 4, .array .int) ∧ am_XX A nm_Tn XX ∧ (∀ k, k < 1000000 → ad k = b0 + k) ∧ (∀ h : List va_E, h.length ≤ 1000000 → va_D A (am_ws ad ca h)) ∧ l.stackTraces = false
theorem cx_t3 {l : Launch} {D : va_G} {ad : Nat → Nat} {ca : Nat → ClassId} {A : Nat → Prop} {tys : List (ClassId × FieldType)} {XX : State → Prop} {b0 : Nat} (h : cx_ok l D ad ca A tys XX b0) : am_t3 tys ca := by
  obtain ⟨-, -, -, h3, h4, -⟩ := h
  intro tg ht
  rcases ht with rfl | rfl
  · exact ⟨_, h3, rfl⟩
  · exact ⟨_, h4, rfl⟩
section CTA
variable {l : Launch} {D : va_G} {ad : Nat → Nat} {ca : Nat → ClassId} {A : Nat → Prop} {tys : List (ClassId × FieldType)} {XX : State → Prop} {b0 : Nat}
set_option maxHeartbeats 4000000 in
set_option maxRecDepth 100000 in
theorem nd_rA_ok (hK : cx_ok l D ad ca A tys XX b0) : ∀ (d y : Nat) (As : List Value) (h : List va_E) (v : Option Value) (h' : List va_E), nd_rA d y As h = some (v, h') → am_MA l D nd_cl tys ad ca A XX nm_Ts nd_mt nd_fr nd_lo b0 y As h v h' := by
  have t3 := cx_t3 hK
  obtain ⟨t0, t1, t2, t33, t44, hXX, had, hD9, -⟩ := hK
  intro d
  induction d with
  | zero => intro y As h v h' hr; cases hr
  | succ d ih =>
    intro y As h v h' hr
    unfold nd_rA at hr
    split at hr
    · cases hr
    · next T hT =>
      split at hr
      · next hn =>
        split at hr
        · next v1 h1 hl =>
          split at hr
          · next hlen =>
            cases hr
            have hE := am_lA_ok (Cr := fun y As h w h1 => nd_rA d y As h = some (w, h1)) (fun _ _ _ _ _ hc => hc) _ _ hl
            have hCr : ∀ y As h w h1, nd_rA d y As h = some (w, h1) → am_MA l D nd_cl tys ad ca A XX nm_Ts nd_mt nd_fr nd_lo b0 y As h w h1 := fun y As h w h1 hc => ih y As h w h1 hc
            unfold nd_tA at hT
            split at hT
            · cases hT; exact am_meetsA (T3 := nd_T2) (N3 := 7) nd_ok0 nd_okA0 nm_good t0 t1 t2 t3 t33 t44 rfl hXX had hD9 hCr hn hlen hE
            · cases hT; exact am_meetsA (T3 := nd_T2) (N3 := 7) nd_ok2 nd_okA2 nm_good t0 t1 t2 t3 t33 t44 rfl hXX had hD9 hCr hn hlen hE
            · cases hT; exact am_meetsA (T3 := nd_T2) (N3 := 7) nd_ok3 nd_okA3 nm_good t0 t1 t2 t3 t33 t44 rfl hXX had hD9 hCr hn hlen hE
            · cases hT; exact am_meetsA (T3 := nd_T2) (N3 := 7) nd_ok4 nd_okA4 nm_good t0 t1 t2 t3 t33 t44 rfl hXX had hD9 hCr hn hlen hE
            · cases hT; exact am_meetsA (T3 := nd_T2) (N3 := 7) nd_ok5 nd_okA5 nm_good t0 t1 t2 t3 t33 t44 rfl hXX had hD9 hCr hn hlen hE
            · cases hT; exact am_meetsA (T3 := nd_T2) (N3 := 7) nd_ok6 nd_okA6 nm_good t0 t1 t2 t3 t33 t44 rfl hXX had hD9 hCr hn hlen hE
            · cases hT; exact am_meetsA (T3 := nd_T2) (N3 := 7) nd_ok7 nd_okA7 nm_good t0 t1 t2 t3 t33 t44 rfl hXX had hD9 hCr hn hlen hE
            · cases hT; exact am_meetsA (T3 := nd_T2) (N3 := 7) nd_ok8 nd_okA8 nm_good t0 t1 t2 t3 t33 t44 rfl hXX had hD9 hCr hn hlen hE
            · cases hT; exact am_meetsA (T3 := nd_T2) (N3 := 7) nd_ok9 nd_okA9 nm_good t0 t1 t2 t3 t33 t44 rfl hXX had hD9 hCr hn hlen hE
            · cases hT; exact am_meetsA (T3 := nd_T2) (N3 := 7) nd_ok10 nd_okA10 nm_good t0 t1 t2 t3 t33 t44 rfl hXX had hD9 hCr hn hlen hE
            · cases hT; exact am_meetsA (T3 := nd_T2) (N3 := 7) nd_ok11 nd_okA11 nm_good t0 t1 t2 t3 t33 t44 rfl hXX had hD9 hCr hn hlen hE
            · cases hT; exact am_meetsA (T3 := nd_T2) (N3 := 7) nd_ok146 nd_okA146 nm_good t0 t1 t2 t3 t33 t44 rfl hXX had hD9 hCr hn hlen hE
            · cases hT
          · cases hr
        · cases hr
      · cases hr
end CTA

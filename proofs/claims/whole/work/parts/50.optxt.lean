/-! The calls on the text: length, wipe, character. -/
/-- the text on both sides: sz letters f, in the class's row at place 1 (its array at 2) and in the model's fields 1, 2 (its array at 180) -/
def tx_R (h : List va_E) (sz : Nat) (ov : Int32) (f fm : Nat → Int32) (fs : List Value) : Prop :=
  h.length = 226 ∧ h[0]? = some (.inr (0, [.ref 1, .ref 3, .ref 28, .ref 69, .ref 169])) ∧ h[1]? = some (.inr (1, [.ref 2, .int (nI sz), .int ov])) ∧ h[2]? = some (.inl (0, 480, .inl f)) ∧ h[179]? = some (.inr (11, fs)) ∧ fs.length = 57 ∧ fs[1]? = some (.ref 180) ∧ fs[2]? = some (.int (nI sz)) ∧ h[180]? = some (.inl (0, 480, .inl fm)) ∧ sz ≤ 480 ∧ ∀ j, j < sz → f j = fm j
theorem tx_at {f fm : Nat → Int32} {sz : Nat} {j : Int32} (hs : sz ≤ 480) (h : ∀ j, j < sz → f j = fm j) : rowAt f sz j = rowAt fm sz j := by
  unfold rowAt
  split
  · rfl
  · next q =>
    refine h _ ?_
    have q1 : ¬ j < 0 := fun z => q (Or.inl z)
    have q2 : ¬ nI sz ≤ j := fun z => q (Or.inr z)
    have e1 := Int32.le_iff_toInt_le.mp (Int32.not_lt.mp q1)
    have e2 : (nI sz).toInt = (sz : Int) := by unfold nI; rw [Int32.toInt_ofNat_of_lt (by omega)]
    have e3 : (0 : Int32).toInt = 0 := rfl
    rw [Int32.le_iff_toInt_le, e2] at q2
    have e4 : j.toNatClampNeg = j.toInt.toNat := rfl
    omega
theorem op_length {K : cx_K} (hK : Kok K) {h : List va_E} {sz : Nat} {ov : Int32} {f fm : Nat → Int32} {fs : List Value} (hR : tx_R h sz ov f fm fs) : op2 K 16 150 [] h (fun h' => h' = h.set 179 (.inr (11, fs.set 0 (.int 0)))) := by
  obtain ⟨a0, a1, a2, a3, a4, a5, a6, a7, a8, a9, a10⟩ := hR
  have hl : h.length ≤ 1000000 := by omega
  exact ⟨⟨_, a1⟩, nI sz, h, _, m16 hK hl a1 a2, ⟨_, a4⟩, m150 hK hl a4 a5 a7, rfl⟩
theorem op_wipe {K : cx_K} (hK : Kok K) {h : List va_E} {sz : Nat} {ov : Int32} {f fm : Nat → Int32} {fs : List Value} (hR : tx_R h sz ov f fm fs) : op2 K 14 149 [] h (fun h' => h' = (h.set 1 (.inr (1, [.ref 2, .int 0, .int 0]))).set 179 (.inr (11, (fs.set 0 (.int 0)).set 2 (.int 0)))) := by
  obtain ⟨a0, a1, a2, a3, a4, a5, a6, a7, a8, a9, a10⟩ := hR
  have hl : h.length ≤ 1000000 := by omega
  have a4' : (h.set 1 (.inr (1, [.ref 2, .int 0, .int 0])))[179]? = some (.inr (11, fs)) := by rw [List.getElem?_set_ne (by decide)]; exact a4
  exact ⟨⟨_, a1⟩, nI sz, _, _, m14 hK hl a1 a2, ⟨_, a4'⟩, m149 hK (by rw [List.length_set]; exact hl) a4' a5 a7, rfl⟩
theorem op_character {K : cx_K} (hK : Kok K) {h : List va_E} {sz : Nat} {ov j : Int32} {f fm : Nat → Int32} {fs : List Value} (hR : tx_R h sz ov f fm fs) : op2 K 17 151 [.int j] h (fun h' => h' = h.set 179 (.inr (11, fs.set 0 (.int 0)))) := by
  obtain ⟨a0, a1, a2, a3, a4, a5, a6, a7, a8, a9, a10⟩ := hR
  have hl : h.length ≤ 1000000 := by omega
  refine ⟨⟨_, a1⟩, rowAt f sz j, h, _, m17 hK hl a1 a2 a3 (by decide) a9, ⟨_, a4⟩, ?_, rfl⟩
  rw [tx_at a9 a10]
  exact m151 hK hl a4 a5 a6 a7 a8 (by decide) a9

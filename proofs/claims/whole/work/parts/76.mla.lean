/-! read, the elements on the model's side: attributes. -/
set_option maxRecDepth 100000
set_option linter.unusedVariables false
/-- the model's content p, of its size -/
def zMs (p : Nat) (s : zS) (C : List Int32) : Prop := zMc p s C ∧ s 185 p = nI C.length
theorem z165 {p i : Nat} {s : zS} {C : List Int32} (hp : p < 2) (h : zMs p s C) (hi : i < 2000000) : zf165 179 (nI p) (nI i) s = some (C.getD i (-1), s) := by
  have hl := h.1.1
  unfold zf165
  rw [show zrf 179 8 = 185 from rfl, show zrf 179 7 = 184 from rfl, zal_n (by show p < 2; omega), h.2]
  by_cases g : C.length ≤ i
  · rw [if_pos ((zn_le (by omega) (by omega)).mpr g), zgetD_out g]
  · rw [if_neg (fun q => g ((zn_le (by omega) (by omega)).mp q)), zn_300, zal_n (by show _ < 600; omega), h.1.2 i (by omega)]
theorem zMs_w {p k f : Nat} {x : Int32} {s : zS} {C : List Int32} (h : zMs p s C) (h1 : k ≠ 184) (h2 : k ≠ 185) : zMs p (zw s k f x) C := by
  refine ⟨⟨h.1.1, fun j hj => ?_⟩, ?_⟩
  · rw [zw_ne (Ne.symm h1)]
    exact h.1.2 j hj
  · rw [zw_ne (Ne.symm h2)]
    exact h.2
theorem zMs_fr {p : Nat} {s s' : zS} {C : List Int32} (h1 : s' 184 = s 184) (h2 : s' 185 = s 185) (h : zMs p s C) : zMs p s' C := by
  unfold zMs zMc
  rw [h1, h2]
  exact h
/-- nothing but the model's fields 16, 17 changes -/
def zFr (s s' : zS) : Prop := (∀ q, q ≠ 179 → s' q = s q) ∧ ∀ f, f ≠ 16 → f ≠ 17 → s' 179 f = s 179 f
theorem zFr_t {s s1 s2 : zS} (h1 : zFr s s1) (h2 : zFr s1 s2) : zFr s s2 := ⟨fun q a => (h2.1 q a).trans (h1.1 q a), fun f a b => (h2.2 f a b).trans (h1.2 f a b)⟩
/-- stop -/
theorem z167 {x : Int32} {s : zS} : zf167 179 x s = some (zw (zw s 179 17 0) 179 16 x) := rfl
theorem zFr_stop {x : Int32} {s : zS} : zFr s (zw (zw s 179 17 0) 179 16 x) := ⟨fun q h => by rw [zw_ne h, zw_ne h], fun f a b => by rw [zw_o (Or.inr a), zw_o (Or.inr b)]⟩
theorem zFr_16 {x : Int32} {s : zS} : zFr s (zw s 179 16 x) := ⟨fun q h => by rw [zw_ne h], fun f a b => by rw [zw_o (Or.inr a)]⟩
theorem zrun_s {C : List Int32} : ∀ m i, C.length ≤ i + m → zpn (C.getD (i + zrun C m i) (-1)) = false := by
  intro m
  induction m with
  | zero =>
    intro i h
    rw [zrun, Nat.add_zero, zgetD_out (by omega)]
    decide
  | succ m ih =>
    intro i h
    rw [zrun]
    split
    · have := ih (i + 1) (by omega)
      rw [show i + (zrun C m (i + 1) + 1) = i + 1 + zrun C m (i + 1) by omega]
      exact this
    · next g => simpa using g
theorem zm170_v {p : Nat} {C : List Int32} {x4 : Int32} {s : zS} (hp : p < 2) (h : zMs p s C) : ∀ m n i, m < n → C.length ≤ i + m → i < 5000 → zf170_95 179 n (nI p) (nI i) x4 s = if C.getD (i + zrun C m i) (-1) = 34 then zf170_139 179 x4 (zw s 179 16 (nI (i + zrun C m i + 1))) else zf170_139 179 x4 (zw (zw s 179 17 0) 179 16 (nI (i + zrun C m i))) := by
  have hl := h.1.1
  have stopc : ∀ n i, i < 9000 → zpn (C.getD i (-1)) = false → zf170_95 179 (n + 1) (nI p) (nI i) x4 s = if C.getD i (-1) = 34 then zf170_139 179 x4 (zw s 179 16 (nI (i + 1))) else zf170_139 179 x4 (zw (zw s 179 17 0) 179 16 (nI i)) := by
    intro n i hi g
    rw [zf170_95, z165 hp h (by omega)]
    simp only [zbi]
    rw [z171]
    simp only
    rw [zb_if0, g, if_neg (by decide), z165 hp h (by omega)]
    simp only
    by_cases g2 : C.getD i (-1) = 34
    · rw [if_neg (show ¬ ¬ C.getD i (-1) = 34 from fun q => q g2), if_pos g2]
      simp only [zpf]
      rw [zn_a1]
    · rw [if_pos (show ¬ C.getD i (-1) = 34 from g2), if_neg g2, z167]
      rfl
  intro m
  induction m with
  | zero =>
    intro n i hn hi hi2
    obtain ⟨n, rfl⟩ : ∃ n', n = n' + 1 := ⟨n - 1, by omega⟩
    rw [zrun, Nat.add_zero i]
    exact stopc n i (by omega) (by rw [zgetD_out (by omega)]; decide)
  | succ m ih =>
    intro n i hn hi hi2
    obtain ⟨n, rfl⟩ : ∃ n', n = n' + 1 := ⟨n - 1, by omega⟩
    rw [zrun]
    by_cases g : zpn (C.getD i (-1)) = true
    · have hin : i < C.length := Nat.lt_of_not_le (fun q => by rw [zgetD_out q] at g; exact absurd g (by decide))
      rw [if_pos g, zf170_95, z165 hp h (by omega)]
      simp only [zbi]
      rw [z171]
      simp only
      rw [zb_if0, if_pos g, zn_a1, ih n (i + 1) (by omega) (by omega) (by omega), show i + 1 + zrun C m (i + 1) = i + (zrun C m (i + 1) + 1) by omega]
    · rw [if_neg g, Nat.add_zero i]
      exact stopc n i (by omega) (by simpa using g)
/-- the marks: of which letters there is an attribute -/
def zMk (M : Nat) (ls : List Int32) : Prop := M < 67108864 ∧ ∀ k, k < 26 → (M.testBit k = true ↔ nI (97 + k) ∈ ls)
theorem zsm_v {x : Int32} (h : zsm x = true) : ∃ k, k < 26 ∧ x = nI (97 + k) := by
  unfold zsm at h
  have h1 : 97 ≤ x ∧ x ≤ 122 := by simpa using h
  obtain ⟨v, rfl, hv⟩ := zn_of (x := x) (fun e => absurd (Int32.lt_of_le_of_lt h1.1 e) (by decide))
  have e1 := (zn_le (a := 97) (by decide) hv).mp h1.1
  have e2 := (zn_le (b := 122) hv (by decide)).mp h1.2
  exact ⟨v - 97, by omega, by congr 1; omega⟩
theorem zn_bit (a : Nat) (k : Nat) (ha : a < 67108864) (hk : k < 26) : ((nI a >>> (nI k &&& 31)) &&& 1 = 1) ↔ a.testBit k = true := by
  have e1 : ((BitVec.ofNat 32 k &&& 31#32).smod 32#32).toNat = k := (by decide : ∀ k, k < 26 → ((BitVec.ofNat 32 k &&& 31#32).smod 32#32).toNat = k) k hk
  have e2 : (BitVec.ofNat 32 a).toNat = a := by rw [BitVec.toNat_ofNat]; omega
  have e3 : (BitVec.ofNat 32 a).msb = false := by
    rw [BitVec.msb_eq_decide, e2]
    simp
    omega
  have e5 : (nI a >>> (nI k &&& 31)) &&& 1 = nI ((a / 2 ^ k) % 2) := by
    apply Int32.toBitVec_inj.mp
    unfold nI
    apply BitVec.eq_of_toNat_eq
    simp [Int32.toBitVec_shiftRight]
    rw [e1, BitVec.sshiftRight_eq_of_msb_false e3, BitVec.toNat_ushiftRight, e2, Nat.shiftRight_eq_div_pow]
    omega
  rw [e5, Nat.testBit_eq_decide_div_mod_eq, decide_eq_true_eq]
  have h2 : a / 2 ^ k % 2 < 2 := Nat.mod_lt _ (by decide)
  exact zn_eqL (k := 1) (by omega) (by decide)
theorem zn_1shl (k : Nat) (hk : k < 26) : (1 : Int32) <<< (nI k &&& 31) = nI (2 ^ k) := (by decide : ∀ k, k < 26 → (1 : Int32) <<< (nI k &&& 31) = nI (2 ^ k)) k hk
theorem zn_or (a b : Nat) : nI a ||| nI b = nI (a ||| b) := by
  apply Int32.toBitVec_inj.mp
  unfold nI
  simp [BitVec.ofNat_or]
theorem zm170 {p a M : Nat} {s : zS} {C ls : List Int32} (hp : p < 2) (h : zMs p s C) (h16 : s 179 16 = nI a) (h17 : s 179 17 = 1) (ha : a < 1000) (hM : zMk M ls) :
    (∀ f, zat1 C ls a = .inl f → ∃ s', zf170 179 (nI p) (nI M) s = some (0, s') ∧ s' 179 17 = 0 ∧ s' 179 16 = nI f ∧ zFr s s') ∧
    (∀ m, zat1 C ls a = .inr m → ∃ k s', k < 26 ∧ C.getD (a + 1) (-1) = nI (97 + k) ∧ zf170 179 (nI p) (nI M) s = some (nI (2 ^ k), s') ∧ s' 179 17 = 1 ∧ s' 179 16 = nI (a + 4 + m + 1) ∧ zFr s s') := by
  have hl := h.1.1
  have q2 : nI a + 2 = nI (a + 2) := by rw [zn_lit 2, zn_add]
  have q3 : nI a + 3 = nI (a + 3) := by rw [zn_lit 3, zn_add]
  have q4 : nI a + 4 = nI (a + 4) := by rw [zn_lit 4, zn_add]
  have st : ∀ (f : Nat) (x : Int32), zf170_139 179 x (zw (zw s 179 17 0) 179 16 (nI f)) = some (0, zw (zw s 179 17 0) 179 16 (nI f)) := fun f x => rfl
  have fin : ∀ f : Nat, ∃ s', some ((0 : Int32), zw (zw s 179 17 0) 179 16 (nI f)) = some (0, s') ∧ s' 179 17 = 0 ∧ s' 179 16 = nI f ∧ zFr s s' := fun f => ⟨_, rfl, by rw [zw_o (Or.inr (by decide)), zw_s], zw_s, zFr_stop⟩
  unfold zf170
  simp only [zgf, h16]
  rw [zn_a1, q2, q3, q4, z165 hp h (by omega)]
  simp only [zbi]
  rw [z169]
  simp only
  rw [zb_if0]
  unfold zat1
  by_cases g1 : zsm (C.getD (a + 1) (-1)) = true
  rotate_left
  · rw [if_neg g1, if_neg (fun q => g1 q.1)]
    unfold zf170_36
    rw [zn_a1, z167]
    refine ⟨fun f hf => ?_, fun m hm => (by cases hm)⟩
    cases hf
    exact fin (a + 1)
  rw [if_pos g1]
  obtain ⟨k, hk, ek⟩ := zsm_v g1
  have e97 : C.getD (a + 1) (-1) - 97 = nI k := by
    rw [ek, zn_lit 97, zn_sub (by omega)]
    congr 1
    omega
  have eb := zn_bit M k hM.1 hk
  have em := hM.2 k hk
  rw [← ek] at em
  rw [e97]
  by_cases g2 : C.getD (a + 1) (-1) ∈ ls
  · rw [if_neg (show ¬ ¬ ((nI M >>> (nI k &&& 31)) &&& 1) = 1 from fun q => q (eb.mpr (em.mpr g2))), if_neg (fun q => q.2 g2)]
    unfold zf170_36
    rw [zn_a1, z167]
    refine ⟨fun f hf => ?_, fun m hm => (by cases hm)⟩
    cases hf
    exact fin (a + 1)
  rw [if_pos (show ¬ ((nI M >>> (nI k &&& 31)) &&& 1) = 1 from fun q => g2 (em.mp (eb.mp q))), if_pos ⟨g1, g2⟩, z165 hp h (by omega)]
  simp only
  by_cases g3 : C.getD (a + 2) (-1) = 61
  rotate_left
  · rw [if_neg g3, if_neg g3, z167]
    refine ⟨fun f hf => ?_, fun m hm => (by cases hm)⟩
    cases hf
    exact fin (a + 2)
  rw [if_pos g3, if_pos g3, z165 hp h (by omega)]
  simp only
  by_cases g4 : C.getD (a + 3) (-1) = 34
  rotate_left
  · rw [if_neg g4, if_neg g4, z167]
    refine ⟨fun f hf => ?_, fun m hm => (by cases hm)⟩
    cases hf
    exact fin (a + 3)
  rw [if_pos g4, if_pos g4, zm170_v hp h 300 zfz (a + 4) (by rw [zfz_e]; decide) (by omega) (by omega)]
  generalize zrun C 300 (a + 4) = m
  by_cases g5 : C.getD (a + 4 + m) (-1) = 34
  · rw [if_pos g5, if_pos g5]
    refine ⟨fun f hf => (by cases hf), fun m' hm => ?_⟩
    cases hm
    refine ⟨k, zw s 179 16 (nI (a + 4 + m + 1)), hk, ek, ?_, by rw [zw_o (Or.inr (by decide)), h17], zw_s, zFr_16⟩
    unfold zf170_139
    simp only [zgf]
    rw [zw_o (Or.inr (by decide)), h17, if_neg (by decide), e97, zn_1shl k hk]
  · rw [if_neg g5, if_neg g5, st]
    refine ⟨fun f hf => ?_, fun m' hm => (by cases hm)⟩
    cases hf
    exact fin (a + 4 + m)
theorem zMk_add {M k : Nat} {ls : List Int32} (h : zMk M ls) (hk : k < 26) : zMk (M ||| 2 ^ k) (ls ++ [nI (97 + k)]) := by
  refine ⟨Nat.or_lt_two_pow (n := 26) h.1 (Nat.pow_lt_pow_right (by decide) hk), fun j hj => ?_⟩
  rw [Nat.testBit_or, Nat.testBit_two_pow, Bool.or_eq_true, List.mem_append, List.mem_singleton, h.2 j hj, decide_eq_true_eq]
  constructor
  · rintro (q | q)
    · exact Or.inl q
    · exact Or.inr (by rw [q])
  · rintro (q | q)
    · exact Or.inl q
    · exact Or.inr (by have := (zn_eq (by omega) (by omega)).mp q; omega)

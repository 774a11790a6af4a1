/-! read, the checks: checkSum, checkFault; checked, isChecked. -/
set_option maxRecDepth 100000
set_option linter.unusedVariables false
theorem zn_xor (a b : Nat) : nI a ^^^ nI b = nI (a ^^^ b) := by
  apply Int32.toBitVec_inj.mp
  unfold nI
  simp [BitVec.ofNat_xor]
theorem zn_and (a b : Nat) : nI a &&& nI b = nI (a &&& b) := by
  apply Int32.toBitVec_inj.mp
  unfold nI
  simp [BitVec.ofNat_and]
theorem zn_shl1 (a : Nat) : nI a <<< ((1 : Int32) &&& 31) = nI (a * 2) := by
  apply Int32.toBitVec_inj.mp
  unfold nI
  apply BitVec.eq_of_toNat_eq
  simp [Int32.toBitVec_shiftLeft]
  rw [Nat.shiftLeft_eq]
  omega
theorem zn_shl8 (a : Nat) : nI a <<< ((8 : Int32) &&& 31) = nI (a * 256) := by
  apply Int32.toBitVec_inj.mp
  unfold nI
  apply BitVec.eq_of_toNat_eq
  simp [Int32.toBitVec_shiftLeft]
  rw [Nat.shiftLeft_eq]
  omega
theorem zn_shr (a : Nat) (k : Nat) (ha : a < 65536) (hk : k < 16) : (nI a >>> (nI k &&& 31)) &&& 15 = nI ((a / 2 ^ k) % 16) := by
  have e1 : ((BitVec.ofNat 32 k &&& 31#32).smod 32#32).toNat = k := (by decide : ∀ k, k < 16 → ((BitVec.ofNat 32 k &&& 31#32).smod 32#32).toNat = k) k hk
  have e2 : (BitVec.ofNat 32 a).toNat = a := by rw [BitVec.toNat_ofNat]; omega
  have e3 : (BitVec.ofNat 32 a).msb = false := by
    rw [BitVec.msb_eq_decide, e2]
    simp
    omega
  apply Int32.toBitVec_inj.mp
  unfold nI
  apply BitVec.eq_of_toNat_eq
  simp [Int32.toBitVec_shiftRight]
  rw [e1, BitVec.sshiftRight_eq_of_msb_false e3, BitVec.toNat_ushiftRight, e2, Nat.shiftRight_eq_div_pow]
  have e4 : ∀ x : Nat, x &&& 15 = x % 16 := fun x => Nat.and_two_pow_sub_one_eq_mod x 4
  rw [e4]
  omega
/-- a step of the check, on numbers -/
def zck (v : Nat) : Nat := if v < 32768 then v * 2 else (v * 2 - 65536) ^^^ 4129
theorem zck_lt {v : Nat} (h : v < 65536) : zck v < 65536 := by
  unfold zck
  split
  · omega
  · exact Nat.xor_lt_two_pow (n := 16) (by omega) (by decide)
theorem zbit {v : Nat} (h : v < 65536) : v &&& 32768 = if v < 32768 then 0 else 32768 := by
  apply Nat.eq_of_testBit_eq
  intro i
  rw [Nat.testBit_and, show (32768 : Nat) = 2 ^ 15 from rfl, Nat.testBit_two_pow]
  by_cases hi : 15 = i
  · subst hi
    rw [Nat.testBit_eq_decide_div_mod_eq]
    by_cases g : v < 2 ^ 15
    · rw [if_pos g]
      have : ¬ (v / 2 ^ 15 % 2 = 1) := by
        rw [Nat.div_eq_of_lt g]
        decide
      simp [this]
    · rw [if_neg g, Nat.testBit_two_pow]
      have : v / 2 ^ 15 % 2 = 1 := by
        have g' : 2 ^ 15 ≤ v := Nat.le_of_not_lt g
        omega
      simp [this]
  · have e : decide (15 = i) = false := by simpa using hi
    rw [e, Bool.and_false]
    by_cases g : v < 2 ^ 15
    · rw [if_pos g, Nat.zero_testBit]
    · rw [if_neg g, Nat.testBit_two_pow, e]
theorem zb0 {v : Nat} (h : v < 65536) : (nI v &&& 32768 = 0) ↔ v < 32768 := by
  have e : nI v &&& 32768 = nI (v &&& 32768) := zn_and v 32768
  rw [e, zbit h]
  by_cases g : v < 32768
  · rw [if_pos g]
    exact ⟨fun _ => g, fun _ => rfl⟩
  · rw [if_neg g]
    exact ⟨fun q => absurd q (by decide), fun q => absurd q g⟩
theorem zand16 (x : Nat) : x &&& 65535 = x % 65536 := Nat.and_two_pow_sub_one_eq_mod x 16
/-- the class's step and the model's -/
theorem zck_c {v : Nat} (h : v < 65536) : (if nI v &&& 32768 = 0 then (nI v <<< ((1 : Int32) &&& 31)) &&& 65535 else ((nI v <<< ((1 : Int32) &&& 31)) &&& 65535) ^^^ 4129) = nI (zck v) := by
  have e : (nI v <<< ((1 : Int32) &&& 31)) &&& 65535 = nI ((v * 2) % 65536) := by
    rw [zn_shl1, zn_lit 65535, zn_and, zand16]
  rw [e]
  unfold zck
  by_cases g : v < 32768
  · rw [if_pos ((zb0 h).mpr g), if_pos g]
    congr 1
    omega
  · rw [if_neg (fun q => g ((zb0 h).mp q)), if_neg g, zn_lit 4129, zn_xor, show v * 2 % 65536 = v * 2 - 65536 by omega]
theorem zck_m {v : Nat} (h : v < 65536) : (if nI v &&& 32768 = 0 then nI v * 2 else ((nI v * 2) &&& 65535) ^^^ 4129) = nI (zck v) := by
  have e : (nI v * 2) &&& 65535 = nI ((v * 2) % 65536) := by
    rw [zn_lit 2, zn_mul, zn_lit 65535, zn_and, zand16]
  rw [e]
  unfold zck
  by_cases g : v < 32768
  · rw [if_pos ((zb0 h).mpr g), if_pos g, zn_lit 2, zn_mul]
  · rw [if_neg (fun q => g ((zb0 h).mp q)), if_neg g, zn_lit 4129, zn_xor, show v * 2 % 65536 = v * 2 - 65536 by omega]
def zcks : Nat → Nat → Nat
  | 0, v => v
  | m + 1, v => zcks m (zck v)
theorem zcks_lt : ∀ m v, v < 65536 → zcks m v < 65536 := by
  intro m
  induction m with
  | zero => intro v h; exact h
  | succ m ih => intro v h; exact ih _ (zck_lt h)
/-- the check of letters -/
def zcr : Nat → List Int32 → Nat
  | v, [] => v
  | v, c :: C => zcr (zcks 8 (v ^^^ (c.toNatClampNeg * 256))) C
/-- letters of a text -/
def zLt (C : List Int32) : Prop := ∀ c ∈ C, ∃ v, 32 ≤ v ∧ v ≤ 126 ∧ c = nI v
theorem zcr_lt : ∀ C v, v < 65536 → zLt C → zcr v C < 65536 := by
  intro C
  induction C with
  | nil => intro v h _; exact h
  | cons c C ih =>
    intro v h hC
    obtain ⟨w, w1, w2, rfl⟩ := hC c List.mem_cons_self
    rw [zcr, zn_cl (by omega)]
    have e : v ^^^ (w * 256) < 65536 := Nat.xor_lt_two_pow (n := 16) h (by omega)
    exact ih _ (zcks_lt 8 _ e) (fun x hx => hC x (List.mem_cons_of_mem _ hx))
theorem z38_27 {r : Nat} {k5 : Int32 → Int32 → zS → Option (Int32 × zS)} {x2 : Int32} {s : zS} : ∀ m i n v, i + m = 8 → m < n → v < 65536 → zf38_27 r k5 n (nI v) x2 (nI i) s = k5 (nI (zcks m v)) (x2 + 1) s := by
  intro m
  induction m with
  | zero =>
    intro i n v hi hn hv
    obtain ⟨n, rfl⟩ : ∃ n', n = n' + 1 := ⟨n - 1, by omega⟩
    have : i = 8 := by omega
    subst this
    rw [zf38_27, if_pos (by decide)]
    rfl
  | succ m ih =>
    intro i n v hi hn hv
    obtain ⟨n, rfl⟩ : ∃ n', n = n' + 1 := ⟨n - 1, by omega⟩
    have e := zck_c hv
    rw [zf38_27, if_neg (fun q => by have := (zn_geL (k := 8) (by omega) (by decide)).mp q; omega)]
    unfold zf38_45
    by_cases g : nI v &&& 32768 = 0
    · rw [if_pos g] at e
      rw [if_pos g, if_pos rfl, e, zn_a1, ih (i + 1) n _ (by omega) (by omega) (zck_lt hv)]
      rfl
    · rw [if_neg g] at e
      rw [if_neg g, if_neg (by decide), e, zn_a1, ih (i + 1) n _ (by omega) (by omega) (zck_lt hv)]
      rfl
theorem z163 {c v : Nat} {s : zS} (hv : v < 65536) (hc : c < 256) : zf163 (nI v) (nI c) s = some (nI (zcks 8 (v ^^^ (c * 256))), s) := by
  have l : ∀ m i n v, i + m = 8 → m < n → v < 65536 → zf163_10 n (nI v) (nI i) s = some (nI (zcks m v), s) := by
    intro m
    induction m with
    | zero =>
      intro i n v hi hn hv
      obtain ⟨n, rfl⟩ : ∃ n', n = n' + 1 := ⟨n - 1, by omega⟩
      have : i = 8 := by omega
      subst this
      rw [zf163_10, if_pos (by decide)]
      rfl
    | succ m ih =>
      intro i n v hi hn hv
      obtain ⟨n, rfl⟩ : ∃ n', n = n' + 1 := ⟨n - 1, by omega⟩
      have e := zck_m hv
      rw [zf163_10, if_neg (fun q => by have := (zn_geL (k := 8) (by omega) (by decide)).mp q; omega)]
      by_cases g : nI v &&& 32768 = 0
      · rw [if_pos g] at e
        rw [if_pos g, e, zn_a1, ih (i + 1) n _ (by omega) (by omega) (zck_lt hv)]
        rfl
      · rw [if_neg g] at e
        rw [if_neg g, e, zn_a1, ih (i + 1) n _ (by omega) (by omega) (zck_lt hv)]
        rfl
  unfold zf163
  rw [zn_lit 256, zn_mul, zn_xor]
  exact l 8 0 zfz _ rfl (by rw [zfz_e]; decide) (Nat.xor_lt_two_pow (n := 16) hv (by omega))

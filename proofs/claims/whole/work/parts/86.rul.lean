/-! The faults of elements (rules), on the class's side. -/
set_option maxRecDepth 100000
set_option linter.unusedVariables false
/-- may an element of the kind k stand in one of the kind o -/
def zmst (k o : Int32) : Bool :=
  if o = 100 ∨ o = 105 then decide (k = 112) || decide (k = 108)
  else if o = 108 then decide (k = 105)
  else if o = 112 ∨ o = 120 then decide (k = 120)
  else if o = 116 then decide (k = 115)
  else false
theorem z55 {k o : Int32} {s : zS} : zf55 k o s = some (if zmst k o = true then 1 else 0, s) := by
  unfold zf55 zf55_72 zf55_102 zmst
  by_cases g1 : o = 100
  · by_cases k1 : k = 112
    · simp [g1, k1, zrb1]
    · by_cases k2 : k = 108 <;> simp [g1, k1, k2, zrb0, zrb1]
  by_cases g2 : o = 105
  · by_cases k1 : k = 112
    · simp [g2, k1, zrb1]
    · by_cases k2 : k = 108 <;> simp [g2, k1, k2, zrb0, zrb1]
  by_cases g3 : o = 108
  · by_cases k1 : k = 105 <;> simp [g3, k1, zrb0, zrb1]
  by_cases g4 : o = 112
  · by_cases k1 : k = 120 <;> simp [g4, k1, zrb0, zrb1]
  by_cases g5 : o = 116
  · by_cases k1 : k = 115 <;> simp [g5, k1, zrb0, zrb1]
  by_cases g6 : o = 120
  · by_cases k1 : k = 120 <;> simp [g6, k1, zrb0, zrb1]
  simp [g1, g2, g3, g4, g5, g6, zrb0]
/-- the first letter of the element e from i on -/
def zfl (O : List (Nat × Nat)) (e : Nat) : Nat → Nat → Option Nat
  | 0, _ => none
  | m + 1, i => if zow O i = nI e then some i else zfl O e m (i + 1)
/-- has e one of these kinds in it, from i on -/
def zhs (E : List zE) (e : Nat) (k1 k2 : Int32) : Nat → Nat → Bool
  | 0, _ => false
  | m + 1, i => if (E.getD i (0, 0, 0, [])).2.2.1 = nI e ∧ (zkd E i = k1 ∨ zkd E i = k2) then true else zhs E e k1 k2 m (i + 1)
def zlk (E : List zE) (e : Nat) : Bool := (decide (zkd E e = 108) && !(zhs E e 105 105 (E.length - (e + 1)) (e + 1))) || (decide (zkd E e = 105) && !(zhs E e 112 108 (E.length - (e + 1)) (e + 1)))
/-- does e stand where it may; out: the outermost kind -/
def zst (E : List zE) (out : Int32) (e : Nat) : Bool := if (E.getD e (0, 0, 0, [])).2.2.1 = -1 then decide (zkd E e = out) else zmst (zkd E e) (zkd E (E.getD e (0, 0, 0, [])).2.2.1.toNatClampNeg)
/-- the fault of an element -/
def zfo (C : List Int32) (E : List zE) (O : List (Nat × Nat)) (out : Int32) (e : Nat) : Option Nat :=
  if zst E out e = true then
    match zbd C (zkd E e) (E.getD e (0, 0, 0, [])).2.2.2 with
    | some f => some f
    | none => if zkd E e = 115 ∧ (110 : Int32) ∉ (E.getD e (0, 0, 0, [])).2.2.2.map (fun q => C.getD q.1 (-1)) then some (E.getD e (0, 0, 0, [])).2.1
      else match (if zkd E e = 112 ∨ zkd E e = 120 then none else zfl O e C.length 0) with
        | some j => some j
        | none => if zlk E e = true then some (E.getD e (0, 0, 0, [])).2.1 else none
  else some (E.getD e (0, 0, 0, [])).2.1
def zoi (o : Option Nat) : Int32 := match o with
  | none => -1
  | some f => nI f
theorem zow_n {C : List Int32} {E : List zE} {O : List (Nat × Nat)} {e j : Nat} (h : zoo C E O) (he : e < 1000) (hE : E.length ≤ 30) (hj : zow O j = nI e) : j < C.length ∧ (E.getD e (0, 0, 0, [])).2.1 < j := by
  unfold zow at hj
  split at hj
  · next q hq =>
    have h1 := List.find?_some hq
    have h2 := h q (List.mem_of_find?_eq_some hq)
    have h3 : q.1 = j := by simpa using h1
    have h4 := (zn_eq (by omega) (by omega)).mp hj
    rw [h3, h4] at h2
    exact ⟨h2.1, h2.2.2⟩
  · exact absurd hj.symm (zn_nm (by omega))
theorem zfl_skip {C : List Int32} {E : List zE} {O : List (Nat × Nat)} {e : Nat} (h : zoo C E O) (he : e < 1000) (hE : E.length ≤ 30) : ∀ d i m, i + d ≤ (E.getD e (0, 0, 0, [])).2.1 + 1 → zfl O e (d + m) i = zfl O e m (i + d) := by
  intro d
  induction d with
  | zero => intro i m hi; rw [Nat.zero_add, Nat.add_zero]
  | succ d ih =>
    intro i m hi
    rw [show d + 1 + m = (d + m) + 1 by omega, zfl, if_neg (fun q => by have := (zow_n h he hE q).2; omega), ih (i + 1) m (by omega), show i + 1 + d = i + (d + 1) by omega]
theorem z58 {a r e b : Nat} {s : zS} {C : List Int32} {O : List (Nat × Nat)} (hB : zB a r) (hC : zRow r s C) (hO : ∀ j, j < 300 → s (a + 8) j = zow O j) (he : e < 30) (h2 : s (a + 2) e = nI b) (hb : b < C.length) : zf58 a (nI e) s = some (zoi (zfl O e (C.length - b) b), s) := by
  obtain ⟨b0, b1, b2, b3, b4, b5, b6, b7, b8, b9⟩ := zB_e hB
  obtain ⟨c1, c2, c3, c4, c5, c6, c7, c8, c9, c10⟩ := zB_c hB
  have hc3 := hC.2.1
  rw [b9, c9] at hc3
  have l : ∀ m n i, i + m = C.length → m < n → zf58_7 a n (nI e) (nI i) s = some (zoi (zfl O e m i), s) := by
    intro m
    induction m with
    | zero =>
      intro n i hi hn
      obtain ⟨n, rfl⟩ : ∃ n', n = n' + 1 := ⟨n - 1, by omega⟩
      rw [zf58_7, b0, zgf_e, hC.1, if_pos ((zn_le (by omega) (by omega)).mpr (by omega))]
      rfl
    | succ m ih =>
      intro n i hi hn
      obtain ⟨n, rfl⟩ : ∃ n', n = n' + 1 := ⟨n - 1, by omega⟩
      rw [zf58_7, b0, zgf_e, hC.1, if_neg (fun q => by have := (zn_le (by omega) (by omega)).mp q; omega), b8, zal_n (by omega), hO i (by omega), zfl]
      by_cases g : zow O i = nI e
      · rw [if_neg (fun q => q g), if_pos g]
        rfl
      · rw [if_pos g, if_neg g, zn_a1]
        exact ih n (i + 1) (by omega) (by omega)
  unfold zf58
  rw [b2, zal_n (by omega), h2]
  exact l (C.length - b) zfz b (by omega) (by rw [zfz_e]; omega)
theorem z60 {a e : Nat} {k1 k2 : Int32} {r : Nat} {s : zS} {E : List zE} (hB : zB a r) (hE : zEl a s E) (hb : zEb E) (he : e < E.length) : zf60 a (nI e) k1 k2 s = some (if zhs E e k1 k2 (E.length - (e + 1)) (e + 1) = true then 1 else 0, s) := by
  obtain ⟨b0, b1, b2, b3, b4, b5, b6, b7, b8, b9⟩ := zB_e hB
  obtain ⟨c1, c2, c3, c4, c5, c6, c7, c8, c9, c10⟩ := zB_c hB
  have h30 := hb.1
  have l : ∀ m n i, i + m = E.length → m < n → zf60_5 a n (nI e) k1 k2 (nI i) s = some (if zhs E e k1 k2 m i = true then 1 else 0, s) := by
    intro m
    induction m with
    | zero =>
      intro n i hi hn
      obtain ⟨n, rfl⟩ : ∃ n', n = n' + 1 := ⟨n - 1, by omega⟩
      rw [zf60_5, zgf_e, hE.1, if_pos ((zn_le (by omega) (by omega)).mpr (by omega))]
      rfl
    | succ m ih =>
      intro n i hi hn
      obtain ⟨n, rfl⟩ : ∃ n', n = n' + 1 := ⟨n - 1, by omega⟩
      have hi2 := hE.2.2 i (by omega)
      have kk : s (a + 1) i = zkd E i := hi2.1
      rw [zf60_5, zgf_e, hE.1, if_neg (fun q => by have := (zn_le (by omega) (by omega)).mp q; omega), b3, zal_n (by omega), hi2.2.2.1, b1, zal_n (by omega), zal_n (by omega), kk, zn_a1, ih n (i + 1) (by omega) (by omega), zhs]
      by_cases g1 : (E.getD i (0, 0, 0, [])).2.2.1 = nI e
      · by_cases g2 : zkd E i = k1
        · simp only [g1, g2, not_true_eq_false, if_false, if_true, true_or, and_self]
          rfl
        · by_cases g3 : zkd E i = k2
          · simp only [g1, g3, not_true_eq_false, if_false, if_true, or_true, and_self, zrb1, ite_self]
          · simp only [g1, g2, g3, not_true_eq_false, not_false_eq_true, if_false, if_true, or_self, and_false]
      · simp only [g1, not_false_eq_true, if_true, false_and, if_false]
  unfold zf60
  rw [zn_a1]
  exact l (E.length - (e + 1)) zfz (e + 1) (by omega) (by rw [zfz_e]; omega)
theorem z59 {a e : Nat} {r : Nat} {s : zS} {E : List zE} (hB : zB a r) (hE : zEl a s E) (hb : zEb E) (he : e < E.length) : zf59 a (nI e) s = some (if zlk E e = true then 1 else 0, s) := by
  obtain ⟨b0, b1, b2, b3, b4, b5, b6, b7, b8, b9⟩ := zB_e hB
  obtain ⟨c1, c2, c3, c4, c5, c6, c7, c8, c9, c10⟩ := zB_c hB
  have h30 := hb.1
  have kk : s (a + 1) e = zkd E e := (hE.2.2 e he).1
  unfold zf59 zf59_25 zlk
  rw [b1, zal_n (by omega), kk, z60 hB hE hb he, z60 hB hE hb he]
  simp only [zbi_e]
  by_cases g1 : zkd E e = 108
  · have g2 : ¬ zkd E e = 105 := by rw [g1]; decide
    cases h1 : zhs E e 105 105 (E.length - (e + 1)) (e + 1) <;> simp [g1, zrb0, zrb1]
  · by_cases g2 : zkd E e = 105
    · cases h1 : zhs E e 112 108 (E.length - (e + 1)) (e + 1) <;> simp [g2, zrb0, zrb1]
    · simp [g1, g2, zrb0]
theorem z54 {a r e : Nat} {out : Int32} {s : zS} {C : List Int32} {E : List zE} {O : List (Nat × Nat)} (hB : zB a r) (hC : zRow r s C) (hP : zPz a s E O) (hok : zok C E) (hoo : zoo C E O) (he : e < E.length) : zf54 a (nI e) out s = some (zoi (zfo C E O out e), s) := by
  obtain ⟨b0, b1, b2, b3, b4, b5, b6, b7, b8, b9⟩ := zB_e hB
  obtain ⟨c1, c2, c3, c4, c5, c6, c7, c8, c9, c10⟩ := zB_c hB
  obtain ⟨hE, hb, hOw⟩ := hP
  have h30 := hb.1
  have h60 := hb.2.1
  have hle := zfa_le he
  have hc3 := hC.2.1
  rw [b9, c9] at hc3
  obtain ⟨k1, k2, k3, k4, k5, k6⟩ := hE.2.2 e he
  have kk : s (a + 1) e = zkd E e := k1
  obtain ⟨o1, o2⟩ := hok e he
  obtain ⟨p1, p2, p3, p4, b, p5, p6, p7⟩ := o1
  have hbeg : (E.getD e (0, 0, 0, [])).2.1 < C.length := zin p3 (by decide)
  have hpl := hb.2.2 e he
  -- the last tests
  have t147 : ∀ o : Option Nat, (∀ j, o = some j → j < 5000) → zf54_147 a (nI e) (zoi o) s = some (zoi (match o with | some j => some j | none => if zlk E e = true then some (E.getD e (0, 0, 0, [])).2.1 else none), s) := by
    intro o ho
    unfold zf54_147
    cases o with
    | some j =>
      have := ho j rfl
      rw [if_neg (show ¬ zoi (some j) = -1 from zn_nm (by omega))]
    | none =>
      rw [if_pos (show zoi none = -1 from rfl), z59 hB hE hb he, zbi_e, zb_if0, b2, zal_n (by omega), k2]
      cases zlk E e <;> rfl
  have t126 : zf54_126 a (nI e) (zkd E e) s = some (zoi (match (if zkd E e = 112 ∨ zkd E e = 120 then none else zfl O e C.length 0) with | some j => some j | none => if zlk E e = true then some (E.getD e (0, 0, 0, [])).2.1 else none), s) := by
    have n147 := t147 none (fun j q => by cases q)
    have e1 : zf54_147 a (nI e) (-1) s = zf54_147 a (nI e) (zoi none) s := rfl
    have fl : zfl O e C.length 0 = zfl O e (C.length - (E.getD e (0, 0, 0, [])).2.1) (E.getD e (0, 0, 0, [])).2.1 := by
      have := zfl_skip hoo (by omega : e < 1000) h30 (E.getD e (0, 0, 0, [])).2.1 0 (C.length - (E.getD e (0, 0, 0, [])).2.1) (by omega)
      rw [Nat.zero_add, show (E.getD e (0, 0, 0, [])).2.1 + (C.length - (E.getD e (0, 0, 0, [])).2.1) = C.length by omega] at this
      exact this
    unfold zf54_126
    rw [e1, n147]
    by_cases g1 : zkd E e = 112
    · rw [if_pos g1, if_pos (Or.inl g1)]
    · rw [if_neg g1]
      by_cases g2 : zkd E e = 120
      · rw [if_neg (fun q => q g2), if_pos (Or.inr g2)]
      · rw [if_pos g2, if_neg (fun q => q.elim g1 g2), z58 hB hC hOw (by omega) k2 hbeg, zbi_e, fl]
        refine t147 _ (fun j q => ?_)
        have lt : ∀ m i j, zfl O e m i = some j → j < i + m := by
          intro m
          induction m with
          | zero => intro i j h; cases h
          | succ m ih =>
            intro i j h
            rw [zfl] at h
            split at h
            · cases h; omega
            · have := ih _ _ h
              omega
        have := lt _ _ _ q
        omega
  have t46 : zf46 a (nI e) 110 s = some (zoi ((zfnd C (E.getD e (0, 0, 0, [])).2.2.2 110 (E.getD e (0, 0, 0, [])).2.2.2.length 0).map (fun j => zfa E e + j)), s) := by
    rw [zs46 hB hC hE hb he]
    cases zfnd C (E.getD e (0, 0, 0, [])).2.2.2 110 (E.getD e (0, 0, 0, [])).2.2.2.length 0 <;> rfl
  have fm := zfnd_m (C := C) (A := (E.getD e (0, 0, 0, [])).2.2.2) (x := 110)
  have fndl : ∀ m i j, i + m ≤ (E.getD e (0, 0, 0, [])).2.2.2.length → zfnd C (E.getD e (0, 0, 0, [])).2.2.2 110 m i = some j → j < (E.getD e (0, 0, 0, [])).2.2.2.length := by
    intro m
    induction m with
    | zero => intro i j _ h; cases h
    | succ m ih =>
      intro i j hi h
      rw [zfnd] at h
      split at h
      · cases h
        omega
      · exact ih (i + 1) j (by omega) h
  -- behind the attributes
  have tend : (if ¬ zkd E e = 115 then zf54_126 a (nI e) (zkd E e) s else zbi (zf46 a (nI e) 110 s) fun v2 s3 => if ¬ v2 = (-1) then zf54_126 a (nI e) (zkd E e) s3 else zal s3 (a + 2) (nI e) fun v4 => some (v4, s3)) = some (zoi (if zkd E e = 115 ∧ (110 : Int32) ∉ (E.getD e (0, 0, 0, [])).2.2.2.map (fun q => C.getD q.1 (-1)) then some (E.getD e (0, 0, 0, [])).2.1 else match (if zkd E e = 112 ∨ zkd E e = 120 then none else zfl O e C.length 0) with | some j => some j | none => if zlk E e = true then some (E.getD e (0, 0, 0, [])).2.1 else none), s) := by
    by_cases g : zkd E e = 115
    · rw [if_neg (fun q => q g), t46, zbi_e]
      cases hf : zfnd C (E.getD e (0, 0, 0, [])).2.2.2 110 (E.getD e (0, 0, 0, [])).2.2.2.length 0 with
      | none =>
        rw [if_neg (show ¬ ¬ zoi (Option.map (fun j => zfa E e + j) none) = -1 from fun q => q rfl), if_pos ⟨g, fm.mp hf⟩, zal_n (by omega), k2]
        rfl
      | some j =>
        have := fndl _ 0 j (by omega) hf
        rw [if_pos (show ¬ zoi (Option.map (fun j => zfa E e + j) (some j)) = -1 from zn_nm (a := zfa E e + j) (by omega)), if_neg (fun q => by have := fm.mpr q.2; rw [hf] at this; cases this), t126]
    · rw [if_pos g, if_neg (fun q => g q.1), t126]
  have t67 : ∀ m i n, i + m = (E.getD e (0, 0, 0, [])).2.2.2.length → m < n → zf54_67 a n (nI e) (zkd E e) (nI (zfa E e + i)) s = some (zoi (match zbd C (zkd E e) ((E.getD e (0, 0, 0, [])).2.2.2.drop i) with | some f => some f | none => if zkd E e = 115 ∧ (110 : Int32) ∉ (E.getD e (0, 0, 0, [])).2.2.2.map (fun q => C.getD q.1 (-1)) then some (E.getD e (0, 0, 0, [])).2.1 else match (if zkd E e = 112 ∨ zkd E e = 120 then none else zfl O e C.length 0) with | some j => some j | none => if zlk E e = true then some (E.getD e (0, 0, 0, [])).2.1 else none), s) := by
    intro m
    induction m with
    | zero =>
      intro i n hi hn
      obtain ⟨n, rfl⟩ : ∃ n', n = n' + 1 := ⟨n - 1, by omega⟩
      rw [zf54_67, b5, zal_n (by omega), k5, if_pos ((zn_le (by omega) (by omega)).mpr (by omega)), b2, tend, List.drop_eq_nil_of_le (by omega), zbd]
    | succ m ih =>
      intro i n hi hn
      obtain ⟨n, rfl⟩ : ∃ n', n = n' + 1 := ⟨n - 1, by omega⟩
      have hil : i < (E.getD e (0, 0, 0, [])).2.2.2.length := by omega
      have hp1 := hpl i hil
      obtain ⟨a6, a7⟩ := k6 i hil
      have hm : ((E.getD e (0, 0, 0, [])).2.2.2.getD i (0, 0)).2 < 5000 := by
        have ch : ∀ A a0 b0, zch C a0 A b0 → ∀ j, j < A.length → (A.getD j (0, 0)).2 < C.length := by
          intro A
          induction A with
          | nil => intro a0 b0 _ j hj; exact absurd hj (Nat.not_lt_zero _)
          | cons q A ih2 =>
            intro a0 b0 hc j hj
            cases j with
            | zero =>
              have := zin hc.2.2.2.2.2.2.1 (by decide)
              show q.2 < C.length
              omega
            | succ j =>
              rw [List.length_cons] at hj
              exact ih2 _ _ hc.2.2.2.2.2.2.2 j (by omega)
        have := ch _ _ _ p5 i hil
        omega
      rw [zf54_67, b5, zal_n (by omega), k5, if_neg (fun q => by have := (zn_le (by omega) (by omega)).mp q; omega), z56 hB hC (by omega) a6 a7 (by omega) hm, zbi_e, zb_if, b6, zal_n (by omega), a6, zn_a1, show zfa E e + i + 1 = zfa E e + (i + 1) by omega, ih (i + 1) n (by omega) (by omega)]
      have ed : (E.getD e (0, 0, 0, [])).2.2.2.drop i = (E.getD e (0, 0, 0, [])).2.2.2.getD i (0, 0) :: (E.getD e (0, 0, 0, [])).2.2.2.drop (i + 1) := by
        rw [List.drop_eq_getElem_cons hil, zgetA hil]
      rw [ed, zbd]
      cases hz : zmy (zkd E e) (C.getD ((E.getD e (0, 0, 0, [])).2.2.2.getD i (0, 0)).1 (-1)) (C.getD (((E.getD e (0, 0, 0, [])).2.2.2.getD i (0, 0)).1 + 3) (-1)) (C.getD (((E.getD e (0, 0, 0, [])).2.2.2.getD i (0, 0)).1 + 4) (-1)) ((E.getD e (0, 0, 0, [])).2.2.2.getD i (0, 0)).2 with
      | true => rw [if_pos rfl, if_pos rfl]
      | false => rw [if_neg (by decide), if_neg (by decide)]; rfl
  have t45 : ∀ t : Bool, zf54_45 a (nI e) (zkd E e) (if t = true then 1 else 0) s = some (zoi (if t = true then (match zbd C (zkd E e) (E.getD e (0, 0, 0, [])).2.2.2 with | some f => some f | none => if zkd E e = 115 ∧ (110 : Int32) ∉ (E.getD e (0, 0, 0, [])).2.2.2.map (fun q => C.getD q.1 (-1)) then some (E.getD e (0, 0, 0, [])).2.1 else match (if zkd E e = 112 ∨ zkd E e = 120 then none else zfl O e C.length 0) with | some j => some j | none => if zlk E e = true then some (E.getD e (0, 0, 0, [])).2.1 else none) else some (E.getD e (0, 0, 0, [])).2.1), s) := by
    intro t
    unfold zf54_45
    rw [zb_if, b4, zal_n (by omega), k4, b2, zal_n (by omega), k2]
    cases t with
    | true =>
      have := t67 _ 0 zfz (Nat.zero_add _) (by rw [zfz_e]; omega)
      rw [Nat.add_zero, List.drop_zero] at this
      rw [if_pos rfl, if_pos rfl]
      exact this
    | false => rw [if_neg (by decide), if_neg (by decide)]; rfl
  unfold zf54 zfo zst
  rw [b1, zal_n (by omega), kk, b3, zal_n (by omega), k3]
  rcases o2 with ⟨o3, o4⟩ | ⟨j, o3, o4⟩
  · rw [o4, if_neg (show ¬ ¬ (-1 : Int32) = -1 from fun q => q rfl), if_pos (show (-1 : Int32) = -1 from rfl)]
    by_cases g : zkd E e = out
    · rw [if_neg (show ¬ ¬ zkd E e = out from fun q => q g)]
      have := t45 true
      rw [decide_eq_true g]
      exact this
    · rw [if_pos (show ¬ zkd E e = out from g)]
      have := t45 false
      rw [decide_eq_false g]
      exact this
  · have kj : s (a + 1) j = zkd E j := (hE.2.2 j (by omega)).1
    rw [o4, if_pos (show ¬ nI j = -1 from zn_nm (by omega)), if_neg (show ¬ nI j = -1 from zn_nm (by omega)), zal_n (by omega), kj, z55, zbi_e, zn_cl (by omega)]
    exact t45 _
/-- the first fault of all elements from e on -/
def zff (C : List Int32) (E : List zE) (O : List (Nat × Nat)) (out : Int32) : Nat → Nat → Option Nat
  | 0, _ => none
  | m + 1, e => match zfo C E O out e with
    | some f => some f
    | none => zff C E O out m (e + 1)
theorem zfo_b {C : List Int32} {E : List zE} {O : List (Nat × Nat)} {out : Int32} {e f : Nat} (hb : zEb E) (hok : zok C E) (he : e < E.length) (hl : C.length ≤ 300) (h : zfo C E O out e = some f) : f < 1000 := by
  obtain ⟨o1, o2⟩ := hok e he
  obtain ⟨p1, p2, p3, p4, b, p5, p6, p7⟩ := o1
  have hbeg : (E.getD e (0, 0, 0, [])).2.1 < C.length := zin p3 (by decide)
  have hpl := hb.2.2 e he
  have lt : ∀ m i j, zfl O e m i = some j → j < i + m := by
    intro m
    induction m with
    | zero => intro i j h; cases h
    | succ m ih =>
      intro i j h
      rw [zfl] at h
      split at h
      · cases h; omega
      · have := ih _ _ h
        omega
  have lb : ∀ (A : List (Nat × Nat)) f, (∀ q ∈ A, q.1 < 300) → zbd C (zkd E e) A = some f → f < 300 := by
    intro A
    induction A with
    | nil => intro f _ h; cases h
    | cons q A ih =>
      intro f hA h
      rw [zbd] at h
      split at h
      · exact ih f (fun x hx => hA x (List.mem_cons_of_mem _ hx)) h
      · cases h
        exact hA _ List.mem_cons_self
  have hA : ∀ q ∈ (E.getD e (0, 0, 0, [])).2.2.2, q.1 < 300 := by
    intro q hq
    obtain ⟨j, hj, ej⟩ := List.getElem_of_mem hq
    have := hpl j hj
    rw [zgetA hj, ej] at this
    exact this
  unfold zfo at h
  split at h
  · split at h
    · next f' hz =>
      cases h
      have := lb _ _ hA hz
      omega
    · split at h
      · cases h; omega
      · split at h
        · next j hj =>
          cases h
          split at hj
          · cases hj
          · have := lt _ _ _ hj
            omega
        · split at h
          · cases h; omega
          · cases h
  · cases h; omega
theorem z53 {a r : Nat} {out : Int32} {s : zS} {C : List Int32} {E : List zE} {O : List (Nat × Nat)} (hB : zB a r) (hC : zRow r s C) (hP : zPz a s E O) (hok : zok C E) (hoo : zoo C E O) : zf53 a out s = some (zoi (zff C E O out E.length 0), s) := by
  obtain ⟨b0, b1, b2, b3, b4, b5, b6, b7, b8, b9⟩ := zB_e hB
  obtain ⟨c1, c2, c3, c4, c5, c6, c7, c8, c9, c10⟩ := zB_c hB
  have h30 := hP.2.1.1
  have hc3 := hC.2.1
  rw [b9, c9] at hc3
  have l : ∀ m n i, i + m = E.length → m < n → zf53_2 a n out (nI i) s = some (zoi (zff C E O out m i), s) := by
    intro m
    induction m with
    | zero =>
      intro n i hi hn
      obtain ⟨n, rfl⟩ : ∃ n', n = n' + 1 := ⟨n - 1, by omega⟩
      rw [zf53_2, zgf_e, hP.1.1, if_pos ((zn_le (by omega) (by omega)).mpr (by omega))]
      rfl
    | succ m ih =>
      intro n i hi hn
      obtain ⟨n, rfl⟩ : ∃ n', n = n' + 1 := ⟨n - 1, by omega⟩
      rw [zf53_2, zgf_e, hP.1.1, if_neg (fun q => by have := (zn_le (by omega) (by omega)).mp q; omega), z54 hB hC hP hok hoo (by omega), zbi_e, zff]
      cases hz : zfo C E O out i with
      | none =>
        rw [if_pos (show zoi none = -1 from rfl), zn_a1]
        exact ih n (i + 1) (by omega) (by omega)
      | some f =>
        have := zfo_b hP.2.1 hok (by omega) hc3 hz
        rw [if_neg (show ¬ zoi (some f) = -1 from zn_nm (by omega))]
  exact l E.length zfz 0 (Nat.zero_add _) (by rw [zfz_e]; omega)

/-! The values of attributes: names (capital letters) and numbers, both sides. -/
set_option maxRecDepth 100000
set_option linter.unusedVariables false
/-- the attribute with the letter l -/
def zfq (C : List Int32) (l : Int32) : List (Nat × Nat) → Option (Nat × Nat)
  | [] => none
  | q :: A => if C.getD q.1 (-1) = l then some q else zfq C l A
theorem zvp_q {C : List Int32} {l : Int32} : ∀ A, zvp C l A = (zfq C l A).map (fun q => q.1 + 3) := by
  intro A
  induction A with
  | nil => rfl
  | cons q A ih =>
    rw [zvp, zfq]
    split
    · rfl
    · exact ih
theorem zfq_m {C : List Int32} {l : Int32} {q : Nat × Nat} : ∀ A, zfq C l A = some q → q ∈ A ∧ C.getD q.1 (-1) = l := by
  intro A
  induction A with
  | nil => intro h; cases h
  | cons x A ih =>
    intro h
    rw [zfq] at h
    split at h
    · next g => cases h; exact ⟨List.mem_cons_self, g⟩
    · exact ⟨List.mem_cons_of_mem _ (ih h).1, (ih h).2⟩
theorem zfnd_q {C : List Int32} {A : List (Nat × Nat)} {x : Int32} : ∀ m k, k + m = A.length → (zfnd C A x m k = none → zfq C x (A.drop k) = none) ∧ (∀ j, zfnd C A x m k = some j → j < A.length ∧ zfq C x (A.drop k) = some (A.getD j (0, 0))) := by
  intro m
  induction m with
  | zero =>
    intro k h
    rw [List.drop_eq_nil_of_le (by omega)]
    exact ⟨fun _ => rfl, fun j q => (by cases q)⟩
  | succ m ih =>
    intro k h
    have hk : k < A.length := by omega
    have e : A.drop k = A.getD k (0, 0) :: A.drop (k + 1) := by
      rw [List.drop_eq_getElem_cons hk]
      congr 1
      rw [List.getD_eq_getElem?_getD, List.getElem?_eq_getElem hk]
      rfl
    rw [zfnd, e, zfq]
    by_cases g : C.getD (A.getD k (0, 0)).1 (-1) = x
    · rw [if_pos g, if_pos g]
      exact ⟨fun q => (by cases q), fun j q => by cases q; exact ⟨hk, rfl⟩⟩
    · rw [if_neg g, if_neg g]
      exact ih (k + 1) (by omega)
/-- all attributes may stand there -/
def zga (C : List Int32) (k : Int32) (A : List (Nat × Nat)) : Prop := ∀ q ∈ A, zmy k (C.getD q.1 (-1)) (C.getD (q.1 + 3) (-1)) (C.getD (q.1 + 4) (-1)) q.2 = true
theorem zbd_ga {C : List Int32} {k : Int32} : ∀ A, zbd C k A = none → zga C k A := by
  intro A
  induction A with
  | nil => intro _ q hq; cases hq
  | cons x A ih =>
    intro h
    rw [zbd] at h
    split at h
    · next g =>
      intro q hq
      rcases List.mem_cons.mp hq with rfl | hq
      · exact g
      · exact ih h q hq
    · cases h
theorem zmy_c {k l c d : Int32} {m : Nat} (h : zmy k l c d m = true) (hl : l = 110 ∨ l = 102 ∨ l = 121) : zcl c = true := by
  unfold zmy at h
  split at h
  · simp only [Bool.and_eq_true] at h; exact h.2.2
  · split at h
    · split at h
      · simp only [Bool.and_eq_true] at h; exact h.2
      · next g =>
        rcases hl with rfl | rfl | rfl
        · exact absurd (Or.inl rfl) g
        · exact absurd (Or.inr rfl) g
        · simp at h
    · cases h
theorem zmy_n {k l c d : Int32} {m : Nat} (h : zmy k l c d m = true) (hl : l = 98 ∨ l = 122 ∨ l = 107) : zdg c = true ∧ (m = 1 ∨ (m = 2 ∧ zdg d = true)) ∧ (l = 98 → m = 1 ∧ (c = 48 ∨ c = 49)) ∧ (l = 122 → c ≠ 48) ∧ (l = 107 → m = 1) := by
  unfold zmy at h
  split at h
  · simp only [Bool.and_eq_true, decide_eq_true_eq] at h
    rcases hl with rfl | rfl | rfl <;> exact absurd h.1 (by decide)
  · split at h
    · rcases hl with rfl | rfl | rfl
      · rw [if_neg (by decide), if_pos rfl] at h
        simp only [Bool.and_eq_true, Bool.or_eq_true, decide_eq_true_eq] at h
        refine ⟨?_, Or.inl h.1, fun _ => h, fun q => absurd q (by decide), fun q => absurd q (by decide)⟩
        rcases h.2 with g | g <;> rw [g] <;> decide
      · rw [if_neg (by decide), if_neg (by decide), if_pos rfl] at h
        simp only [Bool.and_eq_true, Bool.or_eq_true, decide_eq_true_eq] at h
        exact ⟨h.1, h.2.2, fun q => absurd q (by decide), fun _ => h.2.1, fun q => absurd q (by decide)⟩
      · rw [if_neg (by decide), if_neg (by decide), if_neg (by decide), if_pos rfl] at h
        simp only [Bool.and_eq_true, Bool.or_eq_true, decide_eq_true_eq] at h
        exact ⟨h.2, Or.inl h.1, fun q => absurd q (by decide), fun q => absurd q (by decide), fun _ => h.1⟩
    · cases h
theorem zcl_v {x : Int32} (h : zcl x = true) : ∃ v, v < 26 ∧ x = nI (65 + v) := by
  unfold zcl at h
  have h1 : 65 ≤ x ∧ x ≤ 90 := by simpa using h
  obtain ⟨v, rfl, hv⟩ := zn_of (x := x) (fun e => absurd (Int32.lt_of_le_of_lt h1.1 e) (by decide))
  have a := (zn_le (a := 65) (by decide) hv).mp h1.1
  have b := (zn_le (b := 90) hv (by decide)).mp h1.2
  exact ⟨v - 65, by omega, by congr 1; omega⟩
/-- the name that an attribute tells -/
def zcn (C : List Int32) (l : Int32) (A : List (Nat × Nat)) : Option Nat := (zfq C l A).map (fun q => (C.getD (q.1 + 3) (-1)).toNatClampNeg - 65)
/-- the number that an attribute tells -/
def znb (C : List Int32) (l : Int32) (A : List (Nat × Nat)) : Option Nat := (zfq C l A).map (fun q => if q.2 = 1 then zdv (C.getD (q.1 + 3) (-1)) else 10 * zdv (C.getD (q.1 + 3) (-1)) + zdv (C.getD (q.1 + 4) (-1)))
theorem zcn_b {C : List Int32} {k l : Int32} {A : List (Nat × Nat)} {n : Nat} (hg : zga C k A) (hl : l = 110 ∨ l = 102 ∨ l = 121) (h : zcn C l A = some n) : n < 26 ∧ ∃ q, zfq C l A = some q ∧ C.getD (q.1 + 3) (-1) = nI (65 + n) := by
  unfold zcn at h
  cases hq : zfq C l A with
  | none => rw [hq] at h; cases h
  | some q =>
    rw [hq] at h
    obtain ⟨m1, m2⟩ := zfq_m _ hq
    have := hg q m1
    rw [m2] at this
    obtain ⟨v, hv, e⟩ := zcl_v (zmy_c this hl)
    have h2 : (C.getD (q.1 + 3) (-1)).toNatClampNeg - 65 = n := Option.some.inj h
    rw [e, zn_cl (by omega)] at h2
    refine ⟨by omega, q, rfl, ?_⟩
    rw [e]
    congr 1
    omega
theorem zs1 (n : Nat) : nI (65 + n) - 65 = nI n := by
  rw [Nat.add_comm, ← zn_add]
  show nI n + 65 - 65 = nI n
  exact Int32.add_sub_cancel _ _
theorem z63 {a r e : Nat} {l : Int32} {s : zS} {C : List Int32} {E : List zE} (hB : zB a r) (hC : zRow r s C) (hE : zEl a s E) (hb : zEb E) (he : e < E.length) (hg : zga C (zkd E e) (E.getD e (0, 0, 0, [])).2.2.2) (hl : l = 110 ∨ l = 102 ∨ l = 121) : zf63 a (nI e) l s = some (zoi (zcn C l (E.getD e (0, 0, 0, [])).2.2.2), s) := by
  obtain ⟨b0, b1, b2, b3, b4, b5, b6, b7, b8, b9⟩ := zB_e hB
  obtain ⟨c1, c2, c3, c4, c5, c6, c7, c8, c9, c10⟩ := zB_c hB
  obtain ⟨f1, f2⟩ := zfnd_q (C := C) (A := (E.getD e (0, 0, 0, [])).2.2.2) (x := l) (E.getD e (0, 0, 0, [])).2.2.2.length 0 (Nat.zero_add _)
  rw [List.drop_zero] at f1
  obtain ⟨k1, k2, k3, k4, k5, k6⟩ := hE.2.2 e he
  have hpl := hb.2.2 e he
  have hle := zfa_le he
  have h60 := hb.2.1
  unfold zf63
  rw [zs46 hB hC hE hb he, zbi_e]
  cases hf : zfnd C (E.getD e (0, 0, 0, [])).2.2.2 l (E.getD e (0, 0, 0, [])).2.2.2.length 0 with
  | none =>
    show (if (-1 : Int32) = -1 then _ else _) = _
    rw [if_pos rfl]
    unfold zcn
    rw [f1 hf]
    rfl
  | some j =>
    obtain ⟨j1, j2⟩ := f2 j hf
    rw [List.drop_zero] at j2
    have hj := hpl j j1
    have e57 : zf57 a (nI (zfa E e + j)) 0 s = some (C.getD (((E.getD e (0, 0, 0, [])).2.2.2.getD j (0, 0)).1 + 3) (-1), s) := by
      unfold zf57
      rw [b6, zal_n (by omega), (k6 j j1).1, zn_lit 3, zn_add, zn_a0, b0, z18 hC (by omega), zbi_e]
    have hm := hg _ (zfq_m _ j2).1
    rw [(zfq_m _ j2).2] at hm
    have hcl := zmy_c hm hl
    show (if nI (zfa E e + j) = -1 then _ else _) = _
    rw [if_neg (zn_nm (by omega)), e57, zbi_e, z49, zbi_e, hcl, if_pos (show ¬ (if true = true then (1 : Int32) else 0) = 0 by decide), e57, zbi_e]
    unfold zcn
    rw [j2]
    obtain ⟨v, hv, ev⟩ := zcl_v hcl
    show some (_ - 65, s) = some (zoi (some (_ - 65)), s)
    rw [ev, zs1, zn_cl (by omega)]
    show _ = some (nI (65 + v - 65), s)
    rw [Nat.add_sub_cancel_left]
theorem z185 {p e : Nat} {l : Int32} {s : zS} {C : List Int32} {E : List zE} (hp : p < 2) (h : zMs p s C) (hE : zMe p s E) (hok : zok C E) (hb : zEb E) (he : e < E.length) (hg : zga C (zkd E e) (E.getD e (0, 0, 0, [])).2.2.2) (hl : l = 110 ∨ l = 102 ∨ l = 121) : zf185 179 (nI p) (nI e) l s = some (zoi (zcn C l (E.getD e (0, 0, 0, [])).2.2.2), s) := by
  unfold zf185
  rw [z181 (b := 0) hp h hE he (hok e he).1, zbi_e, zvp_q]
  unfold zcn
  cases hq : zfq C l (E.getD e (0, 0, 0, [])).2.2.2 with
  | none => exact if_neg (show ¬ 0 ≤ zoi none by decide)
  | some q =>
    obtain ⟨m1, m2⟩ := zfq_m _ hq
    have hm := hg q m1
    rw [m2] at hm
    obtain ⟨v, hv, ev⟩ := zcl_v (zmy_c hm hl)
    have hq3 : q.1 < 300 := by
      obtain ⟨j, hj, ej⟩ := List.getElem_of_mem m1
      have := hb.2.2 e he j hj
      rw [zgetA hj, ej] at this
      exact this
    show (if 0 ≤ nI (q.1 + 3) then _ else _) = some (nI _, s)
    rw [if_pos (Int32.not_lt.mp (zn_nn (by omega)))]
    show zbi (zf165 179 (nI p) (nI (q.1 + 3)) s) _ = _
    rw [z165 hp h (by omega), zbi_e]
    show some (C.getD (q.1 + 3) (-1) - 65, s) = some (nI ((C.getD (q.1 + 3) (-1)).toNatClampNeg - 65), s)
    rw [ev, zs1, zn_cl (by omega), Nat.add_sub_cancel_left]
theorem zch_q {C : List Int32} : ∀ A a b, zch C a A b → ∀ q ∈ A, C.getD (q.1 + 3 + q.2) (-1) = 34 := by
  intro A
  induction A with
  | nil => intro a b _ q hq; cases hq
  | cons x A ih =>
    intro a b h q hq
    rcases List.mem_cons.mp hq with rfl | hq
    · rw [h.2.1, show a + 1 + 3 + q.2 = a + 4 + q.2 by omega]
      exact h.2.2.2.2.2.2.1
    · exact ih _ _ h.2.2.2.2.2.2.2 q hq
theorem zdd {x : Int32} (h : zdg x = true) : x - 48 = nI (zdv x) := by
  obtain ⟨e, _⟩ := zdv_e h
  rw [e, Nat.add_comm, ← zn_add]
  have : ∀ y : Int32, y + nI 48 - 48 = y := fun y => Int32.add_sub_cancel _ _
  rw [this]
  rw [zn_add, Nat.add_comm, ← e]
theorem zdd2 {x : Int32} (y : Nat) (h : zdg x = true) : 10 * nI y + x - 48 = nI (10 * y + zdv x) := by
  have h1 := zdd h
  rw [show 10 * nI y + x - 48 = 10 * nI y + (x - 48) by rw [Int32.sub_eq_add_neg, Int32.sub_eq_add_neg, Int32.add_assoc], h1, zn_lit 10, zn_mul, zn_add]
/-- valueNumber -/
theorem z69 {a r e j : Nat} {l : Int32} {s : zS} {C : List Int32} {E : List zE} (hB : zB a r) (hC : zRow r s C) (hE : zEl a s E) (hb : zEb E) (he : e < E.length) (hj : j < (E.getD e (0, 0, 0, [])).2.2.2.length) (hm : zmy (zkd E e) l (C.getD (((E.getD e (0, 0, 0, [])).2.2.2.getD j (0, 0)).1 + 3) (-1)) (C.getD (((E.getD e (0, 0, 0, [])).2.2.2.getD j (0, 0)).1 + 4) (-1)) ((E.getD e (0, 0, 0, [])).2.2.2.getD j (0, 0)).2 = true) (hl : l = 98 ∨ l = 122 ∨ l = 107) :
    zf69 a (nI (zfa E e + j)) s = some (nI (if ((E.getD e (0, 0, 0, [])).2.2.2.getD j (0, 0)).2 = 1 then zdv (C.getD (((E.getD e (0, 0, 0, [])).2.2.2.getD j (0, 0)).1 + 3) (-1)) else 10 * zdv (C.getD (((E.getD e (0, 0, 0, [])).2.2.2.getD j (0, 0)).1 + 3) (-1)) + zdv (C.getD (((E.getD e (0, 0, 0, [])).2.2.2.getD j (0, 0)).1 + 4) (-1))), s) := by
  obtain ⟨b0, b1, b2, b3, b4, b5, b6, b7, b8, b9⟩ := zB_e hB
  obtain ⟨c1, c2, c3, c4, c5, c6, c7, c8, c9, c10⟩ := zB_c hB
  obtain ⟨k1, k2, k3, k4, k5, k6⟩ := hE.2.2 e he
  have hpl := hb.2.2 e he j hj
  have hle := zfa_le he
  have h60 := hb.2.1
  obtain ⟨q6, q7⟩ := k6 j hj
  generalize (E.getD e (0, 0, 0, [])).2.2.2.getD j (0, 0) = q at *
  have e57 : ∀ i, i < 10 → zf57 a (nI (zfa E e + j)) (nI i) s = some (C.getD (q.1 + 3 + i) (-1), s) := by
    intro i hi
    unfold zf57
    rw [b6, zal_n (by omega), q6, zn_lit 3, zn_add, zn_add, b0, z18 hC (by omega), zbi_e]
  obtain ⟨M, hz⟩ : ∃ M, zfz = M + 10 := ⟨9990, zfz_e⟩
  obtain ⟨h1, h2, h3⟩ := zmy_n hm hl
  have d1 : (10 : Int32) * 0 + C.getD (q.1 + 3) (-1) - 48 = nI (zdv (C.getD (q.1 + 3) (-1))) := by
    have := zdd2 0 h1
    rw [Nat.mul_zero, Nat.zero_add] at this
    exact this
  have e0 := e57 0 (by decide)
  unfold zf69
  rw [hz, zf69_4, b7, zal_n (by omega), q7]
  rcases h2 with h2 | ⟨h2, h2d⟩
  · rw [h2, if_neg (show ¬ nI 1 ≤ 0 by decide)]
    rw [show (0 : Int32) = nI 0 from rfl, e0, zbi_e, show ((10 : Int32) * nI 0 + C.getD (q.1 + 3 + 0) (-1)) - 48 = _ from d1, zf69_4, b7, zal_n (by omega), q7, h2, if_pos (show nI 1 ≤ nI 0 + 1 by decide), if_pos rfl]
  · rw [h2, if_neg (show ¬ nI 2 ≤ 0 by decide)]
    have e1 := e57 1 (by decide)
    have d2 := zdd2 (zdv (C.getD (q.1 + 3) (-1))) h2d
    rw [show (0 : Int32) = nI 0 from rfl, e0, zbi_e, show ((10 : Int32) * nI 0 + C.getD (q.1 + 3 + 0) (-1)) - 48 = _ from d1, zf69_4, b7, zal_n (by omega), q7, h2, if_neg (show ¬ nI 2 ≤ nI 0 + 1 by decide), show nI 0 + 1 = nI 1 from rfl, e1, zbi_e, show ((10 : Int32) * _ + C.getD (q.1 + 3 + 1) (-1)) - 48 = _ from d2, zf69_4, b7, zal_n (by omega), q7, h2, if_pos (show nI 2 ≤ nI 1 + 1 by decide), if_neg (by decide)]
/-- number -/
theorem z186 {e : Nat} {l : Int32} {s : zS} {C : List Int32} {E : List zE} (h : zMs 0 s C) (hE : zMe 0 s E) (hok : zok C E) (hb : zEb E) (he : e < E.length) (hg : zga C (zkd E e) (E.getD e (0, 0, 0, [])).2.2.2) (hl : l = 98 ∨ l = 122 ∨ l = 107) : zf186 179 (nI e) l s = some (zoi (znb C l (E.getD e (0, 0, 0, [])).2.2.2), s) := by
  obtain ⟨p1, p2, p3, p4, b, p5, p6, p7⟩ := (hok e he).1
  unfold zf186
  have h181 : zf181 179 0 (nI e) l s = _ := z181 (l := l) (b := 0) (p := 0) (by decide) h hE he (hok e he).1
  have h165 : ∀ i, i < 2000000 → zf165 179 0 (nI i) s = some (C.getD i (-1), s) := fun i hi => z165 (p := 0) (by decide) h hi
  rw [h181, zbi_e, zvp_q]
  unfold znb
  cases hq : zfq C l (E.getD e (0, 0, 0, [])).2.2.2 with
  | none => exact if_neg (show ¬ 0 ≤ zoi none by decide)
  | some q =>
    obtain ⟨m1, m2⟩ := zfq_m _ hq
    have hm := hg q m1
    rw [m2] at hm
    obtain ⟨h1, h2, h3⟩ := zmy_n hm hl
    have hq34 := zch_q _ _ _ p5 q m1
    have hq3 : q.1 < 300 := by
      obtain ⟨j, hj, ej⟩ := List.getElem_of_mem m1
      have := hb.2.2 e he j hj
      rw [zgetA hj, ej] at this
      exact this
    show (if 0 ≤ nI (q.1 + 3) then zbi (zf165 179 0 (nI (q.1 + 3)) s) _ else _) = some (nI (if q.2 = 1 then zdv (C.getD (q.1 + 3) (-1)) else 10 * zdv (C.getD (q.1 + 3) (-1)) + zdv (C.getD (q.1 + 4) (-1))), s)
    rw [if_pos (Int32.not_lt.mp (zn_nn (by omega)))]
    have e1 : nI (q.1 + 3) + 1 = nI (q.1 + 4) := zn_a1 _
    rw [h165 _ (by omega), zbi_e]
    show zbi (zf165 179 0 (nI (q.1 + 3) + 1) s) _ = _
    rw [e1, h165 _ (by omega), zbi_e, z156, zbi_e]
    rcases h2 with h2 | ⟨h2, h2d⟩
    · rw [h2] at hq34
      have e2 : C.getD (q.1 + 4) (-1) = 34 := hq34
      rw [e2, h2]
      show (if (if zdg 34 = true then (1 : Int32) else 0) = 0 then _ else _) = _
      rw [if_pos (by decide), if_pos rfl, zdd h1]
    · rw [h2, h2d]
      show (if (if true = true then (1 : Int32) else 0) = 0 then _ else _) = _
      rw [if_neg (by decide), if_neg (by decide)]
      show zbi (zf165 179 0 (nI (q.1 + 3) + 1) s) _ = _
      rw [e1, h165 _ (by omega), zbi_e, zdd h1, zdd2 _ h2d]
theorem znb_b {C : List Int32} {k l : Int32} {A : List (Nat × Nat)} {n : Nat} (hg : zga C k A) (hl : l = 98 ∨ l = 122 ∨ l = 107) (h : znb C l A = some n) : n < 100 ∧ (l = 98 → n ≤ 1) ∧ (l = 122 → 1 ≤ n) ∧ (l = 107 → n ≤ 9) := by
  unfold znb at h
  cases hq : zfq C l A with
  | none => rw [hq] at h; cases h
  | some q =>
    rw [hq] at h
    obtain ⟨m1, m2⟩ := zfq_m _ hq
    have hm := hg q m1
    rw [m2] at hm
    obtain ⟨h1, h2, h3, h4, h5⟩ := zmy_n hm hl
    obtain ⟨v1, v2⟩ := zdv_e h1
    have h6 : (if q.2 = 1 then zdv (C.getD (q.1 + 3) (-1)) else 10 * zdv (C.getD (q.1 + 3) (-1)) + zdv (C.getD (q.1 + 4) (-1))) = n := Option.some.inj h
    have hz : l = 122 → 1 ≤ zdv (C.getD (q.1 + 3) (-1)) := by
      intro q1
      have := h4 q1
      rcases Nat.eq_zero_or_pos (zdv (C.getD (q.1 + 3) (-1))) with g | g
      · rw [g] at v1
        exact absurd v1 this
      · exact g
    have hbb : l = 98 → zdv (C.getD (q.1 + 3) (-1)) ≤ 1 := by
      intro q1
      rcases (h3 q1).2 with g | g <;> rw [g] <;> decide
    rcases h2 with h2 | ⟨h2, h2d⟩
    · rw [if_pos h2] at h6
      exact ⟨by omega, fun q1 => by have := hbb q1; omega, fun q1 => by have := hz q1; omega, fun q1 => by omega⟩
    · rw [if_neg (by omega)] at h6
      obtain ⟨_, w2⟩ := zdv_e h2d
      exact ⟨by omega, fun q1 => by have := (h3 q1).1; omega, fun q1 => by have := hz q1; omega, fun q1 => by have := h5 q1; omega⟩

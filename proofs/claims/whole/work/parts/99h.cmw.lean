/-! compare: the walk that makes the script, and the class's. -/
set_option maxRecDepth 100000
set_option linter.unusedVariables false
abbrev zF4 : Type := Nat × Nat × List Nat × List Nat
/-- old, new, the row and the place of a new one -/
abbrev zSp : Type := Option Nat × Option Nat × Option Nat × Option Nat
def zcs (A B : List zN) (i j : Nat) : List zSp := if zcg1 A B i j = 0 then [] else [(some i, some j, none, none)]
/-- 0: together, 1: taken out, 2: put in -/
def zgo (A B : List zN) (l1 l2 : List Nat) : Nat := match l1, l2 with
  | [], _ => 2
  | _ :: _, [] => 1
  | i :: l1', j :: l2' => if zcc A B i j = some (zRR A B (i :: l1') (j :: l2') - zRR A B l1' l2') ∧ zRR A B l1' l2' ≤ zRR A B (i :: l1') (j :: l2') then 0 else if zRR A B (i :: l1') (j :: l2') = zW A (zf1 A) i + zRR A B l1' (j :: l2') then 1 else 2
def zwk (A B : List zN) : Nat → List zF4 → List zSp → List zSp
  | 0, _, L => L
  | _ + 1, [], L => L
  | n + 1, (a, b, l1, l2) :: st, L =>
    if l1 = [] ∧ l2 = [] then zwk A B n st L
    else if zgo A B l1 l2 = 0 then zwk A B n ((zhd l1, zhd l2, zkb A (zhd l1), zkb B (zhd l2)) :: (a, b, l1.tail, l2.tail) :: st) (L ++ zcs A B (zhd l1) (zhd l2))
    else if zgo A B l1 l2 = 1 then zwk A B n ((a, b, l1.tail, l2) :: st) (L ++ [(some (zhd l1), none, none, none)])
    else zwk A B n ((a, b, l1, l2.tail) :: st) (L ++ [(none, some (zhd l2), some a, l1.head?)])
/-- the script from A to B -/
def zscr (A B : List zN) : List zSp := zwk A B 100 [(0, 0, zkb A 0, zkb B 0)] (zcs A B 0 0)
def zW1 (D : List zN) : Nat → Nat := zW D (fun _ => 1)
def zmu (A B : List zN) : List zF4 → Nat
  | [] => 0
  | (a, b, l1, l2) :: st => (l1.map (zW1 A)).sum + (l2.map (zW1 B)).sum + 1 + zmu A B st
theorem zW1_e {D : List zN} {i : Nat} : zW1 D i = 1 + ((zkb D i).map (zW1 D)).sum := zW_e
theorem zW1_0 {D : List zN} (hW : zWf D) (h : 0 < D.length) : zW1 D 0 ≤ D.length := by
  have h1 := zW_le (f := fun _ => 1) hW h
  have h2 : zFs D (fun _ => 1) 0 = D.length := by
    unfold zFs
    rw [Nat.sub_zero]
    have : ∀ m k, ((List.range' k m).map (fun _ => 1)).sum = m := by
      intro m
      induction m with
      | zero => intro k; rfl
      | succ m ih => intro k; rw [List.range'_succ, List.map_cons, List.sum_cons, ih]; omega
    exact this _ _
  rw [h2] at h1
  exact h1
/-- the frames of a walk -/
def zok4 (A B : List zN) : List zF4 → Prop
  | [] => False
  | [(a, b, l1, l2)] => a = 0 ∧ b = 0 ∧ a < A.length ∧ b < B.length ∧ (∃ k, l1 = zrw A a k) ∧ ∃ k, l2 = zrw B b k
  | (a, b, l1, l2) :: (a', b', l1', l2') :: st => zab A a = some a' ∧ zab B b = some b' ∧ l1' = znx A a ∧ l2' = znx B b ∧ (∃ k, l1 = zrw A a k) ∧ (∃ k, l2 = zrw B b k) ∧ zok4 A B ((a', b', l1', l2') :: st)
theorem zok4_t {A B : List zN} {a b : Nat} {l1 l2 : List Nat} {st : List zF4} (h : zok4 A B ((a, b, l1, l2) :: st)) : a < A.length ∧ b < B.length ∧ (∃ k, l1 = zrw A a k) ∧ ∃ k, l2 = zrw B b k := by
  cases st with
  | nil => exact ⟨h.2.2.1, h.2.2.2.1, h.2.2.2.2.1, h.2.2.2.2.2⟩
  | cons f st =>
    obtain ⟨a', b', l1', l2'⟩ := f
    exact ⟨zab_lt h.1, zab_lt h.2.1, h.2.2.2.2.1, h.2.2.2.2.2.1⟩
theorem zok4_r {A B : List zN} {a b : Nat} {l1 l2 m1 m2 : List Nat} {st : List zF4} (h : zok4 A B ((a, b, l1, l2) :: st)) (h1 : ∃ k, m1 = zrw A a k) (h2 : ∃ k, m2 = zrw B b k) : zok4 A B ((a, b, m1, m2) :: st) := by
  cases st with
  | nil => exact ⟨h.1, h.2.1, h.2.2.1, h.2.2.2.1, h1, h2⟩
  | cons f st =>
    obtain ⟨a', b', l1', l2'⟩ := f
    exact ⟨h.1, h.2.1, h.2.2.1, h.2.2.2.1, h1, h2, h.2.2.2.2.2.2⟩
theorem zrw_tl {D : List zN} {a i : Nat} {l : List Nat} (h : ∃ k, i :: l = zrw D a k) : (∃ k, l = zrw D a k) ∧ l = znx D i ∧ i < D.length ∧ zab D i = some a := by
  obtain ⟨k, h⟩ := h
  obtain ⟨q1, q2, q3, q4⟩ := zrw_s' h.symm
  refine ⟨⟨_, q1⟩, ?_, q3, q4⟩
  unfold znx
  rw [q4]
  exact q1
theorem zok4_p {A B : List zN} {a b i j : Nat} {l1 l2 : List Nat} {st : List zF4} (h : zok4 A B ((a, b, i :: l1, j :: l2) :: st)) : zok4 A B ((i, j, zkb A i, zkb B j) :: (a, b, l1, l2) :: st) := by
  obtain ⟨h1, h2, h3, h4⟩ := zok4_t h
  obtain ⟨a1, a2, a3, a4⟩ := zrw_tl h3
  obtain ⟨b1, b2, b3, b4⟩ := zrw_tl h4
  exact ⟨a4, b4, a2, b2, ⟨_, rfl⟩, ⟨_, rfl⟩, zok4_r h a1 b1⟩
/-- the class's script is L -/
def zpC (x : zSp) : Int32 := match x.2.2.1 with
  | none => -1
  | some _ => nI (x.2.2.2.getD 40)
def zsL (L : List zSp) (k : Nat) : zSp := L.getD k (none, none, none, none)
def zScC (s : zS) (L : List zSp) : Prop := s 69 1 = nI L.length ∧ L.length ≤ 80 ∧ ∀ k, k < L.length → s 80 k = zoi (zsL L k).1 ∧ s 81 k = zoi (zsL L k).2.1 ∧ s 82 k = zoi (zsL L k).2.2.1 ∧ s 83 k = zpC (zsL L k)
theorem zsL_l {L : List zSp} {x : zSp} {k : Nat} (h : k < L.length) : zsL (L ++ [x]) k = zsL L k := by
  unfold zsL
  rw [List.getD_eq_getElem?_getD, List.getElem?_append_left h, ← List.getD_eq_getElem?_getD]
theorem zsL_r {L : List zSp} {x : zSp} : zsL (L ++ [x]) L.length = x := by
  unfold zsL
  rw [List.getD_eq_getElem?_getD, List.getElem?_append_right (Nat.le_refl _), Nat.sub_self]
  rfl
def zFd (s s' : zS) : Prop := (∀ p, p ≠ 69 → p < 80 ∨ 83 < p → s' p = s p) ∧ s' 69 0 = s 69 0
theorem zFd_t {s s1 s2 : zS} (h1 : zFd s s1) (h2 : zFd s1 s2) : zFd s s2 := ⟨fun p a b => (h2.1 p a b).trans (h1.1 p a b), h2.2.trans h1.2⟩
theorem z105 {s : zS} {L : List zSp} {x : zSp} (h : zScC s L) (hl : L.length < 80) : ∃ s', zf105 69 (zoi x.1) (zoi x.2.1) (zoi x.2.2.1) (zpC x) s = some s' ∧ zScC s' (L ++ [x]) ∧ zFd s s' := by
  obtain ⟨h1, h2, h3⟩ := h
  obtain ⟨s1, hs1⟩ : ∃ s1, s1 = zw (zw (zw (zw s 80 L.length (zoi x.1)) 81 L.length (zoi x.2.1)) 82 L.length (zoi x.2.2.1)) 83 L.length (zpC x) := ⟨_, rfl⟩
  have f69 : ∀ {t : zS} {q k : Nat} {v : Int32}, q ≠ 69 → zw t q k v 69 = t 69 := fun hq => zw_ne (fun e => hq e.symm)
  have k69 : s1 69 1 = nI L.length := by rw [hs1, zw_ne (by decide), zw_ne (by decide), zw_ne (by decide), zw_ne (by decide)]; exact h1
  refine ⟨zw s1 69 1 (nI (L.length + 1)), ?_, ⟨?_, ?_, fun k hk => ?_⟩, fun p a b => ?_, ?_⟩
  · unfold zf105
    rw [show zrf 69 2 = 80 from rfl, show zrf 69 3 = 81 from rfl, show zrf 69 4 = 82 from rfl, show zrf 69 5 = 83 from rfl, zgf_e, h1, if_neg (fun q => by have := (zn_geL (k := 80) (by omega) (by decide)).mp q; omega), zgf_e, h1, zas_n (by show L.length < 80; omega), zgf_e, zw_ne (q := 69) (by decide), h1, zas_n (by show L.length < 80; omega), zgf_e, zw_ne (q := 69) (by decide), zw_ne (q := 69) (by decide), h1, zas_n (by show L.length < 80; omega), zgf_e, zw_ne (q := 69) (by decide), zw_ne (q := 69) (by decide), zw_ne (q := 69) (by decide), h1, zas_n (by show L.length < 80; omega), ← hs1, zgf_e, k69, zn_a1, zpf_e]
  · rw [zw_s, List.length_append, List.length_singleton]
  · rw [List.length_append, List.length_singleton]; omega
  · rw [List.length_append, List.length_singleton] at hk
    rw [zw_ne (q := 80) (by decide), zw_ne (q := 81) (by decide), zw_ne (q := 82) (by decide), zw_ne (q := 83) (by decide), hs1]
    by_cases g : k = L.length
    · subst g
      rw [zsL_r]
      refine ⟨?_, ?_, ?_, ?_⟩
      · rw [zw_ne (by decide), zw_ne (by decide), zw_ne (by decide), zw_s]
      · rw [zw_ne (by decide), zw_ne (by decide), zw_s]
      · rw [zw_ne (by decide), zw_s]
      · rw [zw_s]
    · have hk' : k < L.length := by omega
      rw [zsL_l hk']
      obtain ⟨a1, a2, a3, a4⟩ := h3 k hk'
      refine ⟨?_, ?_, ?_, ?_⟩
      · rw [zw_o (Or.inl (by decide)), zw_o (Or.inl (by decide)), zw_o (Or.inl (by decide)), zw_o (Or.inr g)]; exact a1
      · rw [zw_o (Or.inl (by decide)), zw_o (Or.inl (by decide)), zw_o (Or.inr g), zw_o (Or.inl (by decide))]; exact a2
      · rw [zw_o (Or.inl (by decide)), zw_o (Or.inr g), zw_o (Or.inl (by decide)), zw_o (Or.inl (by decide))]; exact a3
      · rw [zw_o (Or.inr g), zw_o (Or.inl (by decide)), zw_o (Or.inl (by decide)), zw_o (Or.inl (by decide))]; exact a4
  · rw [zw_ne (by omega), hs1, zw_ne (by omega), zw_ne (by omega), zw_ne (by omega), zw_ne (by omega)]
  · rw [zw_o (Or.inr (by decide)), hs1, zw_ne (by decide), zw_ne (by decide), zw_ne (by decide), zw_ne (by decide)]
/-- the class's tables -/
def zTb (s : zS) (A B : List zN) : Prop := zCm s A B ∧ (∀ x y, zVx A x → zVx B y → zEr s A B x y) ∧ ∀ x y, x < A.length → y < B.length → zEc s A B x y
theorem zTb_f {s s' : zS} {A B : List zN} (h : zTb s A B) (hf : zFd s s') : zTb s' A B := by
  refine ⟨?_, fun x y hx hy => ?_, fun x y hx hy v hv => ?_⟩
  · obtain ⟨⟨a1, a2, a3, a4⟩, _⟩ := h
    exact ⟨zPc_f zQ4 a1 (fun p a b => hf.1 p (by omega) (by omega)), zPc_f zQ12 a2 (fun p a b => hf.1 p (by omega) (by omega)), zLn_f a3 (fun p a b => hf.1 p (by omega) (by omega)), zLn_f a4 (fun p a b => hf.1 p (by omega) (by omega))⟩
  · unfold zEr
    rw [hf.1 (126 + x) (by omega) (by omega)]
    exact h.2.1 x y hx hy
  · rw [hf.1 (85 + x) (by omega) (by omega)]
    exact h.2.2 x y hx hy v hv
theorem z104 {s : zS} {A B : List zN} {i j : Nat} {L : List zSp} (h : zTb s A B) (hA : zSm A) (hB : zSm B) (hi : i < A.length) (hj : j < B.length) (hL : zScC s L) (hl : L.length < 80) : ∃ s', zf104 69 (nI i) (nI j) s = some s' ∧ zScC s' (L ++ zcs A B i j) ∧ zFd s s' := by
  unfold zf104 zcs
  rw [z100 h.1 hA hB hi hj, zbi_e]
  have hb := zcg1_le (A := A) (B := B) (i := i) (j := j)
  by_cases g : zcg1 A B i j = 0
  · rw [if_pos (show nI (zcg1 A B i j) = 0 by rw [g]; rfl), if_pos g, List.append_nil]
    exact ⟨s, rfl, hL, fun _ _ _ => rfl, rfl⟩
  · rw [if_neg (show ¬ nI (zcg1 A B i j) = 0 from fun q => g ((zn_eq (a := zcg1 A B i j) (b := 0) (by omega) (by decide)).mp q)), if_neg g]
    obtain ⟨s', a1, a2, a3⟩ := z105 (x := (some i, some j, none, none)) hL hl
    have a1' : zf105 69 (nI i) (nI j) (-1) (-1) s = some s' := a1
    exact ⟨s', by rw [a1', zbv_e], a2, a3⟩
theorem z106 {s : zS} {A B : List zN} {a b : Nat} {l1 l2 : List Nat} (h : zTb s A B) (hA : zSm A) (hB : zSm B) (h1 : ∃ k, l1 = zrw A a k) (h2 : ∃ k, l2 = zrw B b k) : zf106 69 (nI (zhd l1)) (nI (zhd l2)) s = some (if zgo A B l1 l2 = 0 then 1 else 0, s) := by
  have hA4 := hA.2.1
  have hB4 := hB.2.1
  unfold zf106
  cases l1 with
  | nil => rw [if_pos (show nI (zhd []) = 40 from rfl), zrb0]; rfl
  | cons i l1 =>
    obtain ⟨a1, a2, a3, a4⟩ := zrw_tl h1
    rw [show zhd (i :: l1) = i from rfl, if_neg (fun q => by have := (zn_eq (a := i) (b := 40) (by omega) (by decide)).mp q; omega)]
    cases l2 with
    | nil => rw [if_pos (show nI (zhd []) = 40 from rfl), zrb0]; rfl
    | cons j l2 =>
      obtain ⟨b1, b2, b3, b4⟩ := zrw_tl h2
      rw [show zhd (j :: l2) = j from rfl, if_neg (fun q => by have := (zn_eq (a := j) (b := 40) (by omega) (by decide)).mp q; omega), z99 h.1 hA hB a3 b3, zbi_e]
      have sxi : zsx A i = i :: l1 := by unfold zsx; rw [if_pos a3, a2]
      have sxj : zsx B j = j :: l2 := by unfold zsx; rw [if_pos b3, b2]
      have ee := h.2.1 i j (Or.inl a3) (Or.inl b3)
      unfold zEr at ee
      have bd := zRR_b hA hB (Or.inl a3) (Or.inl b3)
      rw [sxi, sxj] at ee bd
      by_cases g : (zno A i).1 = (zno B j).1
      · have hcc : zcc A B i j = some (zcg1 A B i j + zRR A B (zkb A i) (zkb B j)) := by rw [zcc_e a3, if_pos g]
        obtain ⟨v, hv⟩ : ∃ v, v = zcg1 A B i j + zRR A B (zkb A i) (zkb B j) := ⟨_, rfl⟩
        rw [← hv] at hcc
        have hvb := zcc_b hA hB a3 hcc
        have vAn : zVx A (zhd (znx A i)) := by
          rcases zVx_n (D := A) (i := i) with ⟨q1, q2⟩ | q
          · exact Or.inl q1
          · exact Or.inr q
        have vBn : zVx B (zhd (znx B j)) := by
          rcases zVx_n (D := B) (i := j) with ⟨q1, q2⟩ | q
          · exact Or.inl q1
          · exact Or.inr q
        have bd2 := zRR_b hA hB vAn vBn
        rw [zsx_n hA4, zsx_n hB4, ← a2, ← b2] at bd2
        rw [if_pos g, if_neg (show ¬ (1 : Int32) = 0 by decide), show zrf 69 10 = 125 from rfl, zar_n (by show i < 41; omega), zra_125 (by omega), zal_n (by rw [zca_126 (by omega)]; omega), ee, z102 (v := v) h.1 hA hB a3 b3 (h.2.2 i j a3 b3 v hcc) (h.2.1 _ _ vAn vBn), zbi_e, ← a2, ← b2]
        have e : zgo A B (i :: l1) (j :: l2) = 0 ↔ zRR A B (i :: l1) (j :: l2) = v + zRR A B l1 l2 := by
          unfold zgo
          dsimp only
          rw [hcc]
          constructor
          · intro q
            split at q
            · next w => have := Option.some.inj w.1; omega
            · split at q <;> cases q
          · intro q
            rw [if_pos ⟨by congr 1; omega, by omega⟩]
        by_cases w : zRR A B (i :: l1) (j :: l2) = v + zRR A B l1 l2
        · rw [if_neg (fun q => q (by rw [w])), if_pos (e.mpr w), zrb1]
        · rw [if_pos (fun q => w ((zn_eq (by omega) (by omega)).mp q)), if_neg (fun q => w (e.mp q)), zrb0]
      · have hcc : zcc A B i j = none := by rw [zcc_e a3, if_neg g]
        rw [if_neg g, if_pos rfl, zrb0]
        have : ¬ zgo A B (i :: l1) (j :: l2) = 0 := by
          unfold zgo
          dsimp only
          rw [hcc]
          rw [if_neg (fun q => by cases q.1)]
          split <;> decide
        rw [if_neg this]
theorem z103_l {A B : List zN} (hA : zSm A) (hB : zSm B) : ∀ n st a b l1 l2 L (s : zS) t f, zok4 A B ((a, b, l1, l2) :: st) → zmu A B ((a, b, l1, l2) :: st) < n → t + zmu A B ((a, b, l1, l2) :: st) ≤ 100 → L.length + zmu A B ((a, b, l1, l2) :: st) ≤ 80 → zmu A B ((a, b, l1, l2) :: st) < f → zScC s L → zTb s A B →
    ∃ s', zf103_34 69 f (nI a) (nI b) (nI (zhd l1)) (nI (zhd l2)) (nI t) s = some s' ∧ zScC s' (zwk A B n ((a, b, l1, l2) :: st) L) ∧ zFd s s' := by
  have hA4 := hA.2.1
  have hB4 := hB.2.1
  intro n
  induction n with
  | zero => intro st a b l1 l2 L s t f _ h; omega
  | succ n ih =>
    intro st a b l1 l2 L s t f ho hm ht hL hf hS hT
    obtain ⟨f, rfl⟩ : ∃ f', f = f' + 1 := ⟨f - 1, by omega⟩
    have hmu : 1 ≤ zmu A B ((a, b, l1, l2) :: st) := by rw [zmu]; omega
    obtain ⟨ha, hb, h1, h2⟩ := zok4_t ho
    rw [zf103_34, if_neg (fun q => by have := (zn_geL (k := 160) (by omega) (by decide)).mp q; omega), zwk]
    have n40 : ∀ {D : List zN} {x : Nat} {l : List Nat}, D.length ≤ 40 → (∃ k, l = zrw D x k) → l ≠ [] → ¬ nI (zhd l) = 40 := by
      intro D x l hD hl hne
      cases l with
      | nil => exact absurd rfl hne
      | cons c l =>
        obtain ⟨_, _, q3, _⟩ := zrw_tl hl
        intro q
        have := (zn_eq (a := c) (b := 40) (by omega) (by decide)).mp q
        omega
    -- a turn that is no pop
    have turn : ¬ (l1 = [] ∧ l2 = []) → ∃ s', zf103_114 69 (zf103_34 69 f) (nI a) (nI b) (nI (zhd l1)) (nI (zhd l2)) (nI t) s = some s' ∧ zScC s' (if zgo A B l1 l2 = 0 then zwk A B n ((zhd l1, zhd l2, zkb A (zhd l1), zkb B (zhd l2)) :: (a, b, l1.tail, l2.tail) :: st) (L ++ zcs A B (zhd l1) (zhd l2)) else if zgo A B l1 l2 = 1 then zwk A B n ((a, b, l1.tail, l2) :: st) (L ++ [(some (zhd l1), none, none, none)]) else zwk A B n ((a, b, l1, l2.tail) :: st) (L ++ [(none, some (zhd l2), some a, l1.head?)])) ∧ zFd s s' := by
      intro hne
      unfold zf103_114
      rw [z106 hT hA hB h1 h2, zbi_e]
      -- put in
      have ins : ∀ j m2, l2 = j :: m2 → ∃ s', zf103_205 69 (zf103_34 69 f) (nI a) (nI b) (nI (zhd l1)) (nI (zhd l2)) (nI t) s = some s' ∧ zScC s' (zwk A B n ((a, b, l1, l2.tail) :: st) (L ++ [(none, some (zhd l2), some a, l1.head?)])) ∧ zFd s s' := by
        intro j m2 e2
        subst e2
        obtain ⟨b1, b2, b3, b4⟩ := zrw_tl h2
        have hw := zW1_e (D := B) (i := j)
        rw [zmu, List.map_cons, List.sum_cons] at hm ht hL hf
        obtain ⟨s1, c1, c2, c3⟩ := z105 (x := (none, some j, some a, l1.head?)) hS (by omega)
        have hp : zpC (none, some j, some a, l1.head?) = nI (zhd l1) := by
          cases l1 <;> rfl
        rw [hp] at c1
        have c1' : zf105 69 (-1) (nI j) (nI a) (nI (zhd l1)) s = some s1 := c1
        have T1 := zTb_f hT c3
        obtain ⟨s', d1, d2, d3⟩ := ih st a b l1 m2 (L ++ [(none, some j, some a, l1.head?)]) s1 (t + 1) f (zok4_r ho h1 b1) (by rw [zmu]; omega) (by rw [zmu]; omega) (by rw [zmu, List.length_append, List.length_singleton]; omega) (by rw [zmu]; omega) c2 T1
        refine ⟨s', ?_, d2, zFd_t c3 d3⟩
        unfold zf103_205
        rw [show zhd (j :: m2) = j from rfl, c1', zbv_e, show zrf (zrf 69 7) 2 = 77 from rfl, zal_n (by show j < 40; omega), show s1 77 j = _ from (T1.1.2.2.2.2 j b3).2.1, ← b2, zn_a1]
        exact d1
      by_cases g0 : zgo A B l1 l2 = 0
      · rw [if_pos g0, if_neg (show ¬ (1 : Int32) = 0 by decide), if_pos g0]
        cases l1 with
        | nil => cases g0
        | cons i m1 =>
          cases l2 with
          | nil => cases g0
          | cons j m2 =>
            obtain ⟨a1, a2, a3, a4⟩ := zrw_tl h1
            obtain ⟨b1, b2, b3, b4⟩ := zrw_tl h2
            have hwa := zW1_e (D := A) (i := i)
            have hwb := zW1_e (D := B) (i := j)
            rw [zmu, List.map_cons, List.sum_cons, List.map_cons, List.sum_cons] at hm ht hL hf
            obtain ⟨s1, c1, c2, c3⟩ := z104 hT hA hB a3 b3 hS (by omega)
            have T1 := zTb_f hT c3
            have hlen : (zcs A B i j).length ≤ 1 := by
              unfold zcs
              split
              · exact Nat.zero_le _
              · exact Nat.le_refl _
            obtain ⟨s', d1, d2, d3⟩ := ih ((a, b, m1, m2) :: st) i j (zkb A i) (zkb B j) (L ++ zcs A B i j) s1 (t + 1) f (zok4_p ho) (by rw [zmu, zmu]; omega) (by rw [zmu, zmu]; omega) (by rw [zmu, zmu, List.length_append]; omega) (by rw [zmu, zmu]; omega) c2 T1
            refine ⟨s', ?_, d2, zFd_t c3 d3⟩
            rw [show zhd (i :: m1) = i from rfl, show zhd (j :: m2) = j from rfl, c1, zbv_e, show zrf (zrf 69 6) 1 = 71 from rfl, show zrf (zrf 69 7) 1 = 76 from rfl, zal_n (by show i < 40; omega), zal_n (by show j < 40; omega), show s1 71 i = _ from (T1.1.2.2.1.2 i a3).1, show s1 76 j = _ from (T1.1.2.2.2.2 j b3).1, zn_a1]
            exact d1
      · rw [if_neg g0, if_pos (show (0 : Int32) = 0 from rfl), if_neg g0]
        cases l1 with
        | nil =>
          rw [if_pos (show nI (zhd []) = 40 from rfl)]
          have g1 : ¬ zgo A B [] l2 = 1 := by unfold zgo; cases l2 <;> simp
          rw [if_neg g1]
          cases l2 with
          | nil => exact absurd ⟨rfl, rfl⟩ hne
          | cons j m2 => exact ins j m2 rfl
        | cons i m1 =>
          obtain ⟨a1, a2, a3, a4⟩ := zrw_tl h1
          have sxi : zsx A i = i :: m1 := by unfold zsx; rw [if_pos a3, a2]
          have vy : zVx B (zhd l2) := by
            cases l2 with
            | nil => exact Or.inr rfl
            | cons j m2 => exact Or.inl (zrw_tl h2).2.2.1
          have sxl : zsx B (zhd l2) = l2 := by
            obtain ⟨k, hk⟩ := h2
            rw [hk]
            exact zsx_h hB4
          have hy40 : zhd l2 ≤ 40 := by rcases vy with q | q <;> omega
          have ee := hT.2.1 i (zhd l2) (Or.inl a3) vy
          have vAn : zVx A (zhd (znx A i)) := by
            rcases zVx_n (D := A) (i := i) with ⟨q1, q2⟩ | q
            · exact Or.inl q1
            · exact Or.inr q
          have en := hT.2.1 (zhd (znx A i)) (zhd l2) vAn vy
          have bd1 := zRR_b hA hB (Or.inl a3) vy
          have bd2 := zRR_b hA hB vAn vy
          have hw := zW_b hA a3
          unfold zEr at ee
          rw [zsx_n hA4] at bd2
          rw [sxi, sxl] at ee bd1
          rw [sxl, ← a2] at bd2
          rw [show zhd (i :: m1) = i from rfl, if_neg (fun q => by have := (zn_eq (a := i) (b := 40) (by omega) (by decide)).mp q; omega), show zrf 69 10 = 125 from rfl, zar_n (by show i < 41; omega), zra_125 (by omega), zal_n (by rw [zca_126 (by omega)]; omega), ee, z97 hT.1 hA a3 hy40 en, zbi_e, sxl, ← a2]
          have e1 : zgo A B (i :: m1) l2 = 1 ↔ zRR A B (i :: m1) l2 = zW A (zf1 A) i + zRR A B m1 l2 := by
            cases l2 with
            | nil =>
              constructor
              · intro _; unfold zRR; rw [zR_cn]
              · intro _; rfl
            | cons j m2 =>
              unfold zgo at g0 ⊢
              dsimp only at g0 ⊢
              by_cases q : zcc A B i j = some (zRR A B (i :: m1) (j :: m2) - zRR A B m1 m2) ∧ zRR A B m1 m2 ≤ zRR A B (i :: m1) (j :: m2)
              · rw [if_pos q] at g0; exact absurd rfl g0
              · rw [if_neg q]
                constructor
                · intro w
                  split at w
                  · assumption
                  · cases w
                · intro w; rw [if_pos w]
          by_cases g1 : zgo A B (i :: m1) l2 = 1
          · rw [if_neg (fun q => q (by rw [e1.mp g1])), if_pos g1]
            have hwa := zW1_e (D := A) (i := i)
            rw [zmu, List.map_cons, List.sum_cons] at hm ht hL hf
            obtain ⟨s1, c1, c2, c3⟩ := z105 (x := (some i, none, none, none)) hS (by omega)
            have c1' : zf105 69 (nI i) (-1) (-1) (-1) s = some s1 := c1
            have T1 := zTb_f hT c3
            obtain ⟨s', d1, d2, d3⟩ := ih st a b m1 l2 (L ++ [(some i, none, none, none)]) s1 (t + 1) f (zok4_r ho a1 h2) (by rw [zmu]; omega) (by rw [zmu]; omega) (by rw [zmu, List.length_append, List.length_singleton]; omega) (by rw [zmu]; omega) c2 T1
            refine ⟨s', ?_, d2, zFd_t c3 d3⟩
            rw [c1', zbv_e, show zrf (zrf 69 6) 2 = 72 from rfl, zal_n (by show i < 40; omega), show s1 72 i = _ from (T1.1.2.2.1.2 i a3).2.1, ← a2, zn_a1]
            exact d1
          · rw [if_pos (fun q => g1 (e1.mpr ((zn_eq (by omega) (by omega)).mp q))), if_neg g1]
            cases l2 with
            | nil => exact absurd rfl g1
            | cons j m2 => exact ins j m2 rfl
    by_cases e1 : l1 = []
    · subst e1
      rw [if_neg (show ¬ ¬ nI (zhd []) = 40 from fun q => q rfl)]
      by_cases e2 : l2 = []
      · subst e2
        rw [if_neg (show ¬ ¬ nI (zhd []) = 40 from fun q => q rfl), if_pos (show ([] : List Nat) = [] ∧ ([] : List Nat) = [] from ⟨rfl, rfl⟩)]
        cases st with
        | nil =>
          obtain ⟨q1, _⟩ := ho
          rw [if_pos (show nI a = 0 by rw [q1]; rfl)]
          refine ⟨s, rfl, ?_, fun _ _ _ => rfl, rfl⟩
          cases n <;> exact hS
        | cons fr st =>
          obtain ⟨a', b', l1', l2'⟩ := fr
          obtain ⟨q1, q2, q3, q4, _, _, q5⟩ := ho
          have ha0 : a ≠ 0 := fun q => by
            rcases (hA.1 a ha).2.1 with ⟨_, w, _⟩ | ⟨x, w1, w2, _⟩
            · rw [q1] at w; cases w
            · omega
          have hb0 : b ≠ 0 := fun q => by
            rcases (hB.1 b hb).2.1 with ⟨_, w, _⟩ | ⟨x, w1, w2, _⟩
            · rw [q2] at w; cases w
            · omega
          rw [if_neg (show ¬ nI a = 0 from fun q => ha0 ((zn_eq (a := a) (b := 0) (by omega) (by decide)).mp q)), if_pos (show ¬ nI b = 0 from fun q => hb0 ((zn_eq (a := b) (b := 0) (by omega) (by decide)).mp q))]
          rw [zmu] at hm ht hL hf
          have z0 : (([] : List Nat).map (zW1 A)).sum = 0 := rfl
          have z1 : (([] : List Nat).map (zW1 B)).sum = 0 := rfl
          obtain ⟨s', d1, d2, d3⟩ := ih st a' b' l1' l2' L s (t + 1) f q5 (by omega) (by omega) (by omega) (by omega) hS hT
          refine ⟨s', ?_, d2, d3⟩
          rw [show zrf (zrf 69 6) 2 = 72 from rfl, show zrf (zrf 69 7) 2 = 77 from rfl, show zrf (zrf (zrf 69 6) 0) 1 = 6 from rfl, show zrf (zrf (zrf 69 7) 0) 1 = 14 from rfl, zal_n (by show a < 40; omega), zal_n (by show b < 40; omega), zal_n (by show a < 40; omega), zal_n (by show b < 40; omega), show s 72 a = _ from (hT.1.2.2.1.2 a ha).2.1, show s 77 b = _ from (hT.1.2.2.2.2 b hb).2.1, show s 6 a = _ from (hT.1.1.2.2.2 a ha).2.1, show s 14 b = _ from (hT.1.2.1.2.2.2 b hb).2.1, ← q3, ← q4, show (zno A a).2.1 = some a' from q1, show (zno B b).2.1 = some b' from q2, zn_a1]
          exact d1
      · rw [if_pos (n40 hB4 h2 e2), if_neg (fun q => e2 q.2)]
        exact turn (fun q => e2 q.2)
    · rw [if_pos (n40 hA4 h1 e1), if_neg (fun q => e1 q.1)]
      exact turn (fun q => e1 q.1)

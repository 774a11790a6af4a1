/-! What the styles give, and the looks of elements, both sides. -/
set_option maxRecDepth 100000
set_option linter.unusedVariables false
/-- what a style or the ones that it follows give -/
def zgv (C : List Int32) (E : List zE) (S : Nat → Option Nat) (l : Int32) : Nat → Option Nat → Option Nat
  | 0, _ => none
  | _ + 1, none => none
  | k + 1, some e => match znu C E l e with
    | some v => some v
    | none => zgv C E S l k (zpr C E S e)
theorem zgv_b {C : List Int32} {E : List zE} {S : Nat → Option Nat} {l : Int32} (hg : zgA C E) (hb : zSb E S) (hl : l = 98 ∨ l = 122 ∨ l = 107) : ∀ k o v, (∀ x, o = some x → x < E.length) → zgv C E S l k o = some v → v < 100 ∧ (l = 98 → v ≤ 1) ∧ (l = 122 → 1 ≤ v) ∧ (l = 107 → v ≤ 9) := by
  intro k
  induction k with
  | zero => intro o v _ h; cases h
  | succ k ih =>
    intro o v ho h
    cases o with
    | none => cases h
    | some e =>
      rw [zgv] at h
      cases hv : znu C E l e with
      | some w =>
        rw [hv] at h
        cases h
        exact znb_b (hg e (ho e rfl)) hl hv
      | none =>
        rw [hv] at h
        exact ih _ v (fun x hx => zpr_b hb hx) h
theorem z68 {s : zS} {C : List Int32} {E : List zE} {O : List (Nat × Nat)} {C' : List Int32} {E' : List zE} {O' : List (Nat × Nat)} {S : Nat → Option Nat} {l : Int32} (h : zCs s C E O C' E' O') (hg : zgA C E) (hS : zSt s S) (hb : zSb E S) (hl : l = 98 ∨ l = 122 ∨ l = 107) : ∀ m n i o, i + m = 26 → m < n → (∀ x, o = some x → x < E.length) → zf68_5 61 n l (zoi o) (nI i) s = some (zoi (zgv C E S l m o), s) := by
  have h30 := h.2.2.1.2.1.1
  intro m
  induction m with
  | zero =>
    intro n i o hi hn ho
    obtain ⟨n, rfl⟩ : ∃ n', n = n' + 1 := ⟨n - 1, by omega⟩
    rw [zf68_5, if_pos ((zn_geL (k := 26) (by omega) (by decide)).mpr (by omega))]
    rfl
  | succ m ih =>
    intro n i o hi hn ho
    obtain ⟨n, rfl⟩ : ∃ n', n = n' + 1 := ⟨n - 1, by omega⟩
    rw [zf68_5, if_neg (fun q => by have := (zn_geL (k := 26) (by omega) (by decide)).mp q; omega)]
    cases o with
    | none => exact if_pos rfl
    | some e =>
      have he := ho e rfl
      obtain ⟨f1, f2⟩ := zfnd_q (C := C) (A := (E.getD e (0, 0, 0, [])).2.2.2) (x := l) (E.getD e (0, 0, 0, [])).2.2.2.length 0 (Nat.zero_add _)
      rw [List.drop_zero] at f1
      have hle := zfa_le he
      have h60 := h.2.2.1.2.1.2.1
      rw [show zoi (some e) = nI e from rfl, if_neg (zn_nm (by omega)), show zrf 61 0 = 43 from rfl, zs46 (Or.inl ⟨rfl, rfl⟩) h.1 h.2.2.1.1 h.2.2.1.2.1 he, zbi_e, zgv]
      unfold znu znb
      cases hf : zfnd C (E.getD e (0, 0, 0, [])).2.2.2 l (E.getD e (0, 0, 0, [])).2.2.2.length 0 with
      | none =>
        rw [f1 hf]
        dsimp only
        rw [if_pos rfl, z66 h hg hS he, zbi_e, zn_a1]
        exact ih n (i + 1) _ (by omega) (by omega) (fun x hx => zpr_b hb hx)
      | some j =>
        obtain ⟨j1, j2⟩ := f2 j hf
        rw [List.drop_zero] at j2
        have hm := hg e he _ (zfq_m _ j2).1
        rw [(zfq_m _ j2).2] at hm
        rw [j2]
        dsimp only
        rw [if_neg (show ¬ nI (zfa E e + j) = -1 from zn_nm (by omega)), z69 (Or.inl ⟨rfl, rfl⟩) h.1 h.2.2.1.1 h.2.2.1.2.1 he j1 hm hl, zbi_e]
        rfl
/-- what the class has settled -/
def zSe (s : zS) (C : List Int32) (E : List zE) (S : Nat → Option Nat) : Prop := ∀ n, n < 26 → s 63 n = zoi (zgv C E S 98 26 (S n)) ∧ s 64 n = zoi (zgv C E S 122 26 (S n)) ∧ s 65 n = zoi (zgv C E S 107 26 (S n))
theorem z67 {s : zS} {C : List Int32} {E : List zE} {O : List (Nat × Nat)} {C' : List Int32} {E' : List zE} {O' : List (Nat × Nat)} {S : Nat → Option Nat} (h : zCs s C E O C' E' O') (hg : zgA C E) (hS : zSt s S) (hb : zSb E S) : ∃ s', zf67 61 s = some s' ∧ (∀ q, q < 63 ∨ 65 < q → s' q = s q) ∧ zSe s' C E S := by
  have l : ∀ m n i (t : zS), i + m = 26 → m < n → zCs t C E O C' E' O' → zSt t S → ∃ t', zf67_2 61 n (nI i) t = some t' ∧ (∀ q, q < 63 ∨ 65 < q → t' q = t q) ∧ (∀ j, j < i → t' 63 j = t 63 j ∧ t' 64 j = t 64 j ∧ t' 65 j = t 65 j) ∧ ∀ j, i ≤ j → j < 26 → t' 63 j = zoi (zgv C E S 98 26 (S j)) ∧ t' 64 j = zoi (zgv C E S 122 26 (S j)) ∧ t' 65 j = zoi (zgv C E S 107 26 (S j)) := by
    intro m
    induction m with
    | zero =>
      intro n i t hi hn hC hT
      obtain ⟨n, rfl⟩ : ∃ n', n = n' + 1 := ⟨n - 1, by omega⟩
      exact ⟨t, by rw [zf67_2, if_pos ((zn_geL (k := 26) (by omega) (by decide)).mpr (by omega))], fun _ _ => rfl, fun _ _ => ⟨rfl, rfl, rfl⟩, fun j a b => by omega⟩
    | succ m ih =>
      intro n i t hi hn hC hT
      obtain ⟨n, rfl⟩ : ∃ n', n = n' + 1 := ⟨n - 1, by omega⟩
      have i26 : i < 26 := by omega
      have fr : ∀ {t1 : zS} {a j : Nat} {x : Int32}, 63 ≤ a → a ≤ 65 → zCs t1 C E O C' E' O' → zCs (zw t1 a j x) C E O C' E' O' := fun ha hb2 hh => zCs_f hh (fun q a b => zw_ne (by omega))
      have fs : ∀ {t1 : zS} {a j : Nat} {x : Int32}, 63 ≤ a → zSt t1 S → zSt (zw t1 a j x) S := fun ha hh n hn => by rw [zw_ne (by omega)]; exact hh n hn
      have z : ∀ {t1 : zS} {l : Int32}, zCs t1 C E O C' E' O' → zSt t1 S → (l = 98 ∨ l = 122 ∨ l = 107) → zf68 61 (zoi (S i)) l t1 = some (zoi (zgv C E S l 26 (S i)), t1) := fun h1 h2 h3 => z68 h1 hg h2 hb h3 26 zfz 0 (S i) rfl (by rw [zfz_e]; decide) (fun x hx => hb i x hx)
      have C1 := fr (a := 63) (j := i) (x := zoi (zgv C E S 98 26 (S i))) (by decide) (by decide) hC
      have T1 := fs (a := 63) (j := i) (x := zoi (zgv C E S 98 26 (S i))) (by decide) hT
      have C2 := fr (a := 64) (j := i) (x := zoi (zgv C E S 122 26 (S i))) (by decide) (by decide) C1
      have T2 := fs (a := 64) (j := i) (x := zoi (zgv C E S 122 26 (S i))) (by decide) T1
      have C3 := fr (a := 65) (j := i) (x := zoi (zgv C E S 107 26 (S i))) (by decide) (by decide) C2
      have T3 := fs (a := 65) (j := i) (x := zoi (zgv C E S 107 26 (S i))) (by decide) T2
      obtain ⟨t', r1, r2, r3, r4⟩ := ih n (i + 1) _ (by omega) (by omega) C3 T3
      refine ⟨t', ?_, fun q hq => ?_, fun j hj => ?_, fun j a b => ?_⟩
      · rw [zf67_2, if_neg (fun q => by have := (zn_geL (k := 26) (by omega) (by decide)).mp q; omega), show zrf 61 2 = 62 from rfl, zal_n (by show i < 26; omega), hT i i26, z hC hT (Or.inl rfl), zbi_e, show zrf 61 3 = 63 from rfl, zas_n (by show i < 26; omega), zal_n (by show i < 26; omega), T1 i i26, z C1 T1 (Or.inr (Or.inl rfl)), zbi_e, show zrf 61 4 = 64 from rfl, zas_n (by show i < 26; omega), zal_n (by show i < 26; omega), T2 i i26, z C2 T2 (Or.inr (Or.inr rfl)), zbi_e, show zrf 61 5 = 65 from rfl, zas_n (by show i < 26; omega), zn_a1, r1]
      · rw [r2 q hq, zw_ne (by omega), zw_ne (by omega), zw_ne (by omega)]
      · obtain ⟨u1, u2, u3⟩ := r3 j (by omega)
        rw [u1, u2, u3]
        refine ⟨?_, ?_, ?_⟩
        · rw [zw_ne (by decide), zw_ne (by decide), zw_o (Or.inr (by omega))]
        · rw [zw_ne (by decide), zw_o (Or.inr (by omega)), zw_ne (by decide)]
        · rw [zw_o (Or.inr (by omega)), zw_ne (by decide), zw_ne (by decide)]
      · by_cases g : j = i
        · subst g
          obtain ⟨u1, u2, u3⟩ := r3 j (by omega)
          rw [u1, u2, u3]
          refine ⟨?_, ?_, ?_⟩
          · rw [zw_ne (by decide), zw_ne (by decide), zw_s]
          · rw [zw_ne (by decide), zw_s]
          · rw [zw_s]
        · exact r4 j (by omega) b
  obtain ⟨s', r1, r2, r3, r4⟩ := l 26 zfz 0 s rfl (by rw [zfz_e]; decide) h hS
  exact ⟨s', r1, r2, fun n hn => r4 n (Nat.zero_le _) hn⟩
def zlw (w : Nat) : Int32 := if w = 0 then 98 else if w = 1 then 122 else 107
theorem zlw_l (w : Nat) : zlw w = 98 ∨ zlw w = 122 ∨ zlw w = 107 := by
  unfold zlw
  split
  · exact Or.inl rfl
  · split
    · exact Or.inr (Or.inl rfl)
    · exact Or.inr (Or.inr rfl)
/-- the model: given -/
theorem zm194 {s : zS} {C : List Int32} {E : List zE} {S : Nat → Option Nat} {w : Nat} (hw : w < 3) (hg : zgA C E) (hN : zNa s C E S) (hG : zSg C E S) : ∀ m n o, m < n → (∀ k, o = some k → k < 26 ∧ ∃ y, S k = some y) → zit C E S m (o.bind S) = none → zf194_2 179 n (nI w) (zoi o) s = some (zoi (zgv C E S (zlw w) m (o.bind S)), s) := by
  have e94 : ∀ k y, k < 26 → S k = some y → s 194 (3 * k + w) = zoi (znu C E (zlw w) y) := by
    intro k y hk hy
    obtain ⟨y1, y2, y3, y4⟩ := hN.2 k y hk hy
    have h3 : w = 0 ∨ w = 1 ∨ w = 2 := by omega
    rcases h3 with rfl | rfl | rfl
    · exact y2
    · exact y3
    · exact y4
  intro m
  induction m with
  | zero =>
    intro n o hn ho hz
    obtain ⟨n, rfl⟩ : ∃ n', n = n' + 1 := ⟨n - 1, by omega⟩
    cases o with
    | none => rw [zf194_2, if_pos (show zoi none < 0 by decide)]; exact if_neg (show ¬ 0 ≤ zoi none by decide)
    | some k =>
      obtain ⟨k1, y, k2⟩ := ho k rfl
      have : S k = none := hz
      rw [k2] at this
      cases this
  | succ m ih =>
    intro n o hn ho hz
    obtain ⟨n, rfl⟩ : ∃ n', n = n' + 1 := ⟨n - 1, by omega⟩
    cases o with
    | none => rw [zf194_2, if_pos (show zoi none < 0 by decide)]; exact if_neg (show ¬ 0 ≤ zoi none by decide)
    | some k =>
      obtain ⟨k1, y, k2⟩ := ho k rfl
      have hy := hG.1 k y k2
      have kb : (some k).bind S = some y := k2
      rw [kb] at hz
      rw [kb, zgv]
      have n3 : (3 : Int32) * nI k + nI w = nI (3 * k + w) := by rw [zn_lit 3, zn_mul, zn_add]
      rw [zf194_2, show zoi (some k) = nI k from rfl, if_neg (zn_nn (by omega)), show zrf 179 21 = 194 from rfl, n3, zal_n (by show 3 * k + w < 78; omega), e94 k y k1 k2]
      cases hv : znu C E (zlw w) y with
      | some v =>
        have hv2 := (znb_b (hg y hy) (zlw_l w) hv).1
        rw [if_pos (show 0 ≤ zoi (some v) from Int32.not_lt.mp (zn_nn (by omega)))]
        unfold zf194_29
        rw [if_pos (show 0 ≤ nI k from Int32.not_lt.mp (zn_nn (by omega))), show zrf 179 21 = 194 from rfl, n3, zal_n (by show 3 * k + w < 78; omega), e94 k y k1 k2, hv]
      | none =>
        rw [if_neg (show ¬ 0 ≤ zoi none by decide), show zrf 179 20 = 193 from rfl, zal_n (by show k < 26; omega), (hN.2 k y k1 k2).1, ih n (znm C E 102 y) (by omega) (fun f hf => ⟨znm_b hg hy (Or.inr (Or.inl rfl)) hf, hG.2.2.1 y f hy hf⟩) hz]
        rfl
/-- a look: three numbers; those that there are at first -/
def zld (w : Nat) : Nat := if w = 1 then 10 else 0
def zpk (L : Nat → Nat) : Nat := 1000 * L 0 + 10 * L 1 + L 2
def zLg (L : Nat → Nat) : Prop := L 0 ≤ 1 ∧ 1 ≤ L 1 ∧ L 1 ≤ 99 ∧ L 2 ≤ 9
/-- a look within another -/
def zl1 (C : List Int32) (E : List zE) (S : Nat → Option Nat) (y : Option Nat) (L : Nat → Nat) (w : Nat) : Nat := match y with
  | none => L w
  | some n => match zgv C E S (zlw w) 26 (S n) with
    | some v => v
    | none => L w
theorem zl1_g {C : List Int32} {E : List zE} {S : Nat → Option Nat} {y : Option Nat} {L : Nat → Nat} (hg : zgA C E) (hb : zSb E S) (hL : zLg L) : zLg (zl1 C E S y L) := by
  cases y with
  | none => exact hL
  | some n =>
    have gb : ∀ w v, zgv C E S (zlw w) 26 (S n) = some v → _ := fun w v q => zgv_b hg hb (zlw_l w) 26 (S n) v (fun x hx => hb n x hx) q
    have g : ∀ w, zl1 C E S (some n) L w = match zgv C E S (zlw w) 26 (S n) with | some v => v | none => L w := fun _ => rfl
    unfold zLg
    rw [g 0, g 1, g 2]
    refine ⟨?_, ?_, ?_, ?_⟩
    · cases hv : zgv C E S (zlw 0) 26 (S n) with
      | none => exact hL.1
      | some v => exact (gb 0 v hv).2.1 rfl
    · cases hv : zgv C E S (zlw 1) 26 (S n) with
      | none => exact hL.2.1
      | some v => exact (gb 1 v hv).2.2.1 rfl
    · cases hv : zgv C E S (zlw 1) 26 (S n) with
      | none => exact hL.2.2.1
      | some v => exact Nat.le_of_lt_succ (gb 1 v hv).1
    · cases hv : zgv C E S (zlw 2) 26 (S n) with
      | none => exact hL.2.2.2
      | some v => exact (gb 2 v hv).2.2.2 rfl
theorem zLg_Lk {L : Nat → Nat} (h : zLg L) : zLk (nI (zpk L)) (nI (L 0)) (nI (L 1)) (nI (L 2)) := Or.inr ⟨L 0, L 1, L 2, h.1, h.2.1, h.2.2.1, h.2.2.2, rfl, rfl, rfl, rfl⟩
theorem zLg_lt {L : Nat → Nat} (h : zLg L) : zpk L < 2000 := by
  unfold zpk
  have := h.1
  have := h.2.2.1
  have := h.2.2.2
  omega
theorem z73 {s : zS} {C : List Int32} {E : List zE} {O : List (Nat × Nat)} {C' : List Int32} {E' : List zE} {O' : List (Nat × Nat)} {S : Nat → Option Nat} {e : Nat} {L : Nat → Nat} (h : zCs s C E O C' E' O') (hg : zgA C E) (hg' : zgA C' E') (hb : zSb E S) (hE : zSe s C E S) (he : e < E'.length) (hL : zLg L) : zf73 61 (nI e) (nI (zpk L)) s = some (nI (zpk (zl1 C E S (znm C' E' 121 e) L)), s) := by
  have hp := zLg_lt hL
  obtain ⟨y1, y2, y3⟩ := z74 (s := s) (zLg_Lk hL) (zn_nm (by omega))
  unfold zf73
  rw [show zrf 61 1 = 52 from rfl, z63b h hg' he (Or.inr (Or.inr rfl)), zbi_e]
  cases hn : znm C' E' 121 e with
  | none => exact if_neg (show ¬ ¬ zoi none = -1 from fun q => q rfl)
  | some n =>
    have n26 := znm_b hg' he (Or.inr (Or.inr rfl)) hn
    have gb : ∀ w v, zgv C E S (zlw w) 26 (S n) = some v → v < 100 := fun w v q => (zgv_b hg hb (zlw_l w) 26 (S n) v (fun x hx => hb n x hx) q).1
    have g : ∀ w, zl1 C E S (some n) L w = match zgv C E S (zlw w) 26 (S n) with | some v => v | none => L w := fun _ => rfl
    obtain ⟨s3, s4, s5⟩ := hE n n26
    have u3 : s 63 n = zoi (zgv C E S (zlw 0) 26 (S n)) := s3
    have u4 : s 64 n = zoi (zgv C E S (zlw 1) 26 (S n)) := s4
    have u5 : s 65 n = zoi (zgv C E S (zlw 2) 26 (S n)) := s5
    have t94 : ∀ a b c : Nat, zf73_94 61 (nI a) (nI b) (nI c) s = some (nI (1000 * a + 10 * b + c), s) := by
      intro a b c
      unfold zf73_94
      rw [zn_lit 1000, zn_mul, zn_lit 10, zn_mul, zn_add, zn_add]
    have t68 : ∀ a b : Nat, zf73_68 61 (nI (zpk L)) (nI n) (nI a) (nI b) s = some (nI (1000 * a + 10 * b + zl1 C E S (some n) L 2), s) := by
      intro a b
      unfold zf73_68
      rw [show zrf 61 5 = 65 from rfl, zal_n (by show n < 26; omega), zal_n (by show n < 26; omega), u5, g 2]
      cases hv : zgv C E S (zlw 2) 26 (S n) with
      | none => rw [if_pos (show zoi none = -1 from rfl), y3, zbi_e, t94]
      | some v =>
        have := gb 2 v hv
        rw [if_neg (show ¬ zoi (some v) = -1 from zn_nm (by omega)), show zoi (some v) = nI v from rfl, t94]
    have t42 : ∀ a : Nat, zf73_42 61 (nI (zpk L)) (nI n) (nI a) s = some (nI (1000 * a + 10 * zl1 C E S (some n) L 1 + zl1 C E S (some n) L 2), s) := by
      intro a
      unfold zf73_42
      rw [show zrf 61 4 = 64 from rfl, zal_n (by show n < 26; omega), zal_n (by show n < 26; omega), u4, g 1]
      cases hv : zgv C E S (zlw 1) 26 (S n) with
      | none => rw [if_pos (show zoi none = -1 from rfl), y2, zbi_e, t68]
      | some v =>
        have := gb 1 v hv
        rw [if_neg (show ¬ zoi (some v) = -1 from zn_nm (by omega)), show zoi (some v) = nI v from rfl, t68]
    rw [show zoi (some n) = nI n from rfl, if_pos (show ¬ nI n = -1 from zn_nm (by omega)), show zrf 61 3 = 63 from rfl, zal_n (by show n < 26; omega), zal_n (by show n < 26; omega), u3]
    show _ = some (nI (1000 * zl1 C E S (some n) L 0 + 10 * zl1 C E S (some n) L 1 + zl1 C E S (some n) L 2), s)
    rw [g 0]
    cases hv : zgv C E S (zlw 0) 26 (S n) with
    | none => rw [if_pos (show zoi none = -1 from rfl), y1, zbi_e, t42]
    | some v =>
      have := gb 0 v hv
      rw [if_neg (show ¬ zoi (some v) = -1 from zn_nm (by omega)), show zoi (some v) = nI v from rfl, t42]
/-- where the elements of a body stand -/
def zKp (E : List zE) : Prop := ∀ e, e < E.length → (e = 0 ∧ (E.getD e (0, 0, 0, [])).2.2.1 = -1 ∧ zkd E e = 100) ∨ ∃ j, j < e ∧ (E.getD e (0, 0, 0, [])).2.2.1 = nI j ∧ ((zkd E e = 112 ∧ (zkd E j = 100 ∨ zkd E j = 105)) ∨ (zkd E e = 108 ∧ (zkd E j = 100 ∨ zkd E j = 105)) ∨ (zkd E e = 105 ∧ zkd E j = 108) ∨ (zkd E e = 120 ∧ (zkd E j = 112 ∨ zkd E j = 120)))
theorem zKp_of {C : List Int32} {E : List zE} (hok : zok C E) (h30 : E.length ≤ 30) (hs : ∀ e, e < E.length → zst E 100 e = true) (hk : ∀ e, e < E.length → zkO 1 (zkd E e)) : zKp E := by
  intro e he
  have h1 := hs e he
  unfold zst at h1
  rcases (hok e he).2 with ⟨g1, g2⟩ | ⟨j, g1, g2⟩
  · left
    rw [g2, if_pos rfl, decide_eq_true_eq] at h1
    exact ⟨g1, g2, h1⟩
  · right
    rw [g2, if_neg (zn_nm (by omega)), zn_cl (by omega)] at h1
    refine ⟨j, g1, g2, ?_⟩
    have k1 := (hk j (by omega)).2 rfl
    unfold zmst at h1
    rcases k1 with k1 | k1 | k1 | k1 | k1 <;> rw [k1] at h1 ⊢ <;> simp at h1
    · rcases h1 with h1 | h1
      · exact Or.inl ⟨h1, Or.inl rfl⟩
      · exact Or.inr (Or.inl ⟨h1, Or.inl rfl⟩)
    · exact Or.inr (Or.inr (Or.inr ⟨h1, Or.inl rfl⟩))
    · exact Or.inr (Or.inr (Or.inl ⟨h1, rfl⟩))
    · rcases h1 with h1 | h1
      · exact Or.inl ⟨h1, Or.inr rfl⟩
      · exact Or.inr (Or.inl ⟨h1, Or.inr rfl⟩)
    · exact Or.inr (Or.inr (Or.inr ⟨h1, Or.inr rfl⟩))
/-- the look of an element of the body -/
def zLe (C : List Int32) (E : List zE) (S : Nat → Option Nat) (C' : List Int32) (E' : List zE) : Nat → Nat → Nat → Nat
  | 0, _ => zld
  | k + 1, e => if zkd E' e = 112 then zl1 C E S (znm C' E' 121 e) zld
    else if zkd E' e = 120 then zl1 C E S (znm C' E' 121 e) (zLe C E S C' E' k (E'.getD e (0, 0, 0, [])).2.2.1.toNatClampNeg)
    else zld
theorem zLe_f {C : List Int32} {E : List zE} {S : Nat → Option Nat} {C' : List Int32} {E' : List zE} (hK : zKp E') (h30 : E'.length ≤ 30) : ∀ e k, e < E'.length → e < k → zLe C E S C' E' k e = zLe C E S C' E' (e + 1) e := by
  intro e
  induction e using Nat.strongRecOn with
  | ind e ih =>
    intro k he hk
    obtain ⟨k, rfl⟩ : ∃ k', k = k' + 1 := ⟨k - 1, by omega⟩
    rw [zLe, zLe]
    rcases hK e he with ⟨g1, g2, g3⟩ | ⟨j, g1, g2, g3⟩
    · rw [g3, if_neg (by decide), if_neg (by decide), if_neg (by decide), if_neg (by decide)]
    · rw [g2, zn_cl (by omega), ih j g1 k (by omega) (by omega), ih j g1 e (by omega) (by omega)]
def zLo (C : List Int32) (E : List zE) (S : Nat → Option Nat) (C' : List Int32) (E' : List zE) (e : Nat) : Nat → Nat := zLe C E S C' E' (e + 1) e
theorem zLo_p {C : List Int32} {E : List zE} {S : Nat → Option Nat} {C' : List Int32} {E' : List zE} {e : Nat} (hk : zkd E' e = 112) : zLo C E S C' E' e = zl1 C E S (znm C' E' 121 e) zld := by
  unfold zLo
  rw [zLe, if_pos hk]
theorem zLo_x {C : List Int32} {E : List zE} {S : Nat → Option Nat} {C' : List Int32} {E' : List zE} {e j : Nat} (hK : zKp E') (h30 : E'.length ≤ 30) (he : e < E'.length) (hk : zkd E' e = 120) (hj : j < e) (hp : (E'.getD e (0, 0, 0, [])).2.2.1 = nI j) : zLo C E S C' E' e = zl1 C E S (znm C' E' 121 e) (zLo C E S C' E' j) := by
  unfold zLo
  rw [zLe, if_neg (by rw [hk]; decide), if_pos hk, hp, zn_cl (by omega), zLe_f hK h30 j e (by omega) hj]
theorem zld_g : zLg zld := ⟨by decide, by decide, by decide, by decide⟩
theorem zLo_g {C : List Int32} {E : List zE} {S : Nat → Option Nat} {C' : List Int32} {E' : List zE} (hg : zgA C E) (hb : zSb E S) (e : Nat) : zLg (zLo C E S C' E' e) := by
  have : ∀ k e, zLg (zLe C E S C' E' k e) := by
    intro k
    induction k with
    | zero => intro e; exact zld_g
    | succ k ih =>
      intro e
      rw [zLe]
      split
      · exact zl1_g hg hb zld_g
      · split
        · exact zl1_g hg hb (ih _)
        · exact zld_g
  exact this _ _
/-- the model: lookOf -/
theorem zm193 {s : zS} {C : List Int32} {E : List zE} {O : List (Nat × Nat)} {C' : List Int32} {E' : List zE} {O' : List (Nat × Nat)} {S : Nat → Option Nat} {w : Nat} (hw : w < 3) (hM : zMd s C E O C' E' O') (hok' : zok C' E') (hbE' : zEb E') (hg : zgA C E) (hg' : zgA C' E') (hN : zNa s C E S) (hG : zSg C E S) (hY : ∀ e f, e < E'.length → znm C' E' 121 e = some f → ∃ y, S f = some y) (hK : zKp E') : ∀ e n, e < E'.length → (zkd E' e = 112 ∨ zkd E' e = 120) → e + 2 < n → zf193_5 179 n (nI w) (nI e) (-1) s = some (nI (zLo C E S C' E' e w), s) := by
  have h30 := hbE'.1
  have k30 : ∀ e, e < E'.length → s 187 (30 + e) = zkd E' e ∧ s 189 (30 + e) = (E'.getD e (0, 0, 0, [])).2.2.1 := fun e he => ⟨(hM.2.2.2.1.2.2 e he).1, (hM.2.2.2.1.2.2 e he).2.2⟩
  have n30 : ∀ e, (30 : Int32) + nI e = nI (30 + e) := fun e => by rw [zn_lit 30, zn_add]
  have e83 : zf193_83 179 (nI w) (-1) s = some (nI (zld w), s) := by
    unfold zf193_83
    rw [if_pos (by decide)]
    have h3 : w = 0 ∨ w = 1 ∨ w = 2 := by omega
    rcases h3 with rfl | rfl | rfl
    · exact if_pos (by decide)
    · exact if_neg (by decide)
    · exact if_pos (by decide)
  have e83v : ∀ v n x, v < 100 → zf193_5 179 (n + 1) (nI w) x (nI v) s = some (nI v, s) := by
    intro v n x hv
    rw [zf193_5, if_pos (show 0 ≤ nI v from Int32.not_lt.mp (zn_nn (by omega)))]
    unfold zf193_83
    rw [if_neg (zn_nn (by omega))]
  intro e
  induction e using Nat.strongRecOn with
  | ind e ih =>
    intro n he hk hn
    obtain ⟨n, rfl⟩ : ∃ n', n = n' + 2 := ⟨n - 2, by omega⟩
    -- one turn
    obtain ⟨j, hj, hp, hj2⟩ : ∃ j, j < e ∧ (E'.getD e (0, 0, 0, [])).2.2.1 = nI j ∧ ((zkd E' e = 112 ∧ (zkd E' j = 100 ∨ zkd E' j = 105)) ∨ (zkd E' e = 120 ∧ (zkd E' j = 112 ∨ zkd E' j = 120))) := by
      rcases hK e he with ⟨g1, g2, g3⟩ | ⟨j, g1, g2, g3⟩
      · rw [g3] at hk
        rcases hk with hk | hk <;> exact absurd hk (by decide)
      · refine ⟨j, g1, g2, ?_⟩
        rcases g3 with g3 | g3 | g3 | g3
        · exact Or.inl g3
        · rw [g3.1] at hk
          rcases hk with hk | hk <;> exact absurd hk (by decide)
        · rw [g3.1] at hk
          rcases hk with hk | hk <;> exact absurd hk (by decide)
        · exact Or.inr g3
    have t68 : ∀ t0, zf193_68 179 (zf193_5 179 (n + 1)) (nI w) (nI e) t0 s = zf193_5 179 (n + 1) (nI w) (nI j) t0 s := by
      intro t0
      unfold zf193_68
      rw [show zrf 179 12 = 189 from rfl, n30, zal_n (by show 30 + e < 60; omega), (k30 e he).2, hp]
    -- the next turn, nothing found
    have next : zf193_5 179 (n + 1) (nI w) (nI j) (-1) s = some (nI ((if zkd E' e = 112 then zld else zLo C E S C' E' j) w), s) := by
      rcases hj2 with ⟨q1, q2⟩ | ⟨q1, q2⟩
      · rw [if_pos q1, zf193_5, if_neg (show ¬ (0 : Int32) ≤ -1 by decide), if_neg (zn_nn (by omega)), show zrf 179 10 = 187 from rfl, n30, zal_n (by show 30 + j < 60; omega), zal_n (by show 30 + j < 60; omega), (k30 j (by omega)).1]
        have k1 : ¬ zkd E' j = 112 := by rcases q2 with q2 | q2 <;> rw [q2] <;> decide
        have k2 : ¬ zkd E' j = 120 := by rcases q2 with q2 | q2 <;> rw [q2] <;> decide
        rw [if_neg k1, if_pos k2, e83]
      · rw [if_neg (by rw [q1]; decide)]
        exact ih j hj (n + 1) (by omega) q2 (by omega)
    have t42 : zf193_42 179 (zf193_5 179 (n + 1)) (nI w) (nI e) s = some (nI (zl1 C E S (znm C' E' 121 e) (if zkd E' e = 112 then zld else zLo C E S C' E' j) w), s) := by
      unfold zf193_42
      rw [z185b hM hok' hbE' hg' he (Or.inr (Or.inr rfl)), zbi_e, t68, next]
      cases hy : znm C' E' 121 e with
      | none => exact if_neg (show ¬ 0 ≤ zoi none by decide)
      | some f =>
        have f26 := znm_b hg' he (Or.inr (Or.inr rfl)) hy
        obtain ⟨y, hf⟩ := hY e f he hy
        have t := zm194 hw hg hN hG 26 zfz (some f) (by rw [zfz_e]; decide) (fun k q => by cases q; exact ⟨f26, y, hf⟩) (by
          show zit C E S 26 (S f) = none
          rw [hf]
          exact hG.2.2.2 f y hf)
        have t' : zf194 179 (nI f) (nI w) s = some (zoi (zgv C E S (zlw w) 26 (S f)), s) := t
        have g : zl1 C E S (some f) (if zkd E' e = 112 then zld else zLo C E S C' E' j) w = match zgv C E S (zlw w) 26 (S f) with | some v => v | none => (if zkd E' e = 112 then zld else zLo C E S C' E' j) w := rfl
        rw [show zoi (some f) = nI f from rfl, if_pos (show 0 ≤ nI f from Int32.not_lt.mp (zn_nn (by omega))), t', zbi_e, t68, g]
        cases hv : zgv C E S (zlw w) 26 (S f) with
        | none => exact next
        | some v =>
          have hv2 := (zgv_b hg hG.1 (zlw_l w) 26 (S f) v (fun x hx => hG.1 f x hx) hv).1
          exact e83v v n _ hv2
    have fin : zl1 C E S (znm C' E' 121 e) (if zkd E' e = 112 then zld else zLo C E S C' E' j) = zLo C E S C' E' e := by
      rcases hj2 with ⟨q1, q2⟩ | ⟨q1, q2⟩
      · rw [if_pos q1, zLo_p q1]
      · rw [if_neg (by rw [q1]; decide), zLo_x hK h30 he q1 hj hp]
    rw [fin] at t42
    rw [zf193_5, if_neg (show ¬ (0 : Int32) ≤ -1 by decide), if_neg (zn_nn (by omega)), show zrf 179 10 = 187 from rfl, n30, zal_n (by show 30 + e < 60; omega), zal_n (by show 30 + e < 60; omega), (k30 e he).1, t42]
    rcases hk with hk | hk
    · rw [if_pos hk]
    · rw [if_neg (by rw [hk]; decide), if_neg (fun q => q hk)]

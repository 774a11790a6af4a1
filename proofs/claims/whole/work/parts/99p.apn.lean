/-! apply, the model's, all of it. -/
set_option maxRecDepth 100000
set_option linter.unusedVariables false
def zcM (o : Option (Option Nat)) : Int32 := match o with
  | some (some b) => nI b
  | _ => -1
theorem zold_e {A B : List zN} {x : zSp} (hx : zSv A B x) (hA : A.length ≤ 40) {a : Nat} (ha : a < 40) : zoi x.1 = nI a ↔ x.1 = some a := by
  have b1 : ∀ l, x.1 = some l → l < 2000 := by
    intro l hl
    rcases hx with ⟨i, j, e, h1, _⟩ | ⟨i, e, _, h1⟩ | ⟨j, c, p, e, _⟩
    · rw [e] at hl; cases hl; omega
    · rw [e] at hl; cases hl; omega
    · rw [e] at hl; cases hl
  exact zoi_eq (b := some a) b1 (fun l h => by cases h; omega)
theorem zm223_50 {A B : List zN} {L : List zSp} {n a : Nat} {g0 : Bool} {k2 : Int32 → Int32 → zS → Option zS} (hA : A.length ≤ 40) (hB : B.length ≤ 40) (hS : ∀ x ∈ L, zSv A B x) (hU : ∀ a, (L.filter (fun x => x.1 == some a)).length ≤ 1) (hn : n ≤ L.length) (ha : a < A.length) : ∀ m f k (s : zS), k + m = n → m < f → zScM s L → s 217 a = (if (g0 || decide (zfx (L.take k) a = some none)) = true then 1 else 0) → s 218 a = zcM (zfx (L.take k) a) →
    ∃ s', zf223_50 179 k2 f (nI n) (nI a) (nI k) s = k2 (nI n) (nI (a + 1)) s' ∧ s' 217 a = (if (g0 || decide (zfx (L.take n) a = some none)) = true then 1 else 0) ∧ s' 218 a = zcM (zfx (L.take n) a) ∧ (∀ p, p ≠ 217 → p ≠ 218 → s' p = s p) ∧ ∀ j, j ≠ a → s' 217 j = s 217 j ∧ s' 218 j = s 218 j := by
  intro m
  induction m with
  | zero =>
    intro f k s hk hf hL h1 h2
    obtain ⟨f, rfl⟩ : ∃ f', f = f' + 1 := ⟨f - 1, by omega⟩
    have := hL.2.1
    have e : k = n := by omega
    subst e
    exact ⟨s, by rw [zf223_50, if_pos ((zn_le (by omega) (by omega)).mpr (Nat.le_refl _)), zn_a1], h1, h2, fun _ _ _ => rfl, fun _ _ => ⟨rfl, rfl⟩⟩
  | succ m ih =>
    intro f k s hk hf hL h1 h2
    obtain ⟨f, rfl⟩ : ∃ f', f = f' + 1 := ⟨f - 1, by omega⟩
    have h80 := hL.2.1
    have hkl : k < L.length := by omega
    obtain ⟨a1, a2, _, _⟩ := hL.2.2 k hkl
    obtain ⟨x, hx⟩ : ∃ x, x = zsL L k := ⟨_, rfl⟩
    have hv := hS x (by rw [hx]; exact zsL_m hkl)
    have eo := zold_e hv hA (a := a) (by omega)
    have ef := zfx_c (a := a) hkl hU
    have eu : x.1 = some a → zfx (L.take k) a = none := fun q => by
      unfold zfx
      rw [zuq hU hkl (by rw [← hx]; exact q)]
      rfl
    rw [← hx] at a1 a2 ef
    -- the two stores
    have fin : ∀ (b : Bool), b = (g0 || decide (zfx (L.take (k + 1)) a = some none)) → ∃ s', zf223_93 179 k2 (zf223_50 179 k2 f) (nI n) (nI a) (nI k) (if b = true then 1 else 0) (nI a) s = k2 (nI n) (nI (a + 1)) s' ∧ s' 217 a = (if (g0 || decide (zfx (L.take n) a = some none)) = true then 1 else 0) ∧ s' 218 a = zcM (zfx (L.take n) a) ∧ (∀ p, p ≠ 217 → p ≠ 218 → s' p = s p) ∧ ∀ j, j ≠ a → s' 217 j = s 217 j ∧ s' 218 j = s 218 j := by
      intro b hb
      obtain ⟨s1, hs1⟩ : ∃ s1, s1 = zw s 217 a (if b = true then 1 else 0) := ⟨_, rfl⟩
      have ebs : ∀ (c : zS → Option zS), zbs s 217 (nI a) (if b = true then 1 else 0) c = c s1 := by
        intro c
        rw [hs1]
        cases b with
        | true => exact zbs_1 (by show a < 40; omega)
        | false => exact zbs_0 (by show a < 40; omega)
      obtain ⟨s2, hs2⟩ : ∃ s2, s2 = zw s1 218 a (zcM (zfx (L.take (k + 1)) a)) := ⟨_, rfl⟩
      have f2 : ∀ p, p ≠ 217 → p ≠ 218 → s2 p = s p := fun p u w => by rw [hs2, zw_ne w, hs1, zw_ne u]
      obtain ⟨s', d1, d2, d3, d4, d5⟩ := ih f (k + 1) s2 (by omega) (by omega) (zScM_f hL (fun p u w => f2 p (by omega) (by omega)) (by rw [f2 179 (by decide) (by decide)])) (by rw [hs2, zw_o (Or.inl (by decide)), hs1, zw_s, hb]) (by rw [hs2, zw_s])
      refine ⟨s', ?_, d2, d3, fun p u w => by rw [d4 p u w, f2 p u w], fun j hj => ?_⟩
      · unfold zf223_93
        rw [show zrf 179 48 = 217 from rfl, ebs, show zrf 179 33 = 204 from rfl, show zrf 179 34 = 205 from rfl, show zrf 179 49 = 218 from rfl, zal_n (by show k < 120; omega), show s1 204 k = s 204 k by rw [hs1, zw_o (Or.inl (by decide))], a1]
        by_cases g : x.1 = some a
        · rw [if_neg (fun q => q (eo.mpr g)), zal_n (by show k < 120; omega), show s1 205 k = s 205 k by rw [hs1, zw_o (Or.inl (by decide))], a2, zas_n (by show a < 40; omega)]
          rw [ef, if_pos g] at hs2
          have : zcM (some x.2.1) = zoi x.2.1 := by cases x.2.1 <;> rfl
          rw [← this, ← hs2, zn_a1]
          exact d1
        · rw [if_pos (fun q => g (eo.mp q)), zal_n (by show a < 40; omega), zas_n (by show a < 40; omega)]
          rw [ef, if_neg g, ← h2] at hs2
          have : s1 218 a = s 218 a := by rw [hs1, zw_o (Or.inl (by decide))]
          rw [this, ← hs2, zn_a1]
          exact d1
      · rw [(d5 j hj).1, (d5 j hj).2, hs2, hs1]
        exact ⟨by rw [zw_o (Or.inr hj), zw_o (Or.inr hj)], by rw [zw_o (Or.inr hj), zw_o (Or.inr hj)]⟩
    rw [zf223_50, if_neg (fun q => by have := (zn_le (by omega) (by omega)).mp q; omega), show zrf 179 48 = 217 from rfl, show zrf 179 33 = 204 from rfl, show zrf 179 34 = 205 from rfl, zal_n (by show a < 40; omega), h1]
    by_cases gb : (g0 || decide (zfx (L.take k) a = some none)) = true
    · rw [if_pos gb, if_pos (show ¬ (1 : Int32) = 0 by decide)]
      have := fin true (by
        rw [ef]
        by_cases g : x.1 = some a
        · have := eu g
          rw [this] at gb
          have hg0 : g0 = true := by simpa using gb
          rw [hg0, Bool.true_or]
        · rw [if_neg g, gb])
      exact this
    · rw [if_neg gb, if_neg (show ¬ ¬ (0 : Int32) = 0 from fun q => q rfl), zal_n (by show k < 120; omega), a1]
      by_cases g : x.1 = some a
      · have hu := eu g
        rw [if_neg (fun q => q (eo.mpr g)), zal_n (by show k < 120; omega), a2]
        have hg0 : g0 = false := by
          cases hg : g0 with
          | false => rfl
          | true => rw [hg] at gb; exact absurd rfl gb
        cases hj : x.2.1 with
        | none =>
          rw [if_neg (show ¬ 0 ≤ zoi none by decide)]
          have := fin true (by rw [ef, if_pos g, hj, hg0]; rfl)
          exact this
        | some j =>
          have hjb : j < 2000000 := by
            rcases hv with ⟨i', j', e, _, q, _⟩ | ⟨i', e, _⟩ | ⟨j', c, p, e, _, q, _⟩
            · rw [e] at hj; cases hj; omega
            · rw [e] at hj; cases hj
            · rw [e] at g; cases g
          rw [if_pos (show 0 ≤ zoi (some j) from Int32.not_lt.mp (zn_nn (by omega)))]
          have := fin false (by rw [ef, if_pos g, hj, hg0]; rfl)
          exact this
      · rw [if_pos (fun q => g (eo.mp q))]
        have := fin false (by rw [ef, if_neg g]; cases hb : (g0 || decide (zfx (L.take k) a = some none)) with
          | false => rfl
          | true => exact absurd hb gb)
        exact this
theorem zm223 {s : zS} {A B : List zN} {L : List zSp} {n : Nat} (hA : zSm A) (hB : zSm B) (hS : ∀ x ∈ L, zSv A B x) (hU : ∀ a, (L.filter (fun x => x.1 == some a)).length ≤ 1) (hn : n ≤ L.length) (hP : zPm 0 s A) (hPB : zPm 1 s B) (hL : zScM s L) : ∃ s', zf223 179 (nI n) s = some s' ∧ zAm s' A B L n ∧ ∀ p, p ≠ 217 → p ≠ 218 → s' p = s p := by
  have hA4 := hA.2.1
  have h80 := hL.2.1
  have l : ∀ m f a (t : zS), a + m = A.length → m < f → zPm 0 t A → zScM t L → (∀ b, b < a → t 217 b = (if zgB A (L.take n) b = true then 1 else 0) ∧ t 218 b = zcM (zfx (L.take n) b)) → ∃ t', zf223_2 179 f (nI n) (nI a) t = some t' ∧ (∀ b, b < A.length → t' 217 b = (if zgB A (L.take n) b = true then 1 else 0) ∧ t' 218 b = zcM (zfx (L.take n) b)) ∧ ∀ p, p ≠ 217 → p ≠ 218 → t' p = t p := by
    intro m
    induction m with
    | zero =>
      intro f a t ha hf hP hL h
      obtain ⟨f, rfl⟩ : ∃ f', f = f' + 1 := ⟨f - 1, by omega⟩
      have q0 : ∀ (c : Int32 → Option zS), zal t 195 0 c = c (t 195 0) := fun c => zal_n (j := 0) (by decide)
      exact ⟨t, by rw [zf223_2, show zrf 179 22 = 195 from rfl, q0, hP.1, if_pos ((zn_le (by omega) (by omega)).mpr (by omega))], fun b hb => h b (by omega), fun _ _ _ => rfl⟩
    | succ m ih =>
      intro f a t ha hf hP hL h
      obtain ⟨f, rfl⟩ : ∃ f', f = f' + 1 := ⟨f - 1, by omega⟩
      have hal : a < A.length := by omega
      have q0 : ∀ (c : Int32 → Option zS), zal t 195 0 c = c (t 195 0) := fun c => zal_n (j := 0) (by decide)
      rw [zf223_2, show zrf 179 22 = 195 from rfl, q0, hP.1, if_neg (fun q => by have := (zn_le (by omega) (by omega)).mp q; omega)]
      have step : ∃ t', zf223_40 179 (zf223_2 179 f) (nI n) (nI a) (if zgO A (L.take n) (zab A a) = true then 1 else 0) (nI a) t = some t' ∧ (∀ b, b < A.length → t' 217 b = (if zgB A (L.take n) b = true then 1 else 0) ∧ t' 218 b = zcM (zfx (L.take n) b)) ∧ ∀ p, p ≠ 217 → p ≠ 218 → t' p = t p := by
        obtain ⟨g0, hg0⟩ : ∃ g0, g0 = zgO A (L.take n) (zab A a) := ⟨_, rfl⟩
        rw [← hg0]
        obtain ⟨t1, ht1⟩ : ∃ t1, t1 = zw (zw t 217 a (if g0 = true then 1 else 0)) 218 a (-1) := ⟨_, rfl⟩
        have f1 : ∀ p, p ≠ 217 → p ≠ 218 → t1 p = t p := fun p u w => by rw [ht1, zw_ne w, zw_ne u]
        have ebs : ∀ (c : zS → Option zS), zbs t 217 (nI a) (if g0 = true then 1 else 0) c = c (zw t 217 a (if g0 = true then 1 else 0)) := by
          intro c
          cases g0 with
          | true => exact zbs_1 (by show a < 40; omega)
          | false => exact zbs_0 (by show a < 40; omega)
        obtain ⟨t2, b1, b2, b3, b4, b5⟩ := zm223_50 (g0 := g0) (a := a) (k2 := zf223_2 179 f) hA4 hB.2.1 hS hU hn hal n zfz 0 t1 (Nat.zero_add _) (by rw [zfz_e]; omega) (zScM_f hL (fun p u w => f1 p (by omega) (by omega)) (by rw [f1 179 (by decide) (by decide)])) (by
          rw [ht1, zw_o (Or.inl (by decide)), zw_s]
          show _ = if (g0 || decide (zfx [] a = some none)) = true then 1 else 0
          have : decide (zfx [] a = some none) = false := rfl
          rw [this, Bool.or_false]) (by rw [ht1, zw_s]; rfl)
        obtain ⟨t', d1, d2, d3⟩ := ih f (a + 1) t2 (by omega) (by omega) (zPm_e hP (fun p u w => by rw [b4 p (by omega) (by omega), f1 p (by omega) (by omega)])) (zScM_f hL (fun p u w => by rw [b4 p (by omega) (by omega), f1 p (by omega) (by omega)]) (by rw [b4 179 (by decide) (by decide), f1 179 (by decide) (by decide)])) (fun b hb => by
          by_cases e : b = a
          · subst e
            rw [zgB_e hA.1, Bool.or_comm, ← hg0]
            exact ⟨b2, b3⟩
          · rw [(b5 b e).1, (b5 b e).2, ht1, zw_o (Or.inr e), zw_o (Or.inr e), zw_o (Or.inr e), zw_o (Or.inr e)]
            exact h b (by omega))
        refine ⟨t', ?_, d2, fun p u w => by rw [d3 p u w, b4 p u w, f1 p u w]⟩
        unfold zf223_40
        rw [show zrf 179 48 = 217 from rfl, ebs, show zrf 179 49 = 218 from rfl, zas_n (by show a < 40; omega), ← ht1]
        have b1' : zf223_50 179 (zf223_2 179 f) zfz (nI n) (nI a) 0 t1 = zf223_2 179 f (nI n) (nI (a + 1)) t2 := b1
        rw [b1']
        exact d1
      by_cases g : a = 0
      · subst g
        rw [if_pos (show nI 0 ≤ 0 by decide)]
        have e : zab A 0 = none := by
          rcases (hA.1 0 hal).2.1 with ⟨_, w, _⟩ | ⟨c, w, _⟩
          · exact w
          · omega
        rw [e] at step
        exact step
      · rcases (hA.1 a hal).2.1 with ⟨w, _⟩ | ⟨c, w1, w2, _⟩
        · omega
        · have e197 : t 197 a = nI c := by
            have := (hP.2.2.2.2.2 a hal).2.1
            rw [show 100 * 0 + a = a by omega] at this
            rw [this, show (zno A a).2.1 = some c from w2]
            rfl
          rw [if_neg (fun q => by have := (zn_le (a := a) (b := 0) (by omega) (by decide)).mp q; omega), show zrf 179 24 = 197 from rfl, show zrf 179 48 = 217 from rfl, zal_n (by show a < 400; omega), e197, zal_n (by show c < 40; omega), (h c w1).1]
          rw [w2] at step
          have eg : zgO A (L.take n) (some c) = zgB A (L.take n) c := rfl
          rw [eg] at step
          cases hgc : zgB A (L.take n) c with
          | true =>
            rw [hgc] at step
            rw [if_pos rfl, if_neg (show ¬ (1 : Int32) = 0 by decide)]
            exact step
          | false =>
            rw [hgc] at step
            rw [if_neg (show ¬ false = true by decide), if_pos rfl]
            exact step
  obtain ⟨s', d1, d2, d3⟩ := l A.length zfz 0 s (Nat.zero_add _) (by rw [zfz_e]; omega) hP hL (fun b hb => absurd hb (Nat.not_lt_zero _))
  refine ⟨s', d1, ⟨zPm_e hP (fun p u w => d3 p (by omega) (by omega)), zPm_e hPB (fun p u w => d3 p (by omega) (by omega)), zScM_f hL (fun p u w => d3 p (by omega) (by omega)) (by rw [d3 179 (by decide) (by decide)]), hn, fun a ha => d2 a ha⟩, d3⟩
/-- the ends of rows, those that are there -/
theorem zm222_e {A B : List zN} {L : List zSp} {n p : Nat} {CP : Nat → Nat} {k62 : Int32 → Int32 → zS → Option (Int32 × zS)} (hA : zSm A) (hB : zSm B) (hS : ∀ x ∈ L, zSv A B x) (hp : 0 < p) (hpl : p ≤ A.length) : ∀ x f m (s : zS) D, zan A x (p - 1) → zgB A (L.take n) x = false → (∀ v, zab A p = some v → zan A v x) → x + 1 < f → x + 1 < m → zAm s A B L n → zPm 2 s D → (∀ y, zan A y x → s 219 y = nI (CP y)) → (zerw A B (L.take n) CP (zab A p) m (some x) D).length ≤ 80 → (zlt (zerw A B (L.take n) CP (zab A p) m (some x) D)).length ≤ 600 →
    ∃ s', zf222_76 179 k62 f (nI n) (nI p) (nI x) s = zf222_116 179 k62 (nI n) (nI p) s' ∧ zPm 2 s' (zerw A B (L.take n) CP (zab A p) m (some x) D) ∧ zFm 2 s s' := by
  have hA4 := hA.2.1
  intro x
  induction x using Nat.strongRecOn with
  | ind x ih =>
    intro f m s D hx hg hv hf hm h hP hcp hc hl
    obtain ⟨f, rfl⟩ : ∃ f', f = f' + 1 := ⟨f - 1, by omega⟩
    obtain ⟨m, rfl⟩ : ∃ m', m = m' + 1 := ⟨m - 1, by omega⟩
    have hxl : x < A.length := by have := zan_le hA.1 hx; omega
    have e224 : zf224 179 0 (nI x) s = some (nI (zend A x), s) := zm224 (i := 0) (by decide) h.1 hA hxl
    obtain ⟨w1, w2, _, _⟩ := zend_p hxl
    have ei := zend_i hA.1 hxl hp hx
    rw [zerw] at hc hl ⊢
    rw [zf222_76, if_neg (zn_nn (by omega)), e224, zbi_e]
    by_cases e : some x = zab A p
    · rw [if_pos e] at hc hl ⊢
      have : ¬ zend A x = p := fun q => by have := ei.mp q x e.symm; omega
      rw [if_pos (fun q => this ((zn_eq (by omega) (by omega)).mp q))]
      exact ⟨s, rfl, hP, zFm_r⟩
    · rw [if_neg e] at hc hl ⊢
      have he : zend A x = p := ei.mpr (fun v hv' => by
        have h1 := zan_le hA.1 (hv v hv')
        have : v ≠ x := fun q => e (by rw [hv', q])
        omega)
      obtain ⟨X, hX⟩ := zerw_x (A := A) (B := B) (P := L.take n) (CP := CP) (u := zab A p) m (zab A x) (zpin B (L.take n) CP x none D)
      obtain ⟨s1, c1, c2, c3⟩ := zm225 (row := x) (pl := none) hA hB hS hxl (fun i q => by cases q) h hP (hcp x zan_r) (by rw [hX, List.length_append] at hc; omega) (by rw [hX, zlt_ap, List.length_append] at hl; omega)
      have c1' : zf225 179 (nI x) (-1) (nI n) s = some s1 := c1
      have h1 := zAm_f h c3
      have e197 : s1 197 x = zoi (zab A x) := by
        have := (h1.1.2.2.2.2.2 x hxl).2.1
        rw [show 100 * 0 + x = x by omega] at this
        exact this
      rw [if_neg (fun q => q (by rw [he])), show zrf 179 48 = 217 from rfl, zal_n (by show x < 40; omega), (h.2.2.2.2 x hxl).1, hg, if_neg (show ¬ false = true by decide), if_neg (show ¬ ¬ (0 : Int32) = 0 from fun q => q rfl), c1', zbv_e, show zrf 179 24 = 197 from rfl, zal_n (by show x < 400; omega), e197]
      cases hy : zab A x with
      | none =>
        rw [hy] at hc hl
        obtain ⟨f, rfl⟩ : ∃ f', f = f' + 1 := ⟨f - 1, by omega⟩
        refine ⟨s1, ?_, ?_, c3⟩
        · rw [zf222_76, if_pos (show zoi none < 0 by decide)]
        · obtain ⟨m, rfl⟩ : ∃ m', m = m' + 1 := ⟨m - 1, by omega⟩
          rw [zerw]
          split <;> exact c2
      | some y =>
        have hyx := (zab_d hA.1 hy).1
        rw [hy] at hc hl
        have hgy : zgB A (L.take n) y = false := by
          cases hq : zgB A (L.take n) y with
          | false => rfl
          | true => have := zgB_d hA.1 (zan_s hy zan_r) hq; rw [hg] at this; cases this
        obtain ⟨s', d1, d2, d3⟩ := ih y hyx f m s1 (zpin B (L.take n) CP x none D) (zan_t (zan_s hy zan_r) hx) hgy (fun v hv' => by
          rcases zan_c (hv v hv') with q | ⟨z, q1, q2⟩
          · exact absurd (by rw [hv', q]) e
          · rw [hy] at q1; cases q1; exact q2) (by omega) (by omega) h1 c2 (fun z hz => by rw [c3.1 219 (by omega)]; exact hcp z (zan_s hy hz)) hc hl
        exact ⟨s', d1, d2, zFm_t c3 d3⟩
/-- the ends of rows, from the node in front -/
theorem zm222_g {A B : List zN} {L : List zSp} {n p : Nat} {CP : Nat → Nat} {o : Option Nat} {k62 : Int32 → Int32 → zS → Option (Int32 × zS)} (hA : zSm A) (hB : zSm B) (hS : ∀ x ∈ L, zSv A B x) (hp : 0 < p) (hpl : p ≤ A.length) (hO : zOp A (L.take n) p o) (hg : zgO A (L.take n) (zab A p) = false) {s : zS} {D : List zN} (h : zAm s A B L n) (hP : zPm 2 s D) (hcp : ∀ y, y < p → zgB A (L.take n) y = false → s 219 y = nI (CP y)) (hc : (zerw A B (L.take n) CP (zab A p) 41 o D).length ≤ 80) (hl : (zlt (zerw A B (L.take n) CP (zab A p) 41 o D)).length ≤ 600) : ∀ x f, zan A x (p - 1) → (∀ y, zan A y (p - 1) → x < y → zgB A (L.take n) y = true) → x + 1 < f →
    ∃ s', zf222_76 179 k62 f (nI n) (nI p) (nI x) s = zf222_116 179 k62 (nI n) (nI p) s' ∧ zPm 2 s' (zerw A B (L.take n) CP (zab A p) 41 o D) ∧ zFm 2 s s' := by
  have hA4 := hA.2.1
  obtain ⟨_, o1, o2⟩ : 0 < p ∧ (∀ x, o = some x → x < p ∧ zan A x (p - 1) ∧ zgB A (L.take n) x = false) ∧ ∀ y, zan A y (p - 1) → zgB A (L.take n) y = false → ∃ x, o = some x ∧ zan A y x := by
    rcases hO with ⟨q, _⟩ | q
    · omega
    · exact q
  intro x
  induction x using Nat.strongRecOn with
  | ind x ih =>
    intro f hx hab hf
    have hxp := zan_le hA.1 hx
    have hxl : x < A.length := by omega
    cases hgx : zgB A (L.take n) x with
    | false =>
      obtain ⟨z, z1, z2⟩ := o2 x hx hgx
      obtain ⟨_, z3, z4⟩ := o1 z z1
      have hzx : z = x := by
        have h1 := zan_le hA.1 z2
        rcases Nat.lt_or_ge x z with q | q
        · have := hab z z3 q; rw [z4] at this; cases this
        · omega
      subst hzx
      rw [z1] at hc hl ⊢
      refine zm222_e hA hB hS hp hpl z f 41 s D hx hgx (fun v hv => ?_) (by omega) (by omega) h hP (fun y hy => ?_) hc hl
      · rw [hv] at hg
        obtain ⟨w, w1, w2⟩ := o2 v (zab_d hA.1 hv).2 hg
        rw [z1] at w1
        cases w1
        exact w2
      · have := zan_le hA.1 hy
        refine hcp y (by omega) ?_
        cases hq : zgB A (L.take n) y with
        | false => rfl
        | true => have := zgB_d hA.1 hy hq; rw [hgx] at this; cases this
    | true =>
      obtain ⟨f, rfl⟩ : ∃ f', f = f' + 1 := ⟨f - 1, by omega⟩
      have e224 : zf224 179 0 (nI x) s = some (nI (zend A x), s) := zm224 (i := 0) (by decide) h.1 hA hxl
      obtain ⟨w1, w2, _, _⟩ := zend_p hxl
      have he : zend A x = p := (zend_i hA.1 hxl hp hx).mpr (fun v hv => by
        refine Nat.lt_of_not_le (fun q => ?_)
        rw [hv] at hg
        have := zgB_d hA.1 (zan_cm hA.1 (zab_d hA.1 hv).2 hx q) hgx
        rw [show zgO A (L.take n) (some v) = zgB A (L.take n) v from rfl, this] at hg
        cases hg)
      have e197 : s 197 x = zoi (zab A x) := by
        have := (h.1.2.2.2.2.2 x hxl).2.1
        rw [show 100 * 0 + x = x by omega] at this
        exact this
      rw [zf222_76, if_neg (zn_nn (by omega)), e224, zbi_e, if_neg (fun q => q (by rw [he])), show zrf 179 48 = 217 from rfl, zal_n (by show x < 40; omega), (h.2.2.2.2 x hxl).1, hgx, if_pos rfl, if_pos (show ¬ (1 : Int32) = 0 by decide), show zrf 179 24 = 197 from rfl, zal_n (by show x < 400; omega), e197]
      cases hy : zab A x with
      | none =>
        obtain ⟨f, rfl⟩ : ∃ f', f = f' + 1 := ⟨f - 1, by omega⟩
        have ho : o = none := by
          cases ho : o with
          | none => rfl
          | some z =>
            obtain ⟨_, z3, z4⟩ := o1 z ho
            exfalso
            rcases Nat.lt_trichotomy x z with q | q | q
            · have := hab z z3 q; rw [z4] at this; cases this
            · rw [← q, hgx] at z4; cases z4
            · rcases zan_c (zan_cm hA.1 hx z3 (by omega)) with w | ⟨u, u1, _⟩
              · omega
              · rw [hy] at u1; cases u1
        subst ho
        refine ⟨s, ?_, ?_, zFm_r⟩
        · rw [zf222_76, if_pos (show zoi none < 0 by decide)]
        · rw [zerw]
          split <;> exact hP
      | some y =>
        have hyx := (zab_d hA.1 hy).1
        exact ih y hyx f (zan_t (zan_s hy zan_r) hx) (fun z hz hyz => by
          rcases Nat.lt_trichotomy x z with q | q | q
          · exact hab z hz q
          · rw [← q]; exact hgx
          · exfalso
            rcases zan_c (zan_cm hA.1 hx hz (by omega)) with w | ⟨u, u1, u2⟩
            · omega
            · rw [hy] at u1
              cases u1
              have := zan_le hA.1 u2
              omega) (by omega)
/-- where the upper node is gone nothing ends -/
theorem zm222_s {A B : List zN} {L : List zSp} {n p q : Nat} {k62 : Int32 → Int32 → zS → Option (Int32 × zS)} (hA : zSm A) (hp : 0 < p) (hpl : p < A.length) (hq : zab A p = some q) (hg : zgB A (L.take n) q = true) {s : zS} (h : zAm s A B L n) : ∀ x f, zan A x (p - 1) → x + 1 < f → zf222_76 179 k62 f (nI n) (nI p) (nI x) s = zf222_116 179 k62 (nI n) (nI p) s := by
  have hA4 := hA.2.1
  intro x
  induction x using Nat.strongRecOn with
  | ind x ih =>
    intro f hx hf
    obtain ⟨f, rfl⟩ : ∃ f', f = f' + 1 := ⟨f - 1, by omega⟩
    have hxp := zan_le hA.1 hx
    have hxl : x < A.length := by omega
    have e224 : zf224 179 0 (nI x) s = some (nI (zend A x), s) := zm224 (i := 0) (by decide) h.1 hA hxl
    obtain ⟨w1, w2, _, _⟩ := zend_p hxl
    rw [zf222_76, if_neg (zn_nn (by omega)), e224, zbi_e]
    by_cases he : zend A x = p
    · have hqx := (zend_i hA.1 hxl hp hx).mp he q hq
      have hgx : zgB A (L.take n) x = true := zgB_d hA.1 (zan_cm hA.1 hx (zab_d hA.1 hq).2 (by omega)) hg
      have e197 : s 197 x = zoi (zab A x) := by
        have := (h.1.2.2.2.2.2 x hxl).2.1
        rw [show 100 * 0 + x = x by omega] at this
        exact this
      rw [if_neg (fun w => w (by rw [he])), show zrf 179 48 = 217 from rfl, zal_n (by show x < 40; omega), (h.2.2.2.2 x hxl).1, hgx, if_pos rfl, if_pos (show ¬ (1 : Int32) = 0 by decide), show zrf 179 24 = 197 from rfl, zal_n (by show x < 400; omega), e197]
      cases hy : zab A x with
      | none =>
        obtain ⟨f, rfl⟩ : ∃ f', f = f' + 1 := ⟨f - 1, by omega⟩
        rw [zf222_76, if_pos (show zoi none < 0 by decide)]
      | some y =>
        have hyx := (zab_d hA.1 hy).1
        exact ih y hyx f (zan_t (zan_s hy zan_r) hx) (by omega)
    · rw [if_pos (fun w => he ((zn_eq (by omega) (by omega)).mp w))]
def zF9 (s s' : zS) : Prop := (∀ p, p < 195 ∨ 202 < p → p ≠ 219 → s' p = s p) ∧ ∀ j D, j ≠ 2 → zPm j s D → zPm j s' D
theorem zF9_t {s s1 s2 : zS} (h1 : zF9 s s1) (h2 : zF9 s1 s2) : zF9 s s2 := ⟨fun p a b => (h2.1 p a b).trans (h1.1 p a b), fun j D a b => h2.2 j D a (h1.2 j D a b)⟩
theorem zF9_m {s s' : zS} (h : zFm 2 s s') : zF9 s s' := ⟨fun p a _ => h.1 p a, fun j D a b => zPm_f b a h⟩
theorem zF9_w {s : zS} {k : Nat} {x : Int32} : zF9 s (zw s 219 k x) := ⟨fun p _ b => zw_ne b, fun j D _ b => zPm_e b (fun q u w => zw_ne (by omega))⟩
theorem zm222_62 {A B : List zN} {L : List zSp} {n : Nat} (hA : zSm A) (hB : zSm B) (hA0 : 0 < A.length) (hS : ∀ x ∈ L, zSv A B x) : ∀ m f p (Y : zYY) (s : zS), p + m = A.length → m + 2 < f → zAm s A B L n → zPm 2 s Y.1 → zOp A (L.take n) p Y.2.2 → (∀ x, x < p → zgB A (L.take n) x = false → s 219 x = nI (Y.2.1 x)) → (zfin2 A B (L.take n) (zrun2 A B (L.take n) m p Y)).length ≤ 80 → (zlt (zfin2 A B (L.take n) (zrun2 A B (L.take n) m p Y))).length ≤ 600 →
    ∃ s', zf222_62 179 f (nI n) (nI p) s = some (nI (zfin2 A B (L.take n) (zrun2 A B (L.take n) m p Y)).length, s') ∧ zPm 2 s' (zfin2 A B (L.take n) (zrun2 A B (L.take n) m p Y)) ∧ zF9 s s' := by
  have hA4 := hA.2.1
  have hSP : ∀ x ∈ L.take n, zSv A B x := fun x hx => hS x (List.mem_of_mem_take hx)
  intro m
  induction m with
  | zero =>
    intro f p Y s hp hf h hP hO hC hc hl
    obtain ⟨f, rfl⟩ : ∃ f', f = f' + 2 := ⟨f - 2, by omega⟩
    have hpl : p = A.length := by omega
    have hab : zab A p = none := by
      cases hq : zab A p with
      | none => rfl
      | some v => have := zab_lt hq; omega
    have q0 : ∀ {t : zS} (c : Int32 → Option (Int32 × zS)), zal t 195 0 c = c (t 195 0) := fun c => zal_n (j := 0) (by decide)
    have q2 : ∀ {t : zS} (c : Int32 → Option (Int32 × zS)), zal t 195 2 c = c (t 195 2) := fun c => zal_n (j := 2) (by decide)
    obtain ⟨s', d1, d2, d3⟩ := zm222_g (o := Y.2.2) (CP := Y.2.1) (k62 := zf222_62 179 (f + 1)) hA hB hS (show 0 < p by omega) (by omega) hO (by rw [hab]; rfl) h hP hC (by rw [hab]; exact hc) (by rw [hab]; exact hl) (p - 1) zfz zan_r (fun y hy q => by have := zan_le hA.1 hy; omega) (by rw [zfz_e]; omega)
    rw [hab] at d2
    refine ⟨s', ?_, d2, zF9_m d3⟩
    have h1 := zAm_f h d3
    rw [show f + 2 = (f + 1) + 1 by omega, zf222_62, show zrf 179 22 = 195 from rfl, q0, h.1.1, if_neg (fun q => by have := (zn_lt (by omega) (by omega)).mp q; omega), zdn_m, show zdn p = nI (p - 1) by rw [show p = (p - 1) + 1 by omega]; rfl, d1]
    unfold zf222_116
    rw [show zrf 179 22 = 195 from rfl, q0, h1.1.1, if_pos ((zn_le (by omega) (by omega)).mpr (by omega)), zn_a1, zf222_62, show zrf 179 22 = 195 from rfl, q0, h1.1.1, if_pos ((zn_lt (by omega) (by omega)).mpr (by omega)), q2, d2.1]
    rfl
  | succ m ih =>
    intro f p Y s hp hf h hP hO hC hc hl
    obtain ⟨f, rfl⟩ : ∃ f', f = f' + 1 := ⟨f - 1, by omega⟩
    have hpl : p < A.length := by omega
    have hO' := zOp_s (B := B) (Y := Y) hA.1 hpl hO
    have q0 : ∀ {t : zS} (c : Int32 → Option (Int32 × zS)), zal t 195 0 c = c (t 195 0) := fun c => zal_n (j := 0) (by decide)
    rw [zrun2] at hc hl ⊢
    rw [zf222_62, show zrf 179 22 = 195 from rfl, q0, h.1.1, if_neg (fun q => by have := (zn_lt (by omega) (by omega)).mp q; omega), zdn_m]
    cases hg : zgO A (L.take n) (zab A p) with
    | true =>
      have hst : zst2 A B (L.take n) p Y = Y := by
        unfold zst2
        exact if_pos hg
      rw [hst] at hc hl hO' ⊢
      cases hq : zab A p with
      | none => rw [hq] at hg; cases hg
      | some q =>
        have hqp := (zab_d hA.1 hq).1
        rw [hq] at hg
        have hgq : zgB A (L.take n) q = true := hg
        have hgp : zgB A (L.take n) p = true := zgB_d hA.1 (zan_s hq zan_r) hgq
        have e197 : s 197 p = nI q := by
          have := (h.1.2.2.2.2.2 p hpl).2.1
          rw [show 100 * 0 + p = p by omega] at this
          rw [this, show (zno A p).2.1 = some q from hq]
          rfl
        obtain ⟨s', d1, d2, d3⟩ := ih f (p + 1) Y s (by omega) (by omega) h hP hO' (fun x hx hgx => by
          have : x ≠ p := fun w => by rw [w, hgp] at hgx; cases hgx
          exact hC x (by omega) hgx) hc hl
        refine ⟨s', ?_, d2, d3⟩
        rw [show zdn p = nI (p - 1) by rw [show p = (p - 1) + 1 by omega]; rfl, zm222_s (B := B) hA (show 0 < p by omega) hpl hq hgq h (p - 1) zfz zan_r (by rw [zfz_e]; omega)]
        unfold zf222_116
        rw [show zrf 179 22 = 195 from rfl, q0, h.1.1, if_neg (fun w => by have := (zn_le (by omega) (by omega)).mp w; omega), if_neg (fun w => by have := (zn_le (a := p) (b := 0) (by omega) (by decide)).mp w; omega), show zrf 179 24 = 197 from rfl, show zrf 179 48 = 217 from rfl, zal_n (by show p < 400; omega), e197, zal_n (by show q < 40; omega), (h.2.2.2.2 q (by omega)).1, hgq, if_pos rfl, if_pos (show ¬ (1 : Int32) = 0 by decide)]
        unfold zf222_156
        rw [show zrf 179 48 = 217 from rfl, zal_n (by show p < 40; omega), (h.2.2.2.2 p hpl).1, hgp, if_pos rfl, if_pos (show ¬ (1 : Int32) = 0 by decide), zn_a1]
        exact d1
    | false =>
      obtain ⟨D1, hD1⟩ : ∃ D1, D1 = zerw A B (L.take n) Y.2.1 (zab A p) 41 Y.2.2 Y.1 := ⟨_, rfl⟩
      obtain ⟨D2, hD2⟩ : ∃ D2, D2 = zpiO B (L.take n) Y.2.1 (zab A p) p D1 := ⟨_, rfl⟩
      have hst : zst2 A B (L.take n) p Y = if zgB A (L.take n) p = true then (D2, Y.2.1, zab A p) else (D2 ++ [zcpo A B (L.take n) Y.2.1 p], (fun x => if x = p then D2.length else Y.2.1 x), some p) := by
        rw [hD2, hD1]
        unfold zst2
        rw [hg, if_neg (by decide)]
      obtain ⟨X1, hX1⟩ : ∃ X, (zst2 A B (L.take n) p Y).1 = D2 ++ X := by
        rw [hst]
        split
        · exact ⟨[], (List.append_nil _).symm⟩
        · exact ⟨_, rfl⟩
      obtain ⟨X2, hX2⟩ := zrun2_x (A := A) (B := B) (P := L.take n) m (p + 1) (zst2 A B (L.take n) p Y)
      obtain ⟨X3, hX3⟩ := zerw_x (A := A) (B := B) (P := L.take n) (CP := (zrun2 A B (L.take n) m (p + 1) (zst2 A B (L.take n) p Y)).2.1) (u := none) 41 (zrun2 A B (L.take n) m (p + 1) (zst2 A B (L.take n) p Y)).2.2 (zrun2 A B (L.take n) m (p + 1) (zst2 A B (L.take n) p Y)).1
      have hfin : zfin2 A B (L.take n) (zrun2 A B (L.take n) m (p + 1) (zst2 A B (L.take n) p Y)) = (zst2 A B (L.take n) p Y).1 ++ (X2 ++ X3) := by
        unfold zfin2
        rw [hX3, hX2, List.append_assoc]
      have c80 : (zst2 A B (L.take n) p Y).1.length ≤ 80 := by rw [hfin, List.length_append] at hc; omega
      have c600 : (zlt (zst2 A B (L.take n) p Y).1).length ≤ 600 := by rw [hfin, zlt_ap, List.length_append] at hl; omega
      have d80 : D2.length ≤ 80 := by rw [hX1, List.length_append] at c80; omega
      have d600 : (zlt D2).length ≤ 600 := by rw [hX1, zlt_ap, List.length_append] at c600; omega
      obtain ⟨X4, hX4⟩ : ∃ X, D2 = D1 ++ X := by rw [hD2]; exact zpiO_x
      have e80 : D1.length ≤ 80 := by rw [hX4, List.length_append] at d80; omega
      have e600 : (zlt D1).length ≤ 600 := by rw [hX4, zlt_ap, List.length_append] at d600; omega
      -- the ends
      obtain ⟨s1, a1, a2, a3⟩ : ∃ s1, zf222_76 179 (zf222_62 179 f) zfz (nI n) (nI p) (zdn p) s = zf222_116 179 (zf222_62 179 f) (nI n) (nI p) s1 ∧ zPm 2 s1 D1 ∧ zFm 2 s s1 := by
        by_cases g : p = 0
        · subst g
          obtain ⟨M, hM⟩ : ∃ M, zfz = M + 1 := ⟨9999, zfz_e⟩
          have ho : Y.2.2 = none := by
            rcases hO with ⟨_, q⟩ | ⟨q, _⟩
            · exact q
            · omega
          refine ⟨s, ?_, ?_, zFm_r⟩
          · rw [hM, zf222_76, if_pos zdn_0]
          · rw [hD1, ho, zerw]
            split <;> exact hP
        · obtain ⟨s1, d1, d2, d3⟩ := zm222_g (o := Y.2.2) (CP := Y.2.1) (k62 := zf222_62 179 f) hA hB hS (show 0 < p by omega) (by omega) hO hg h hP hC (by rw [← hD1]; exact e80) (by rw [← hD1]; exact e600) (p - 1) zfz zan_r (fun y hy q => by have := zan_le hA.1 hy; omega) (by rw [zfz_e]; omega)
          rw [← hD1] at d2
          refine ⟨s1, ?_, d2, d3⟩
          rw [show zdn p = nI (p - 1) by rw [show p = (p - 1) + 1 by omega]; rfl]
          exact d1
      have h1 := zAm_f h a3
      -- put in
      obtain ⟨s2, b1, b2, b3⟩ : ∃ s2, zf222_116 179 (zf222_62 179 f) (nI n) (nI p) s1 = zf222_156 179 (zf222_62 179 f) (nI n) (nI p) s2 ∧ zPm 2 s2 D2 ∧ zFm 2 s1 s2 := by
        unfold zf222_116
        rw [show zrf 179 22 = 195 from rfl, q0, h1.1.1, if_neg (fun w => by have := (zn_le (by omega) (by omega)).mp w; omega)]
        cases hq : zab A p with
        | none =>
          have hp0 : p = 0 := by
            rcases (hA.1 p hpl).2.1 with ⟨w, _⟩ | ⟨c, _, w, _⟩
            · exact w
            · rw [hq] at w; cases w
          rw [if_pos (show nI p ≤ 0 by rw [hp0]; decide)]
          refine ⟨s1, rfl, ?_, zFm_r⟩
          rw [hD2, hq]
          exact a2
        | some q =>
          have hqp := (zab_d hA.1 hq).1
          rw [hq] at hg hD2
          have hgq : zgB A (L.take n) q = false := hg
          have hD2' : D2 = zpin B (L.take n) Y.2.1 q (some p) D1 := hD2
          have e197 : s1 197 p = nI q := by
            have := (h1.1.2.2.2.2.2 p hpl).2.1
            rw [show 100 * 0 + p = p by omega] at this
            rw [this, show (zno A p).2.1 = some q from hq]
            rfl
          obtain ⟨s2, w1, w2, w3⟩ := zm225 (row := q) (pl := some p) (CP := Y.2.1) hA hB hS (by omega) (fun i w => by cases w; omega) h1 a2 (by rw [a3.1 219 (by omega)]; exact hC q hqp hgq) (by rw [← hD2']; exact d80) (by rw [← hD2']; exact d600)
          rw [← hD2'] at w2
          have w1' : zf225 179 (nI q) (nI p) (nI n) s1 = some s2 := w1
          refine ⟨s2, ?_, w2, w3⟩
          rw [if_neg (fun w => by have := (zn_le (a := p) (b := 0) (by omega) (by decide)).mp w; omega), show zrf 179 24 = 197 from rfl, show zrf 179 48 = 217 from rfl, zal_n (by show p < 400; omega), e197, zal_n (by show q < 40; omega), (h1.2.2.2.2 q (by omega)).1, hgq, if_neg (show ¬ false = true by decide), if_neg (show ¬ ¬ (0 : Int32) = 0 from fun w => w rfl), zal_n (by show p < 400; omega), e197, w1', zbv_e]
      have h2 := zAm_f h1 b3
      have F2 : zFm 2 s s2 := zFm_t a3 b3
      rw [a1, b1]
      unfold zf222_156
      rw [show zrf 179 48 = 217 from rfl, zal_n (by show p < 40; omega), (h2.2.2.2.2 p hpl).1]
      cases hgp : zgB A (L.take n) p with
      | true =>
        rw [hgp, if_pos rfl] at hst
        rw [hst] at hc hl hO' ⊢
        obtain ⟨s', d1, d2, d3⟩ := ih f (p + 1) (D2, Y.2.1, zab A p) s2 (by omega) (by omega) h2 b2 hO' (fun x hx hgx => by
          rw [F2.1 219 (by omega)]
          have : x ≠ p := fun w => by rw [w, hgp] at hgx; cases hgx
          exact hC x (by omega) hgx) hc hl
        rw [if_pos rfl, if_pos (show ¬ (1 : Int32) = 0 by decide), zn_a1]
        exact ⟨s', d1, d2, zF9_t (zF9_m F2) d3⟩
      | false =>
        rw [hgp, if_neg (by decide)] at hst
        rw [hst] at hc hl hO' c80 c600 ⊢
        obtain ⟨s3, e1, e2, e3⟩ := zm226 (CP := Y.2.1) hA hB hSP hpl h2 b2 (fun q hq => by
          rw [F2.1 219 (by omega)]
          have hqp := (zab_d hA.1 hq).1
          rw [hq] at hg
          exact hC q hqp hg) hgp c80 c600
        have h3 := zAm_f (zAm_w (k := p) (x := nI D2.length) h2) e3
        obtain ⟨s', d1, d2, d3⟩ := ih f (p + 1) (D2 ++ [zcpo A B (L.take n) Y.2.1 p], (fun x => if x = p then D2.length else Y.2.1 x), some p) s3 (by omega) (by omega) h3 e2 hO' (fun x hx hgx => by
          rw [e3.1 219 (by omega)]
          dsimp only
          by_cases w : x = p
          · rw [w, zw_s, if_pos rfl]
          · rw [zw_o (Or.inr w), if_neg w, F2.1 219 (by omega)]
            exact hC x (by omega) hgx) hc hl
        rw [if_neg (show ¬ false = true by decide), if_neg (show ¬ ¬ (0 : Int32) = 0 from fun w => w rfl), e1, zbv_e, zn_a1]
        exact ⟨s', d1, d2, zF9_t (zF9_t (zF9_m F2) (zF9_t zF9_w (zF9_m e3))) d3⟩
/-- apply of the model -/
theorem zm222 {s : zS} {A B : List zN} {L : List zSp} {n : Nat} (hA : zSm A) (hB : zSm B) (hA0 : 0 < A.length) (hS : ∀ x ∈ L, zSv A B x) (hU : ∀ a, (L.filter (fun x => x.1 == some a)).length ≤ 1) (hPA : zPm 0 s A) (hPB : zPm 1 s B) (hL : zScM s L) (h31 : s 179 31 = 1) (hn : n ≤ L.length) (hc : (zap A B (L.take n)).length ≤ 80) (hl : (zlt (zap A B (L.take n))).length ≤ 600) :
    ∃ s', zf222 179 (nI n) s = some (nI (zap A B (L.take n)).length, s') ∧ zPm 2 s' (zap A B (L.take n)) ∧ s' 179 0 = 0 ∧ (∀ p, p ≠ 179 → p < 195 ∨ 202 < p → p ≠ 217 → p ≠ 218 → p ≠ 219 → s' p = s p) ∧ (∀ f, f ≠ 0 → s' 179 f = s 179 f) ∧ ∀ j D, j ≠ 2 → zPm j s D → zPm j s' D := by
  have h80 := hL.2.1
  obtain ⟨s1, hs1⟩ : ∃ s1, s1 = zw s 179 0 0 := ⟨_, rfl⟩
  have f1 : ∀ p, p ≠ 179 → s1 p = s p := fun p hp => by rw [hs1, zw_ne hp]
  obtain ⟨s2, a1, a2, a3⟩ := zm223 (s := s1) hA hB hS hU hn (zPm_e hPA (fun p u w => f1 p (by omega))) (zPm_e hPB (fun p u w => f1 p (by omega))) (zScM_f hL (fun p u w => f1 p (by omega)) (by rw [hs1, zw_o (Or.inr (by decide))]))
  obtain ⟨s3, hs3⟩ : ∃ s3, s3 = zw (zw s2 195 2 0) 201 2 0 := ⟨_, rfl⟩
  have f3 : ∀ p, p ≠ 195 → p ≠ 201 → s3 p = s2 p := fun p u w => by rw [hs3, zw_ne w, zw_ne u]
  have m3 : zFm 2 s2 s3 := by
    refine ⟨fun p hp => f3 p (by omega) (by omega), fun j hj => ⟨?_, ?_⟩, fun j _ => ⟨?_, ?_, ?_, ?_⟩, fun j _ => ?_, fun j _ => ?_⟩
    · rw [hs3, zw_ne (by decide), zw_o (Or.inr hj)]
    · rw [hs3, zw_o (Or.inr hj), zw_ne (by decide)]
    all_goals rw [f3 _ (by decide) (by decide)]
  have P3 : zPm 2 s3 [] := by
    refine ⟨?_, by decide, ?_, by decide, fun k hk => absurd hk (Nat.not_lt_zero _), fun j hj => absurd hj (Nat.not_lt_zero _)⟩
    · rw [hs3, zw_ne (by decide), zw_s]; rfl
    · rw [hs3, zw_s]; rfl
  obtain ⟨s', d1, d2, d3⟩ := zm222_62 (n := n) hA hB hA0 hS A.length zfz 0 ([], fun _ => 0, none) s3 (Nat.zero_add _) (by have := hA.2.1; rw [zfz_e]; omega) (zAm_f a2 m3) P3 (Or.inl ⟨rfl, rfl⟩) (fun x hx => absurd hx (Nat.not_lt_zero _)) hc hl
  refine ⟨s', ?_, d2, ?_, fun p u w x y z => ?_, fun f hf => ?_, fun j D hj hD => ?_⟩
  · have q1 : ∀ {t : zS} (c : zS → Option (Int32 × zS)), zas t 195 2 0 c = c (zw t 195 2 0) := fun c => zas_n (j := 2) (by decide)
    have q2 : ∀ {t : zS} (c : zS → Option (Int32 × zS)), zas t 201 2 0 c = c (zw t 201 2 0) := fun c => zas_n (j := 2) (by decide)
    have d1' : zf222_62 179 zfz (nI n) 0 s3 = some (nI (zap A B (L.take n)).length, s') := d1
    unfold zf222
    rw [zgf_e, h31, if_pos (show ¬ (1 : Int32) = 0 by decide), if_neg (zn_nn (by omega)), zgf_e, hL.1, if_pos ((zn_le (by omega) (by omega)).mpr hn)]
    unfold zf222_29
    rw [zpf_e, zgf_e, zw_s, if_pos (show (0 : Int32) ≤ 0 by decide), ← hs1, a1, zbv_e, show zrf 179 22 = 195 from rfl, show zrf 179 28 = 201 from rfl, q1, q2, ← hs3]
    exact d1'
  · rw [d3.1 179 (by omega) (by decide), f3 179 (by decide) (by decide), a3 179 (by decide) (by decide), hs1, zw_s]
  · rw [d3.1 p w z, f3 p (by omega) (by omega), a3 p x y, f1 p u]
  · rw [d3.1 179 (by omega) (by decide), f3 179 (by decide) (by decide), a3 179 (by decide) (by decide), hs1, zw_o (Or.inr hf)]
  · exact d3.2 j D hj (zPm_f (zPm_e hD (fun p u w => by rw [a3 p (by omega) (by omega), f1 p (by omega)])) hj m3)

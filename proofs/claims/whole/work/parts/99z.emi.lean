/-! emit. -/
set_option maxRecDepth 100000
set_option linter.unusedVariables false
theorem zLt_ap {A B : List Int32} (h1 : zLt A) (h2 : zLt B) : zLt (A ++ B) := by
  intro c hc
  rcases List.mem_append.mp hc with q | q
  · exact h1 c q
  · exact h2 c q
theorem zLt_0 : zLt [] := fun c hc => absurd hc List.not_mem_nil
theorem zLt_1 {v : Nat} (h1 : 32 ≤ v) (h2 : v ≤ 126) : zLt [nI v] := by
  intro c hc
  rw [List.mem_singleton.mp hc]
  exact ⟨v, h1, h2, rfl⟩
theorem zLt_l : ∀ {L : List Nat}, L.all (fun v => decide (32 ≤ v) && decide (v ≤ 126)) = true → zLt (L.map nI) := by
  intro L h c hc
  obtain ⟨v, hv, rfl⟩ := List.mem_map.mp hc
  have := List.all_eq_true.mp h v hv
  simp only [Bool.and_eq_true, decide_eq_true_eq] at this
  exact ⟨v, this.1, this.2, rfl⟩
theorem zLt_k {k : Nat} (h : k < 5) : zLt [zkl k] := by
  have h : k = 0 ∨ k = 1 ∨ k = 2 ∨ k = 3 ∨ k = 4 := by omega
  rcases h with rfl | rfl | rfl | rfl | rfl
  · exact zLt_1 (v := 100) (by decide) (by decide)
  · exact zLt_1 (v := 112) (by decide) (by decide)
  · exact zLt_1 (v := 120) (by decide) (by decide)
  · exact zLt_1 (v := 108) (by decide) (by decide)
  · exact zLt_1 (v := 105) (by decide) (by decide)
theorem zsty_t {k l : Nat} (hk : k < 26) (hl : l < 2000) : zLt (zsty k l) := by
  unfold zsty
  refine zLt_ap (zLt_ap (zLt_ap (zLt_ap (zLt_ap (zLt_ap (zLt_ap (zLt_ap (zLt_ap ?_ ?_) ?_) ?_) ?_) ?_) ?_) ?_) ?_) ?_
  · exact zLt_l (L := [60, 115, 32, 110, 61, 34]) (by decide)
  · exact zLt_1 (by omega) (by omega)
  · exact zLt_l (L := [34, 32, 98, 61, 34]) (by decide)
  · exact zLt_1 (by omega) (by omega)
  · exact zLt_l (L := [34, 32, 122, 61, 34]) (by decide)
  · split
    · exact zLt_0
    · exact zLt_1 (by omega) (by omega)
  · exact zLt_1 (by omega) (by omega)
  · exact zLt_l (L := [34, 32, 107, 61, 34]) (by decide)
  · exact zLt_1 (by omega) (by omega)
  · exact zLt_l (L := [34, 47, 62]) (by decide)
theorem zsht_t {X : List Nat} (h26 : X.length ≤ 26) (hX : ∀ x ∈ X, x < 2000) : zLt (zsht X) := by
  have st : ∀ k, k ≤ X.length → zLt (zsts X k) := by
    intro k
    induction k with
    | zero => intro _; exact zLt_0
    | succ k ih =>
      intro hk
      rw [zsts]
      exact zLt_ap (ih (by omega)) (zsty_t (by omega) (hX _ (zgetN_m (by omega))))
  unfold zsht
  split
  · exact zLt_l (L := [60, 116, 47, 62]) (by decide)
  · refine zLt_ap (zLt_ap (zLt_l (L := [60, 116, 62]) (by decide)) ?_) (zLt_l (L := [60, 47, 116, 62]) (by decide))
    exact st _ (Nat.le_refl _)
theorem zed_t {D : List zN} {x : Nat} (h : (zno D x).1 < 5) : zLt (zed D x) := zLt_ap (zLt_ap (zLt_l (L := [60, 47]) (by decide)) (zLt_k h)) (zLt_1 (v := 62) (by decide) (by decide))
theorem ze_et {D : List zN} (hW : zWf D) {t : Option Nat} : ∀ n o, (∀ x, o = some x → x < D.length) → zLt (ze_e D n o t) := by
  intro n
  induction n with
  | zero => intro o _; rw [ze_e]; exact zLt_0
  | succ n ih =>
    intro o ho
    cases o with
    | none => rw [ze_e]; exact zLt_0
    | some x =>
      rw [ze_e]
      split
      · exact zLt_0
      · exact zLt_ap (zed_t (hW x (ho x rfl)).1) (ih _ (fun y hy => by have := zab_b hW hy; omega))
theorem ze_bt {D : List zN} {X : List Nat} {n : Nat} (hW : zWf D) (hn : n < D.length) (h26 : X.length ≤ 26) : zLt (ze_b D X n) := by
  unfold ze_b
  refine zLt_ap (zLt_ap (zLt_ap (zLt_ap (zLt_1 (v := 60) (by decide) (by decide)) (zLt_k (hW n hn).1)) ?_) ?_) (zLt_1 (v := 62) (by decide) (by decide))
  · unfold ze_y
    split
    · refine zLt_ap (zLt_ap (zLt_l (L := [32, 121, 61, 34]) (by decide)) (zLt_1 (by omega) ?_)) (zLt_1 (v := 34) (by decide) (by decide))
      cases hf : zfi (zlkn D n) X 0 with
      | none => show 65 + 0 ≤ 126; decide
      | some j =>
        have := (zfi_l _ _ _ hf).2
        show 65 + j ≤ 126
        omega
    · exact zLt_0
  · unfold ze_c
    split
    · exact zLt_0
    · exact zLt_1 (v := 47) (by decide) (by decide)
theorem zbdy_t {D : List zN} {X : List Nat} (hW : zWf D) (h26 : X.length ≤ 26) : zLt (zbdy D X) := by
  have all : ∀ m, m ≤ D.length → zLt (ze_t D X m) := by
    intro m
    induction m with
    | zero => intro _; exact zLt_0
    | succ m ih =>
      intro hm
      have hml : m < D.length := by omega
      rw [ze_t]
      refine zLt_ap (zLt_ap (ih (by omega)) (ze_et hW 100 _ (fun x hx => (ze_ob hW m (by omega) x hx).1))) ?_
      unfold ze_n
      split
      · unfold ze_r
        refine zLt_ap (zLt_ap ?_ (hW m hml).2.2.2.1) ?_
        · split
          · exact ze_bt hW hml h26
          · exact zLt_0
        · split
          · exact zed_t (hW m hml).1
          · exact zLt_0
      · exact ze_bt hW hml h26
  exact zLt_ap (all _ (Nat.le_refl _)) (ze_et hW 100 _ (fun x hx => (ze_ob hW _ (Nat.le_refl _) x hx).1))
theorem zpkd_t {C : List Int32} {w : Bool} (h : zLt C) : zLt (zpkd C w) := by
  have all : ∀ m a X, zLt X → zLt (zpa C w m a X) := by
    intro m
    induction m with
    | zero => intro a X hX; exact hX
    | succ m ih =>
      intro a X hX
      rw [zpa]
      by_cases g : C.length ≤ a
      · rw [if_pos g]; exact hX
      · rw [if_neg g]
        by_cases g2 : w = true ∧ (zbest C a).1 ≠ 0
        · rw [if_pos g2]
          obtain ⟨b1, b2⟩ := zbest_p (C := C) (a := a) (by omega)
          obtain ⟨c1, c2, c3, c4⟩ := b2 g2.2
          refine ih _ _ (zLt_ap hX ?_)
          unfold zref
          intro c hc
          rcases List.mem_cons.mp hc with q | hc
          · exact ⟨126, by decide, by decide, q⟩
          · rcases List.mem_cons.mp hc with q | hc
            · exact ⟨_, by omega, by omega, q⟩
            · rcases List.mem_cons.mp hc with q | hc
              · exact ⟨_, by omega, by omega, q⟩
              · exact ⟨_, by omega, by omega, List.mem_singleton.mp hc⟩
        · rw [if_neg g2]
          refine ih _ _ (zLt_ap hX (fun c hc => ?_))
          rw [List.mem_singleton.mp hc]
          exact h _ (zgetD_mem (by omega))
  exact all _ _ _ zLt_0
theorem zhd4_t {v : Nat} : zLt (zhd4 v) := by
  have d : ∀ x, x < 16 → 32 ≤ (if x < 10 then 48 + x else 87 + x) ∧ (if x < 10 then 48 + x else 87 + x) ≤ 126 := by decide
  unfold zhd4
  intro c hc
  rcases List.mem_cons.mp hc with q | hc
  · exact ⟨_, (d _ (Nat.mod_lt _ (by decide))).1, (d _ (Nat.mod_lt _ (by decide))).2, q⟩
  · rcases List.mem_cons.mp hc with q | hc
    · exact ⟨_, (d _ (Nat.mod_lt _ (by decide))).1, (d _ (Nat.mod_lt _ (by decide))).2, q⟩
    · rcases List.mem_cons.mp hc with q | hc
      · exact ⟨_, (d _ (Nat.mod_lt _ (by decide))).1, (d _ (Nat.mod_lt _ (by decide))).2, q⟩
      · exact ⟨_, (d _ (Nat.mod_lt _ (by decide))).1, (d _ (Nat.mod_lt _ (by decide))).2, List.mem_singleton.mp hc⟩
theorem zprt_t {nm w : Nat} {C : List Int32} (h1 : 32 ≤ nm) (h2 : nm ≤ 126) (hw : w < 2) (hl : C.length ≤ 300) (h : zLt C) : zLt (zprt (nI nm) w C) := by
  have hp := zpkd_l (C := C) (w := decide (w = 1))
  unfold zprt
  refine zLt_ap (zLt_ap (fun c hc => ?_) (zpkd_t h)) zhd4_t
  rcases List.mem_cons.mp hc with q | hc
  · exact ⟨nm, h1, h2, q⟩
  · rcases List.mem_cons.mp hc with q | hc
    · exact ⟨_, by omega, by omega, q⟩
    · rcases List.mem_cons.mp hc with q | hc
      · exact ⟨_, by omega, by omega, q⟩
      · rcases List.mem_cons.mp hc with q | hc
        · exact ⟨_, by omega, by omega, q⟩
        · exact ⟨_, by omega, by omega, List.mem_singleton.mp hc⟩
/-- the package, and whether there is one -/
def zpkg (D : List zN) (w : Nat) : List Int32 := zprt 83 w (zsht (znl D D.length)) ++ zprt 67 w (zbdy D (znl D D.length))
def zpok (D : List zN) (w : Nat) : Prop := (znl D D.length).length ≤ 26 ∧ (zsht (znl D D.length)).length ≤ 300 ∧ (zbdy D (znl D D.length)).length ≤ 300 ∧ (zpkg D w).length ≤ 480
theorem zpkg_t {D : List zN} {w : Nat} (hW : zWf D) (hw : w < 2) (h : zpok D w) : zLt (zpkg D w) := zLt_ap (zprt_t (nm := 83) (by decide) (by decide) hw h.2.1 (zsht_t h.1 (znl_b hW _ (Nat.le_refl _)).1)) (zprt_t (nm := 67) (by decide) (by decide) hw h.2.2.1 (zbdy_t hW h.1))
/-- the class's compose -/
theorem z116 {q w : Nat} {s : zS} {D : List zN} (hQ : zQq q) (hq : q < 29) (hP : zPc q s D) (hW : zWf D) (hw : w < 2) : ∃ s', (zpok D w → zf116 169 q (nI w) s = some (1, s') ∧ zRow 170 s' (zpkg D w)) ∧ (¬ zpok D w → zf116 169 q (nI w) s = some (0, s')) ∧ ∀ p, p < 169 ∨ 178 < p → s' p = s p := by
  obtain ⟨u0, u1, u2, u3, u4, u5, u6, u7, u8, u9, u10, u11, u12⟩ := zQq_e hQ
  obtain ⟨X, hX⟩ : ∃ X, X = znl D D.length := ⟨_, rfl⟩
  obtain ⟨x1, x2, x3⟩ := znl_b hW D.length (Nat.le_refl _)
  obtain ⟨s1, a1, a2, a3⟩ := z117 hQ hq hP hW
  have f1 : ∀ p, p < 169 ∨ 178 < p → s1 p = s p := fun p hp => a3 p (by omega) (by omega)
  rw [← hX] at a1 a2 x1 x2 x3
  have zp : zpok D w = (X.length ≤ 26 ∧ (zsht X).length ≤ 300 ∧ (zbdy D X).length ≤ 300 ∧ (zpkg D w).length ≤ 480) := by unfold zpok; rw [← hX]
  by_cases g26 : X.length ≤ 26
  · obtain ⟨c1, N1⟩ := a1 g26
    obtain ⟨s2, b1, b2, b3⟩ := z120 N1
    have N2 := zNc_f N1 (b3 169 (by decide) (by decide)) (b3 178 (by decide) (by decide))
    have P2 : zPc q s2 D := zPc_f hQ hP (fun p a b => by rw [b3 p (by omega) (by show _ ≠ 173; omega), a3 p (by omega) (by omega)])
    obtain ⟨s3, d1, d2, d3⟩ := z134 hQ hq P2 hW N2 x3
    have R2 : zRo 172 s3 (zsht X) := zRo_f b2 (d3 172 (by decide) (by decide)) (d3 173 (by decide) (by decide))
    have f3 : ∀ p, p < 169 ∨ 178 < p → s3 p = s p := fun p hp => by rw [d3 p (by omega) (by show _ ≠ 175; omega), b3 p (by omega) (by show _ ≠ 173; omega), f1 p hp]
    have head : ∀ {R : Option (Int32 × zS)}, (if ¬ s3 172 2 = 0 then zrb 0 s3 else zgf s3 (zrf 169 2) 2 fun v8 => if v8 = 0 then
        zbv (zf15 (zrf 169 0) s3) fun s10 =>
        zbv (zf140 169 83 (zrf 169 1) (nI w) s10) fun s12 =>
        zbv (zf140 169 67 (zrf 169 2) (nI w) s12) fun s14 =>
        zgf s14 (zrf 169 0) 2 fun v15 =>
        if ¬ v15 = 0 then
          zrb 0 s14
        else
          zrb 1 s14
      else
        zrb 0 s3) = R → zf116 169 q (nI w) s = R := by
      intro R h
      unfold zf116
      rw [c1, zbi_e, if_pos (show ¬ (1 : Int32) = 0 by decide), b1, zbv_e, d1, zbv_e, show zrf 169 1 = 172 from rfl, zgf_e]
      exact h
    by_cases gS : (zsht X).length ≤ 300
    · obtain ⟨rS, oS⟩ := zRo_row R2 gS
      by_cases gB : (zbdy D X).length ≤ 300
      · obtain ⟨rB, oB⟩ := zRo_row d2 gB
        obtain ⟨s4, e1, e2, e3⟩ := zro15 (r := 170) (s := s3) (by decide)
        have rS4 := zRow_f rS (e3 172 (by decide)) (e3 (zrf 172 0) (by decide))
        obtain ⟨s5, g1, g2, g3⟩ := z140 (name := 83) (Or.inl rfl) hw gS (zsht_t g26 x1) rS4 e2
        have rB5 : zRow 174 s5 (zbdy D X) := zRow_f rB (by rw [g3 174 (by decide) (by decide) (by decide) (by decide), e3 174 (by decide)]) (by rw [show zrf 174 0 = 175 from rfl, g3 175 (by decide) (by decide) (by decide) (by decide), e3 175 (by decide)])
        obtain ⟨s6, h1, h2, h3⟩ := z140 (name := 67) (Or.inr rfl) hw gB (zbdy_t hW g26) rB5 g2
        have f6 : ∀ p, p < 169 ∨ 178 < p → s6 p = s p := fun p hp => by rw [h3 p (by omega) (by omega) (by omega) (by omega), g3 p (by omega) (by omega) (by omega) (by omega), e3 p (by omega), f3 p hp]
        have eT : zpkg D w = [] ++ zprt 83 w (zsht X) ++ zprt 67 w (zbdy D X) := by unfold zpkg; rw [← hX, List.nil_append]
        rw [← eT] at h2
        refine ⟨s6, fun ok => ?_, fun no => ?_, f6⟩
        · rw [zp] at ok
          obtain ⟨r, o⟩ := zRo_row h2 ok.2.2.2
          refine ⟨head ?_, r⟩
          rw [oS, if_neg (fun w => w rfl), show zrf 169 2 = 174 from rfl, zgf_e, oB, if_pos rfl, show zrf 169 0 = 170 from rfl, e1, zbv_e, show zrf 169 1 = 172 from rfl, g1, zbv_e, h1, zbv_e, zgf_e, o, if_neg (fun w => w rfl), zrb1]
        · have o := zRo_over h2 (fun l => no (by rw [zp]; exact ⟨g26, gS, gB, l⟩))
          refine head ?_
          rw [oS, if_neg (fun w => w rfl), show zrf 169 2 = 174 from rfl, zgf_e, oB, if_pos rfl, show zrf 169 0 = 170 from rfl, e1, zbv_e, show zrf 169 1 = 172 from rfl, g1, zbv_e, h1, zbv_e, zgf_e, o, if_pos (show ¬ (1 : Int32) = 0 by decide), zrb0]
      · have oB := zRo_over d2 gB
        refine ⟨s3, fun ok => by rw [zp] at ok; exact absurd ok.2.2.1 gB, fun _ => head ?_, f3⟩
        rw [oS, if_neg (fun w => w rfl), show zrf 169 2 = 174 from rfl, zgf_e, oB, if_neg (show ¬ (1 : Int32) = 0 by decide), zrb0]
    · have oS := zRo_over R2 gS
      refine ⟨s3, fun ok => by rw [zp] at ok; exact absurd ok.2.1 gS, fun _ => head ?_, f3⟩
      rw [oS, if_pos (show ¬ (1 : Int32) = 0 by decide), zrb0]
  · refine ⟨s1, fun ok => by rw [zp] at ok; exact absurd ok.1 g26, fun _ => ?_, f1⟩
    unfold zf116
    rw [a2 g26, zbi_e, if_neg (fun w => w rfl), zrb0]
/-- what the model's emit may change -/
def zFw (s s' : zS) : Prop := (∀ p, p ≠ 179 → p ≠ 180 → p < 220 → s' p = s p) ∧ ∀ f, f ≠ 0 → f ≠ 2 → f ≠ 56 → s' 179 f = s 179 f
theorem zm227 {i w : Nat} {s : zS} {D : List zN} (hi : i < 3) (hw : w < 2) (hP : zPm i s D) (hW : zWf D) (h80 : D.length ≤ 80) (h600 : (zlt D).length ≤ 600) (h0 : 0 < D.length) :
    (zpok D w → ∃ s', zf227_35 179 (nI i) (nI w) 0 s = some (nI (zpkg D w).length, s') ∧ zMtx s' (zpkg D w) ∧ s' 179 0 = 0 ∧ zFw s s') ∧ (¬ zpok D w → ∃ s', zf227_35 179 (nI i) (nI w) 0 s = some (0, s') ∧ s' 179 0 = 3 ∧ s' 179 2 = s 179 2 ∧ s' 180 = s 180 ∧ zFw s s') := by
  obtain ⟨X, hX⟩ : ∃ X, X = znl D D.length := ⟨_, rfl⟩
  obtain ⟨x1, x2, x3⟩ := znl_b hW D.length (Nat.le_refl _)
  have hX8 : X.length < 80 := by
    have := znl_80 hW (D.length - 1) (by omega)
    rw [show D.length - 1 + 1 = D.length by omega, ← hX] at this
    omega
  obtain ⟨s1, hs1⟩ : ∃ s1, s1 = zw s 179 0 0 := ⟨_, rfl⟩
  have f1 : ∀ p, p ≠ 179 → s1 p = s p := fun p a => by rw [hs1, zw_ne a]
  have t1 : s1 179 0 = 0 := by rw [hs1, zw_s]
  have k1 : ∀ f, f ≠ 0 → s1 179 f = s 179 f := fun f hf => by rw [hs1, zw_o (Or.inr hf)]
  obtain ⟨s2, a1, a2, a3, a4⟩ := zm228 (s := s1) hi (zPm_e hP (fun p a b => f1 p (by omega))) hW h80 h0
  rw [← hX] at a2 a3 x1 x2 x3
  have zp : zpok D w = (X.length ≤ 26 ∧ (zsht X).length ≤ 300 ∧ (zbdy D X).length ≤ 300 ∧ (zpkg D w).length ≤ 480) := by unfold zpok; rw [← hX]
  have P2 : zPm i s2 D := zPm_e hP (fun p a b => by rw [a4.1 p (by omega) (by omega) (by omega) (by omega), f1 p (by omega)])
  obtain ⟨s3, b1, b2, b3⟩ := zm234 hi hW h80 h600 P2 a2 hX8 x3
  have N3 := zNd_f a2 b3
  have S3 : zMde 0 s3 (zsht X) := ⟨by rw [b3.2.1 0 (by decide)]; exact a3.1, a3.2.1, fun j hj => by
    have := a3.2.1
    rw [b3.2.2 _ (Or.inl (by omega))]
    exact a3.2.2 j hj⟩
  have F3 : (∀ p, p ≠ 179 → p < 220 → s3 p = s p) ∧ s3 179 0 = 0 ∧ ∀ f, f ≠ 0 → f ≠ 56 → s3 179 f = s 179 f := by
    refine ⟨fun p h1 h2 => by rw [b3.1 p (by omega) (by omega), a4.1 p h1 (by omega) (by omega) (by omega), f1 p h1], by rw [b3.1 179 (by decide) (by decide), a4.2 0 (by decide), t1], fun f h1 h2 => by rw [b3.1 179 (by decide) (by decide), a4.2 f h2, k1 f h1]⟩
  have lS := S3.2.1
  have lB := b2.2.1
  have r0 : ∀ (s : zS) (c : Int32 → Option (Int32 × zS)), zal s 221 0 c = c (s 221 0) := fun s c => zal_n (j := 0) (by decide)
  have r1 : ∀ (s : zS) (c : Int32 → Option (Int32 × zS)), zal s 221 1 c = c (s 221 1) := fun s c => zal_n (j := 1) (by decide)
  have q0 : ∀ (s : zS) (c : Int32 → Option (Int32 × zS)), zal s 223 0 c = c (s 223 0) := fun s c => zal_n (j := 0) (by decide)
  have q1 : ∀ (s : zS) (c : Int32 → Option (Int32 × zS)), zal s 223 1 c = c (s 223 1) := fun s c => zal_n (j := 1) (by decide)
  -- a refusal
  have no : ∀ t : zS, (∀ p, p ≠ 179 → p < 220 → t p = s p) → (∀ f, f ≠ 0 → f ≠ 56 → t 179 f = s 179 f) → zf227_35 179 (nI i) (nI w) 0 s = some (0, zw t 179 0 3) → ¬ zpok D w → (zpok D w → ∃ s', zf227_35 179 (nI i) (nI w) 0 s = some (nI (zpkg D w).length, s') ∧ zMtx s' (zpkg D w) ∧ s' 179 0 = 0 ∧ zFw s s') ∧ (¬ zpok D w → ∃ s', zf227_35 179 (nI i) (nI w) 0 s = some (0, s') ∧ s' 179 0 = 3 ∧ s' 179 2 = s 179 2 ∧ s' 180 = s 180 ∧ zFw s s') := by
    intro t ht1 ht2 he hn
    refine ⟨fun ok => absurd ok hn, fun _ => ⟨_, he, zw_s, by rw [zw_o (Or.inr (by decide)), ht2 2 (by decide) (by decide)], by rw [zw_ne (by decide), ht1 180 (by decide) (by decide)], fun p u1 u2 u3 => by rw [zw_ne u1, ht1 p u1 u3], fun f u1 u2 u3 => by rw [zw_o (Or.inr u1), ht2 f u1 u3]⟩⟩
  have hd : ∀ {R : Option (Int32 × zS)}, (if 26 < nI X.length then zf227_90 179 s3 else if 300 < nI (zsht X).length then zf227_90 179 s3 else if nI (zbdy D X).length ≤ 300 then
          zbv (zf237 179 0 (nI w) s3) fun s11 =>
          zbv (zf237 179 1 (nI w) s11) fun s13 =>
          zal s13 (zrf 179 54) 0 fun v14 =>
          zal s13 (zrf 179 54) 1 fun v15 =>
          if ((18 + v14) + v15) ≤ 480 then
            zpf s13 179 2 0 fun s16 =>
            zbv (zf240 179 0 (nI w) s16) fun s18 =>
            zbv (zf240 179 1 (nI w) s18) fun s20 =>
            zgf s20 179 2 fun v21 =>
            some (v21, s20)
          else
            zbi (zf207 179 3 s13) fun v22 s23 =>
            some (v22, s23)
        else
          zf227_90 179 s3) = R → zf227_35 179 (nI i) (nI w) 0 s = R := by
    intro R h
    unfold zf227_35
    rw [zpf_e, ← hs1, zgf_e, t1, if_pos (show (0 : Int32) ≤ 0 by decide), a1, zbv_e, b1, zbv_e, zgf_e, N3.1, show zrf 179 52 = 221 from rfl, r0, S3.1, r1, b2.1]
    exact h
  have e90 : zf227_90 179 s3 = some (0, zw s3 179 0 3) := rfl
  by_cases g26 : X.length ≤ 26
  · by_cases gS : (zsht X).length ≤ 300
    · by_cases gB : (zbdy D X).length ≤ 300
      · obtain ⟨s4, c1, c2, c3⟩ := zm237 (p := 0) (w := w) (by decide) hw gS S3
        have B4 : zMde 1 s4 (zbdy D X) := zMde_f b2 (c3.1 220 (by decide) (by decide)) (c3.1 221 (by decide) (by decide))
        obtain ⟨s5, d1, d2, d3⟩ := zm237 (p := 1) (w := w) (by decide) hw gB B4
        have S5 : zMde 0 s5 (zsht X) := zMde_f S3 (by rw [d3.1 220 (by decide) (by decide), c3.1 220 (by decide) (by decide)]) (by rw [d3.1 221 (by decide) (by decide), c3.1 221 (by decide) (by decide)])
        have B5 : zMde 1 s5 (zbdy D X) := zMde_f B4 (d3.1 220 (by decide) (by decide)) (d3.1 221 (by decide) (by decide))
        have K5 : zPk 0 s5 (zpkd (zsht X) (decide (w = 1))) := ⟨by rw [d3.2.1 0 (by decide)]; exact c2.1, c2.2.1, fun j hj => by
          have := c2.2.1
          rw [d3.2.2 _ (Or.inl (by omega))]
          exact c2.2.2 j hj⟩
        have F5 : ∀ p, p ≠ 222 → p ≠ 223 → s5 p = s3 p := fun p u v => by rw [d3.1 p u v, c3.1 p u v]
        have lK := c2.2.1
        have lL := d2.2.1
        have eL : (zpkg D w).length = 18 + (zpkd (zsht X) (decide (w = 1))).length + (zpkd (zbdy D X) (decide (w = 1))).length := by
          unfold zpkg
          rw [← hX, List.length_append, zprt_l, zprt_l]
          omega
        have e18 : ((18 : Int32) + nI (zpkd (zsht X) (decide (w = 1))).length) + nI (zpkd (zbdy D X) (decide (w = 1))).length = nI (zpkg D w).length := by rw [eL, zn_lit 18, zn_add, zn_add]
        have body : ∀ {R : Option (Int32 × zS)}, (if nI (zpkg D w).length ≤ 480 then
            zpf s5 179 2 0 fun s16 =>
            zbv (zf240 179 0 (nI w) s16) fun s18 =>
            zbv (zf240 179 1 (nI w) s18) fun s20 =>
            zgf s20 179 2 fun v21 =>
            some (v21, s20)
          else
            zbi (zf207 179 3 s5) fun v22 s23 =>
            some (v22, s23)) = R → zf227_35 179 (nI i) (nI w) 0 s = R := by
          intro R h
          refine hd ?_
          rw [if_neg (show ¬ (26 : Int32) < nI X.length from fun w => by have := (zn_lt (a := 26) (b := X.length) (by decide) (by omega)).mp w; omega), if_neg (show ¬ (300 : Int32) < nI (zsht X).length from fun w => by have := (zn_lt (a := 300) (b := (zsht X).length) (by decide) (by omega)).mp w; omega), if_pos (show nI (zbdy D X).length ≤ 300 from (zn_le (b := 300) (by omega) (by decide)).mpr gB)]
          rw [show zf237 179 0 (nI w) s3 = some s4 from c1, zbv_e, show zf237 179 1 (nI w) s4 = some s5 from d1, zbv_e, show zrf 179 54 = 223 from rfl, q0, q1, K5.1, d2.1, e18]
          exact h
        by_cases g480 : (zpkg D w).length ≤ 480
        · refine ⟨fun ok => ?_, fun n => absurd (by rw [zp]; exact ⟨g26, gS, gB, g480⟩) n⟩
          obtain ⟨s6, hs6⟩ : ∃ s6, s6 = zw s5 179 2 0 := ⟨_, rfl⟩
          have f6 : ∀ p, p ≠ 179 → s6 p = s5 p := fun p a => by rw [hs6, zw_ne a]
          have M6 : zMtx s6 [] := ⟨by rw [hs6, zw_s]; rfl, Nat.zero_le _, fun j hj => absurd hj (Nat.not_lt_zero _)⟩
          have S6 : zMde 0 s6 (zsht X) := zMde_f S5 (f6 220 (by decide)) (f6 221 (by decide))
          have B6 : zMde 1 s6 (zbdy D X) := zMde_f B5 (f6 220 (by decide)) (f6 221 (by decide))
          have pf : ∀ {p : Nat} {s s' : zS} {Y : List Int32}, zPk p s Y → s' 222 = s 222 → s' 223 = s 223 → zPk p s' Y := by
            intro p s s' Y h e1 e2
            unfold zPk
            rw [e1, e2]
            exact h
          obtain ⟨s7, g1, g2, g3⟩ := zm240 (p := 0) (w := w) (by decide) hw gS (zsht_t g26 x1) S6 (pf K5 (f6 222 (by decide)) (f6 223 (by decide))) M6 (by rw [List.length_nil]; omega)
          obtain ⟨s8, h1, h2, h3⟩ := zm240 (p := 1) (w := w) (by decide) hw gB (zbdy_t hW g26) (zMde_f B6 (g3.1 220 (by decide) (by decide)) (g3.1 221 (by decide) (by decide))) (pf d2 (by rw [g3.1 222 (by decide) (by decide), f6 222 (by decide)]) (by rw [g3.1 223 (by decide) (by decide), f6 223 (by decide)])) g2 (by rw [List.length_append, List.length_nil, zprt_l]; omega)
          have eT : zpkg D w = [] ++ zprt (if 0 = 0 then 83 else 67) w (zsht X) ++ zprt (if 1 = 0 then 83 else 67) w (zbdy D X) := by unfold zpkg; rw [← hX, List.nil_append]; rfl
          rw [← eT] at h2
          have k8 : ∀ f, f ≠ 2 → s8 179 f = s3 179 f := fun f hf => by rw [h3.2 f hf, g3.2 f hf, hs6, zw_o (Or.inr hf), F5 179 (by decide) (by decide)]
          refine ⟨s8, body ?_, h2, by rw [k8 0 (by decide), F3.2.1], fun p u1 u2 u3 => by rw [h3.1 p u1 u2, g3.1 p u1 u2, f6 p u1, F5 p (by omega) (by omega), F3.1 p u1 u3], fun f u1 u2 u3 => by rw [k8 f u2, F3.2.2 f u1 u3]⟩
          rw [if_pos (show nI (zpkg D w).length ≤ 480 from (zn_le (b := 480) (by omega) (by decide)).mpr g480), zpf_e, ← hs6, show zf240 179 0 (nI w) s6 = some s7 from g1, zbv_e, show zf240 179 1 (nI w) s7 = some s8 from h1, zbv_e, zgf_e, h2.1]
        · refine no s5 (fun p u1 u2 => by rw [F5 p (by omega) (by omega), F3.1 p u1 u2]) (fun f u1 u2 => by rw [F5 179 (by decide) (by decide), F3.2.2 f u1 u2]) (body ?_) (fun ok => by rw [zp] at ok; exact g480 ok.2.2.2)
          rw [if_neg (show ¬ nI (zpkg D w).length ≤ 480 from fun w => by have := (zn_le (b := 480) (by omega) (by decide)).mp w; omega)]
          rfl
      · refine no s3 (fun p u1 u2 => F3.1 p u1 u2) F3.2.2 (hd ?_) (fun ok => by rw [zp] at ok; exact gB ok.2.2.1)
        rw [if_neg (show ¬ (26 : Int32) < nI X.length from fun w => by have := (zn_lt (a := 26) (b := X.length) (by decide) (by omega)).mp w; omega), if_neg (show ¬ (300 : Int32) < nI (zsht X).length from fun w => by have := (zn_lt (a := 300) (b := (zsht X).length) (by decide) (by omega)).mp w; omega), if_neg (show ¬ nI (zbdy D X).length ≤ 300 from fun w => gB ((zn_le (b := 300) (by omega) (by decide)).mp w)), e90]
    · refine no s3 (fun p u1 u2 => F3.1 p u1 u2) F3.2.2 (hd ?_) (fun ok => by rw [zp] at ok; exact gS ok.2.1)
      rw [if_neg (show ¬ (26 : Int32) < nI X.length from fun w => by have := (zn_lt (a := 26) (b := X.length) (by decide) (by omega)).mp w; omega), if_pos (show (300 : Int32) < nI (zsht X).length from (zn_lt (a := 300) (b := (zsht X).length) (by decide) (by omega)).mpr (by omega)), e90]
  · refine no s3 (fun p u1 u2 => F3.1 p u1 u2) F3.2.2 (hd ?_) (fun ok => by rw [zp] at ok; exact g26 ok.1)
    rw [if_pos (show (26 : Int32) < nI X.length from (zn_lt (a := 26) (b := X.length) (by decide) (by omega)).mpr (by omega)), e90]
theorem zIv_E {s t : zS} {T' : List Int32} (h : zIv s) (hT : zTxt t T') (h1 : ∀ p, (2 < p ∧ p < 169) ∨ (180 < p ∧ p < 220) → t p = s p) (h2 : ∀ f, f ≠ 0 → f ≠ 2 → f ≠ 56 → t 179 f = s 179 f) : zIv t := by
  obtain ⟨T, A, B, D, _, g2, g3, g4, g5⟩ := h
  refine ⟨T', A, B, D, hT, zDs_f g2 (fun p hp => h1 p (by omega)), ?_, ⟨by rw [h1 37 (by omega)]; exact g4.1, by rw [h1 40 (by omega)]; exact g4.2⟩, zSi_f g5 ⟨fun q hq => h1 q (by omega), h2 31 (by decide) (by decide) (by decide), h2 32 (by decide) (by decide) (by decide)⟩⟩
  rw [h1 28 (by omega), h2 3 (by decide) (by decide) (by decide)]
  exact g3
theorem zIv_doc {s : zS} {q i : Nat} (h : zIv s) (hQ : zQ q i) : ∃ D, zPc q s D ∧ zPm i s D ∧ zWf D ∧ zQq q ∧ q < 29 ∧ i < 3 := by
  obtain ⟨T, A, B, D, _, ⟨d0, d1, d2, _⟩, _⟩ := h
  rcases hQ with ⟨rfl, rfl⟩ | ⟨rfl, rfl⟩ | ⟨rfl, rfl⟩
  · exact ⟨A, d0.1, d0.2.1, d0.2.2, zQ4, by decide, by decide⟩
  · exact ⟨B, d1.1, d1.2.1, d1.2.2, zQ12, by decide, by decide⟩
  · exact ⟨D, d2.1, d2.2.1, d2.2.2, zQ20, by decide, by decide⟩
theorem i_emit {s : zS} (h : zIv s) (x y : Int32) : zAH (zf115 0 x y s) [0, 2, 3] (zf227 179 x y) zIv := by
  have h0 := h
  obtain ⟨T, _, _, _, hT, _, _, _, _⟩ := h
  have e35 : ∀ {a b : Int32} {k : Nat}, k = 1 ∨ k = 2 → ∀ s : zS, zf227_35 179 a b (nI k) s = some (0, zw s 179 0 (nI k)) := by
    intro a b k hk s
    unfold zf227_35
    rw [zpf_e, zgf_e, zw_s, if_neg (by rcases hk with rfl | rfl <;> decide)]
  rcases z_slotQ x with hx | ⟨q, i, hQ, rfl⟩
  · refine Or.inr ⟨0, 0, 0, s, zw s 179 0 (nI 1), rfl, ?_, ?_, by rw [zw_s], zIv_0 h0⟩
    · unfold zf115
      rw [z83_no hx]
      rfl
    · unfold zf227
      rw [z202_no hx, zbi_e, if_pos rfl]
      exact e35 (k := 1) (Or.inl rfl) s
  · obtain ⟨D, hP, hM, hW, hQq, hq, hi⟩ := zIv_doc h0 hQ
    obtain ⟨u0, u1, u2, u3, u4, u5, u6, u7, u8, u9, u10, u11, u12⟩ := zQq_e hQq
    have hc := hP.2.1
    have h600 : (zlt D).length ≤ 600 := by have := hP.2.2.1.2.1; rw [u6] at this; omega
    have hs2 : zsh q = 2 := by rcases hQ with ⟨rfl, rfl⟩ | ⟨rfl, rfl⟩ | ⟨rfl, rfl⟩ <;> rfl
    have c83 : ∀ (c : Nat → zS → Option (am_O × zS × Nat)), zxr 2 (zf83 0 (nI i) s) c = c q s := by
      intro c
      rw [zQ_83 hQ]
      show (if zsh q = 2 then c q s else none) = _
      rw [if_pos hs2]
    have m202 : ∀ s : zS, zf202 (nI i) s = some (1, s) := by
      intro s
      rcases hQ with ⟨rfl, rfl⟩ | ⟨rfl, rfl⟩ | ⟨rfl, rfl⟩ <;> rfl
    by_cases hy : y = 0 ∨ y = 1
    · obtain ⟨w, rfl, hw⟩ : ∃ w, y = nI w ∧ w < 2 := by
        rcases hy with rfl | rfl
        · exact ⟨0, rfl, by decide⟩
        · exact ⟨1, rfl, by decide⟩
      have c23 : zf115 0 (nI i) (nI w) s = zf115_23 0 (nI w) q s := by
        unfold zf115
        rw [c83]
        rcases hy with g | g
        · rw [if_pos g]
        · rw [g, if_neg (show ¬ (1 : Int32) = 0 by decide), if_pos rfl]
      have m21 : ∀ s, zf227 179 (nI i) (nI w) s = zf227_21 179 (nI i) (nI w) s := by
        intro s
        unfold zf227
        rw [m202, zbi_e, if_neg (show ¬ (1 : Int32) = 0 by decide)]
        rcases hy with g | g
        · rw [if_pos g]
        · rw [g, if_neg (show ¬ (1 : Int32) = 0 by decide), if_pos rfl]
      by_cases g0 : D.length = 0
      · refine Or.inr ⟨1, 2, 0, s, zw s 179 0 (nI 2), rfl, ?_, ?_, by rw [zw_s], zIv_0 h0⟩
        · rw [c23]
          unfold zf115_23
          rw [zgf_e, hP.1, if_neg (show ¬ ¬ nI D.length = 0 from fun w => w (by rw [g0]; rfl))]
        · rw [m21]
          unfold zf227_21
          rw [show zrf 179 22 = 195 from rfl, zal_n (show i < 4 by omega), hM.1, if_neg (show ¬ ¬ nI D.length = 0 from fun w => w (by rw [g0]; rfl))]
          exact e35 (k := 2) (Or.inr rfl) s
      · have n0 : ¬ nI D.length = 0 := fun w => g0 ((zn_eq (a := D.length) (b := 0) (by omega) (by decide)).mp w)
        obtain ⟨s1, a1, a2, a3⟩ := z116 hQq hq hP hW hw
        have m35 : ∀ s, zPm i s D → zf227 179 (nI i) (nI w) s = zf227_35 179 (nI i) (nI w) 0 s := by
          intro s hM
          rw [m21]
          unfold zf227_21
          rw [show zrf 179 22 = 195 from rfl, zal_n (show i < 4 by omega), hM.1, if_pos n0]
        by_cases ok : zpok D w
        · obtain ⟨b1, b2⟩ := a1 ok
          obtain ⟨s2, c1, c2, c3⟩ := zro15 (r := 1) (s := s1) (by decide)
          have b2' : zRow 170 s2 (zpkg D w) := zRow_f b2 (c3 170 (by decide)) (c3 (zrf 170 0) (by decide))
          obtain ⟨s3, d1, d2, d3⟩ := zro144 (r := 1) (r2 := 170) (by decide) ⟨by decide, by decide, by decide, by decide⟩ b2' c2
          rw [List.nil_append] at d2
          obtain ⟨R3, o3⟩ := zRo_row d2 ok.2.2.2
          have f3 : ∀ p, (2 < p ∧ p < 169) ∨ 178 < p → s3 p = s p := fun p hp => by rw [d3 p (by omega) (by show _ ≠ 2; omega), c3 p (by omega), a3 p (by omega)]
          have M3 : zPm i s3 D := zPm_e hM (fun p u v => f3 p (by omega))
          obtain ⟨s4, e1, e2, e3, e4⟩ := (zm227 hi hw M3 hW (by omega) h600 (by omega)).1 ok
          refine Or.inl ⟨nI (zpkg D w).length, s3, s4, ?_, by rw [m35 s3 M3]; exact e1, e3, ?_⟩
          · rw [c23]
            unfold zf115_23
            rw [zgf_e, hP.1, if_pos n0, show zrf 0 4 = 169 from rfl, b1, zbi_e, if_pos (show ¬ (1 : Int32) = 0 by decide), show zrf 0 0 = 1 from rfl, c1, zbv_e, show zrf 169 0 = 170 from rfl, d1, zbv_e, zgf_e, R3.1]
          · refine zIv_E (T' := zpkg D w) h0 ⟨zRow_f R3 (e4.1 1 (by decide) (by decide) (by decide)) (e4.1 2 (by decide) (by decide) (by decide)), e2, zpkg_t hW hw ok⟩ (fun p hp => by rw [e4.1 p (by omega) (by omega) (by omega), f3 p (by omega)]) (fun f u1 u2 u3 => by rw [e4.2 f u1 u2 u3, f3 179 (by omega)])
        · have b1 := a2 ok
          have M1 : zPm i s1 D := zPm_e hM (fun p u v => a3 p (by omega))
          obtain ⟨s4, e1, e2, e3, e4, e5⟩ := (zm227 hi hw M1 hW (by omega) h600 (by omega)).2 ok
          refine Or.inr ⟨2, 3, 0, s1, s4, rfl, ?_, by rw [m35 s1 M1]; exact e1, by rw [e2]; rfl, ?_⟩
          · rw [c23]
            unfold zf115_23
            rw [zgf_e, hP.1, if_pos n0, show zrf 0 4 = 169 from rfl, b1, zbi_e, if_neg (fun w => w rfl)]
          · refine zIv_E (T' := T) h0 ⟨zRow_f hT.1 (by rw [e5.1 1 (by decide) (by decide) (by decide), a3 1 (by omega)]) (by rw [show zrf 1 0 = 2 from rfl, e5.1 2 (by decide) (by decide) (by decide), a3 2 (by omega)]), ?_, hT.2.2⟩ (fun p hp => by rw [e5.1 p (by omega) (by omega) (by omega), a3 p (by omega)]) (fun f u1 u2 u3 => by rw [e5.2 f u1 u2 u3, a3 179 (by omega)])
            unfold zMtx
            rw [e3, e4, a3 179 (by omega), a3 180 (by omega)]
            exact hT.2.1
    · refine Or.inr ⟨0, 0, 0, s, zw s 179 0 (nI 1), rfl, ?_, ?_, by rw [zw_s], zIv_0 h0⟩
      · unfold zf115
        rw [c83, if_neg (fun g => hy (Or.inl g)), if_neg (fun g => hy (Or.inr g))]
      · unfold zf227
        rw [m202, zbi_e, if_neg (show ¬ (1 : Int32) = 0 by decide), if_neg (fun g => hy (Or.inl g)), if_neg (fun g => hy (Or.inr g))]
        exact e35 (k := 1) (Or.inl rfl) s

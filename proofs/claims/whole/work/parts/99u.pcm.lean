/-! emit: the model's parts of a package; what its constants say. -/
set_option maxRecDepth 100000
set_option linter.unusedVariables false
def zFtx (s s' : zS) : Prop := (∀ q, q ≠ 179 → q ≠ 180 → s' q = s q) ∧ ∀ f, f ≠ 2 → s' 179 f = s 179 f
theorem zFtx_t {s s1 s2 : zS} (h1 : zFtx s s1) (h2 : zFtx s1 s2) : zFtx s s2 := ⟨fun q a b => (h2.1 q a b).trans (h1.1 q a b), fun f a => (h2.2 f a).trans (h1.2 f a)⟩
theorem zm241 {c : Int32} {s : zS} {W : List Int32} (h : zMtx s W) (hl : W.length < 480) : ∃ s', zf241 179 c s = some s' ∧ zMtx s' (W ++ [c]) ∧ zFtx s s' := by
  unfold zf241
  rw [zgf_e, h.1, show zrf 179 1 = 180 from rfl, zas_n (by show W.length < 480; omega), zgf_e, zw_ne (q := 179) (by decide), h.1, zn_a1, zpf_e]
  refine ⟨_, rfl, ⟨?_, ?_, fun j hj => ?_⟩, fun q u v => by rw [zw_ne u, zw_ne v], fun f hf => by rw [zw_o (Or.inr hf), zw_ne (by decide)]⟩
  · rw [zw_s, List.length_append, List.length_singleton]
  · rw [List.length_append, List.length_singleton]; omega
  · rw [List.length_append, List.length_singleton] at hj
    rw [zw_ne (by decide)]
    by_cases e : j = W.length
    · subst e
      rw [zw_s, zgetD_last]
    · rw [zw_o (Or.inr e), h.2.2 j (by omega), zgetD_app (by omega)]
theorem zm242 {d : Nat} {s : zS} (h : d < 16) : zf242 (nI d) s = some (nI (if d < 10 then 48 + d else 87 + d), s) := by
  unfold zf242
  by_cases g : d < 10
  · rw [if_neg (fun q => by have := (zn_geL (k := 10) (by omega) (by decide)).mp q; omega), if_pos g, zn_lit 48, zn_add]
  · rw [if_pos ((zn_geL (k := 10) (by omega) (by decide)).mpr (by omega)), if_neg g, zn_lit 97, zn_add, zn_lit 10, zn_sub (by omega), show 97 + d - 10 = 87 + d by omega]
theorem zm240 {p w : Nat} {C : List Int32} (hp : p < 2) (hw : w < 2) (hl : C.length ≤ 300) (hL : zLt C) {s : zS} {W : List Int32} (hC : zMde p s C) (hP : zPk p s (zpkd C (decide (w = 1)))) (hW : zMtx s W) (hr : W.length + 9 + (zpkd C (decide (w = 1))).length ≤ 480) : ∃ s', zf240 179 (nI p) (nI w) s = some s' ∧ zMtx s' (W ++ zprt (if p = 0 then 83 else 67) w C) ∧ zFtx s s' := by
  obtain ⟨P, hPp⟩ : ∃ P, P = zpkd C (decide (w = 1)) := ⟨_, rfl⟩
  rw [← hPp] at hP hr
  have hPl := hP.2.1
  obtain ⟨name, hnm⟩ : ∃ name : Int32, name = if p = 0 then 83 else 67 := ⟨_, rfl⟩
  rw [← hnm]
  have e0 : zf240 179 (nI p) (nI w) s = zf240_12 179 (nI p) (nI w) name s := by
    unfold zf240
    by_cases g : p = 0
    · rw [if_neg (show ¬ ¬ nI p = 0 from fun q => q (by rw [g]; rfl)), hnm, if_pos g]
    · rw [if_pos (show ¬ nI p = 0 from fun q => g ((zn_eq (a := p) (b := 0) (by omega) (by decide)).mp q)), hnm, if_neg g]
  obtain ⟨d1, d2, d3, _⟩ := zdg3 P.length (by omega)
  obtain ⟨s3, c1, c2, c3⟩ := zm241 (c := name) hW (by omega)
  obtain ⟨s4, e1, e2, e3⟩ := zm241 (c := nI (48 + w)) c2 (by rw [List.length_append, List.length_singleton]; omega)
  obtain ⟨s5, g1, g2, g3⟩ := zm241 (c := nI (48 + P.length / 100)) e2 (by rw [List.length_append, List.length_singleton, List.length_append, List.length_singleton]; omega)
  obtain ⟨s6, h1, h2, h3⟩ := zm241 (c := nI (48 + P.length / 10 % 10)) g2 (by rw [List.length_append, List.length_singleton, List.length_append, List.length_singleton, List.length_append, List.length_singleton]; omega)
  obtain ⟨s7, i1, i2, i3⟩ := zm241 (c := nI (48 + P.length % 10)) h2 (by rw [List.length_append, List.length_singleton, List.length_append, List.length_singleton, List.length_append, List.length_singleton, List.length_append, List.length_singleton]; omega)
  have F4 := zFtx_t c3 e3
  have F5 := zFtx_t F4 g3
  have F6 := zFtx_t F5 h3
  have F7 := zFtx_t F6 i3
  obtain ⟨W7, hW7⟩ : ∃ W7, W7 = W ++ [name] ++ [nI (48 + w)] ++ [nI (48 + P.length / 100)] ++ [nI (48 + P.length / 10 % 10)] ++ [nI (48 + P.length % 10)] := ⟨_, rfl⟩
  rw [← hW7] at i2
  have l7 : W7.length = W.length + 5 := by rw [hW7]; simp only [List.length_append, List.length_singleton]
  -- the data
  have dat : ∀ m f j (t : zS) V, j + m = P.length → m < f → zPk p t P → zMtx t V → V.length + m ≤ 480 → ∃ t', zf240_76 179 f (nI p) (nI j) t = zf240_114 179 zfz (nI p) 65535 0 t' ∧ zMtx t' (V ++ P.drop j) ∧ zFtx t t' := by
    intro m
    induction m with
    | zero =>
      intro f j t V hj hf hP hV hv
      obtain ⟨f, rfl⟩ : ∃ f', f = f' + 1 := ⟨f - 1, by omega⟩
      refine ⟨t, ?_, ?_, fun _ _ _ => rfl, fun _ _ => rfl⟩
      · rw [zf240_76, show zrf 179 54 = 223 from rfl, zal_n (by show p < 2; omega), hP.1, if_pos ((zn_le (by omega) (by omega)).mpr (by omega))]
      · rw [List.drop_eq_nil_of_le (by omega), List.append_nil]
        exact hV
    | succ m ih =>
      intro f j t V hj hf hP hV hv
      obtain ⟨f, rfl⟩ : ∃ f', f = f' + 1 := ⟨f - 1, by omega⟩
      obtain ⟨t1, b1, b2, b3⟩ := zm241 (c := P.getD j (-1)) hV (by omega)
      have P1 : zPk p t1 P := by
        unfold zPk
        rw [b3.1 223 (by decide) (by decide), b3.1 222 (by decide) (by decide)]
        exact hP
      obtain ⟨t', k1, k2, k3⟩ := ih f (j + 1) t1 (V ++ [P.getD j (-1)]) (by omega) (by omega) P1 b2 (by rw [List.length_append, List.length_singleton]; omega)
      refine ⟨t', ?_, ?_, zFtx_t b3 k3⟩
      · rw [zf240_76, show zrf 179 54 = 223 from rfl, show zrf 179 53 = 222 from rfl, zal_n (by show p < 2; omega), hP.1, if_neg (fun q => by have := (zn_le (by omega) (by omega)).mp q; omega), zn_300, zal_n (by show _ < 600; omega), hP.2.2 j (by omega), b1, zbv_e, zn_a1]
        exact k1
      · rw [zdrop (by omega)]
        rw [List.append_assoc] at k2
        exact k2
  have P7 : zPk p s7 P := by
    unfold zPk
    rw [F7.1 223 (by decide) (by decide), F7.1 222 (by decide) (by decide)]
    exact hP
  obtain ⟨s8, j1, j2, j3⟩ := dat P.length zfz 0 s7 W7 (Nat.zero_add _) (by rw [zfz_e]; omega) P7 i2 (by omega)
  rw [List.drop_zero] at j2
  have F8 := zFtx_t F7 j3
  have C8 := zMde_f hC (F8.1 220 (by decide) (by decide)) (F8.1 221 (by decide) (by decide))
  -- the check
  have chk : ∀ m f j v, j + m = C.length → m < f → v < 65536 → zf240_114 179 f (nI p) (nI v) (nI j) s8 = zf240_153 179 zfz (nI (zcr v (C.drop j))) 12 s8 := by
    intro m
    induction m with
    | zero =>
      intro f j v hj hf hv
      obtain ⟨f, rfl⟩ : ∃ f', f = f' + 1 := ⟨f - 1, by omega⟩
      rw [zf240_114, show zrf 179 52 = 221 from rfl, zal_n (by show p < 2; omega), C8.1, if_pos ((zn_le (by omega) (by omega)).mpr (by omega)), List.drop_eq_nil_of_le (by omega), zcr]
    | succ m ih =>
      intro f j v hj hf hv
      obtain ⟨f, rfl⟩ : ∃ f', f = f' + 1 := ⟨f - 1, by omega⟩
      have hjl : j < C.length := by omega
      obtain ⟨x, x1, x2, x3⟩ := hL _ (zgetD_mem hjl)
      have e : v ^^^ (x * 256) < 65536 := Nat.xor_lt_two_pow (n := 16) hv (by omega)
      rw [zf240_114, show zrf 179 52 = 221 from rfl, show zrf 179 51 = 220 from rfl, zal_n (by show p < 2; omega), C8.1, if_neg (fun q => by have := (zn_le (by omega) (by omega)).mp q; omega), zn_24, zal_n (by show _ < 4800; omega), C8.2.2 j hjl, x3, z163 hv (by omega), zbi_e, zn_a1, zdrop hjl, x3, zcr, zn_cl (by omega)]
      exact ih f (j + 1) _ (by omega) (by omega) (zcks_lt 8 _ e)
  have k114 := chk C.length zfz 0 65535 (Nat.zero_add _) (by rw [zfz_e]; omega) (by decide)
  rw [List.drop_zero] at k114
  have hv := zcr_lt C 65535 (by decide) hL
  obtain ⟨v, hvv⟩ : ∃ v, v = zcr 65535 C := ⟨_, rfl⟩
  rw [← hvv] at hv k114
  obtain ⟨k1, k2, k3, k4⟩ := zshr0 v hv
  have l8 : (W7 ++ P).length = W.length + 5 + P.length := by rw [List.length_append, l7]
  obtain ⟨s9, l1, l2, l3⟩ := zm241 (c := nI (if v / 4096 % 16 < 10 then 48 + v / 4096 % 16 else 87 + v / 4096 % 16)) j2 (by omega)
  obtain ⟨s10, m1, m2, m3⟩ := zm241 (c := nI (if v / 256 % 16 < 10 then 48 + v / 256 % 16 else 87 + v / 256 % 16)) l2 (by rw [List.length_append, List.length_singleton]; omega)
  obtain ⟨s11, n1, n2, n3⟩ := zm241 (c := nI (if v / 16 % 16 < 10 then 48 + v / 16 % 16 else 87 + v / 16 % 16)) m2 (by rw [List.length_append, List.length_singleton, List.length_append, List.length_singleton]; omega)
  obtain ⟨s12, o1, o2, o3⟩ := zm241 (c := nI (if v % 16 < 10 then 48 + v % 16 else 87 + v % 16)) n2 (by rw [List.length_append, List.length_singleton, List.length_append, List.length_singleton, List.length_append, List.length_singleton]; omega)
  refine ⟨s12, ?_, ?_, zFtx_t (zFtx_t (zFtx_t (zFtx_t F8 l3) m3) n3) o3⟩
  · rw [e0]
    unfold zf240_12
    have pk : ∀ {t : zS}, zFtx s t → t 223 p = nI P.length := fun ht => by rw [ht.1 223 (by decide) (by decide)]; exact hP.1
    have j1' : zf240_76 179 zfz (nI p) 0 s7 = zf240_114 179 zfz (nI p) 65535 0 s8 := j1
    have k114' : zf240_114 179 zfz (nI p) 65535 0 s8 = zf240_153 179 zfz (nI v) 12 s8 := k114
    rw [c1, zbv_e, show (48 : Int32) + nI w = nI (48 + w) by rw [zn_lit 48, zn_add], e1, zbv_e, show zrf 179 54 = 223 from rfl, zal_n (by show p < 2; omega), pk F4, d1, g1, zbv_e, zal_n (by show p < 2; omega), pk F5, d2, h1, zbv_e, zal_n (by show p < 2; omega), pk F6, d3, i1, zbv_e, j1', k114']
    obtain ⟨M, hM⟩ : ∃ M, zfz = M + 5 := ⟨9995, zfz_e⟩
    rw [hM, show M + 5 = (M + 4) + 1 by omega, zf240_153, if_neg (show ¬ (12 : Int32) < 0 by decide), k1, zm242 (by omega), zbi_e, l1, zbv_e, show (12 : Int32) + (-4) = 8 by decide]
    rw [show M + 4 = (M + 3) + 1 by omega, zf240_153, if_neg (show ¬ (8 : Int32) < 0 by decide), k2, zm242 (by omega), zbi_e, m1, zbv_e, show (8 : Int32) + (-4) = 4 by decide]
    rw [show M + 3 = (M + 2) + 1 by omega, zf240_153, if_neg (show ¬ (4 : Int32) < 0 by decide), k3, zm242 (by omega), zbi_e, n1, zbv_e, show (4 : Int32) + (-4) = 0 by decide]
    rw [show M + 2 = (M + 1) + 1 by omega, zf240_153, if_neg (show ¬ (0 : Int32) < 0 by decide), k4, zm242 (by omega), zbi_e, o1, zbv_e, show (0 : Int32) + (-4) = -4 by decide]
    rw [zf240_153, if_pos (show (-4 : Int32) < 0 by decide)]
  · have e : W ++ zprt name w C = W7 ++ P ++ [nI (if v / 4096 % 16 < 10 then 48 + v / 4096 % 16 else 87 + v / 4096 % 16)] ++ [nI (if v / 256 % 16 < 10 then 48 + v / 256 % 16 else 87 + v / 256 % 16)] ++ [nI (if v / 16 % 16 < 10 then 48 + v / 16 % 16 else 87 + v / 16 % 16)] ++ [nI (if v % 16 < 10 then 48 + v % 16 else 87 + v % 16)] := by
      rw [hW7]
      unfold zprt zhd4
      rw [← hPp, ← hvv]
      simp only [List.append_assoc, List.cons_append, List.nil_append]
    rw [e]
    exact o2
/-- what saying in part p may change -/
def zFs2 (p : Nat) (s s' : zS) : Prop := (∀ q, q ≠ 220 → q ≠ 221 → s' q = s q) ∧ (∀ j, j ≠ p → s' 221 j = s 221 j) ∧ ∀ j, j < 2400 * p ∨ 2400 * p + 2400 ≤ j → s' 220 j = s 220 j
theorem zFs2_t {p : Nat} {s s1 s2 : zS} (h1 : zFs2 p s s1) (h2 : zFs2 p s1 s2) : zFs2 p s s2 := ⟨fun q a b => (h2.1 q a b).trans (h1.1 q a b), fun j a => (h2.2.1 j a).trans (h1.2.1 j a), fun j a => (h2.2.2 j a).trans (h1.2.2 j a)⟩
theorem zFs2_r {p : Nat} {s : zS} : zFs2 p s s := ⟨fun _ _ _ => rfl, fun _ _ => rfl, fun _ _ => rfl⟩
theorem zm232 {p : Nat} {c : Int32} {s : zS} {C : List Int32} (hp : p < 2) (h : zMde p s C) (hl : C.length < 2400) : ∃ s', zf232 179 (nI p) c s = some s' ∧ zMde p s' (C ++ [c]) ∧ zFs2 p s s' := by
  unfold zf232
  rw [show zrf 179 52 = 221 from rfl, show zrf 179 51 = 220 from rfl, zal_n (by show p < 2; omega), h.1, zn_24, zas_n (by show _ < 4800; omega), zal_n (by show p < 2; omega), zw_o (Or.inl (by decide)), h.1, zn_a1, zas_n (by show p < 2; omega)]
  refine ⟨_, rfl, ⟨?_, ?_, fun j hj => ?_⟩, fun q u v => by rw [zw_ne v, zw_ne u], fun j hj => by rw [zw_o (Or.inr hj), zw_ne (by decide)], fun j hj => by rw [zw_ne (by decide), zw_o (Or.inr (by omega))]⟩
  · rw [zw_s, List.length_append, List.length_singleton]
  · rw [List.length_append, List.length_singleton]; omega
  · rw [List.length_append, List.length_singleton] at hj
    rw [zw_ne (by decide)]
    by_cases e : j = C.length
    · subst e
      rw [zw_s, zgetD_last]
    · rw [zw_o (Or.inr (by omega)), h.2.2 j (by omega), zgetD_app (by omega)]
/-- the bytes of a constant -/
def zby : Nat → Int64 → List Int32
  | 0, _ => []
  | n + 1, x => if lg_cmp x 0 = 0 then [] else Int64.toInt32 (x &&& 255) :: zby n ((Int64.toUInt64 x >>> (Int64.toUInt64 (Int32.toInt64 8) &&& Int64.toUInt64 63)).toInt64)
theorem zm231_l {p : Nat} (hp : p < 2) : ∀ n f x (s : zS) C, n < f → (zby n x).length < n → zMde p s C → C.length + (zby n x).length ≤ 2400 → ∃ s', zf231_3 179 f (nI p) x s = some s' ∧ zMde p s' (C ++ zby n x) ∧ zFs2 p s s' := by
  intro n
  induction n with
  | zero => intro f x s C _ h; exact absurd h (Nat.not_lt_zero _)
  | succ n ih =>
    intro f x s C hf hb hC hl
    obtain ⟨f, rfl⟩ : ∃ f', f = f' + 1 := ⟨f - 1, by omega⟩
    rw [zf231_3]
    rw [zby] at hb hl ⊢
    by_cases g : lg_cmp x 0 = 0
    · rw [if_pos g, if_pos g, List.append_nil]
      exact ⟨s, rfl, hC, zFs2_r⟩
    · rw [if_neg g] at hb hl ⊢
      rw [if_neg g]
      rw [List.length_cons] at hb hl
      obtain ⟨s1, a1, a2, a3⟩ := zm232 (c := Int64.toInt32 (x &&& 255)) hp hC (by omega)
      obtain ⟨s', b1, b2, b3⟩ := ih f ((Int64.toUInt64 x >>> (Int64.toUInt64 (Int32.toInt64 8) &&& Int64.toUInt64 63)).toInt64) s1 (C ++ [Int64.toInt32 (x &&& 255)]) (by omega) (by omega) a2 (by rw [List.length_append, List.length_singleton]; omega)
      refine ⟨s', by rw [a1, zbv_e]; exact b1, ?_, zFs2_t a3 b3⟩
      rw [List.append_assoc] at b2
      exact b2
theorem zm231 {p : Nat} {x : Int64} {X : List Int32} (hp : p < 2) (hX : zby 9 x = X) (h9 : X.length < 9) {s : zS} {C : List Int32} (hC : zMde p s C) (hl : C.length + X.length ≤ 2400) : ∃ s', zf231 179 (nI p) x s = some s' ∧ zMde p s' (C ++ X) ∧ zFs2 p s s' := by
  subst hX
  unfold zf231
  exact zm231_l hp 9 zfz x s C (by rw [zfz_e]; decide) h9 hC hl
theorem zby_1 : zby 9 29756 = [60, 116] := by decide +kernel
theorem zby_2 : zby 9 62 = [62] := by decide +kernel
theorem zby_3 : zby 9 15919 = [47, 62] := by decide +kernel
theorem zby_4 : zby 9 29500 = [60, 115] := by decide +kernel
theorem zby_5 : zby 9 1047801660 = [60, 47, 116, 62] := by decide +kernel
theorem zby_6 : zby 9 1048063804 = [60, 47, 120, 62] := by decide +kernel
theorem zby_7 : zby 9 30780 = [60, 120] := by decide +kernel
theorem zby_8 : zby 9 12092 = [60, 47] := by decide +kernel
/-- an attribute -/
theorem zm233 {p : Nat} {l x y : Int32} (hp : p < 2) {s : zS} {C : List Int32} (hC : zMde p s C) (hl : C.length + 7 ≤ 2400) : ∃ s', zf233 179 (nI p) l x y s = some s' ∧ zMde p s' (C ++ ([32, l, 61, 34] ++ (if x ≤ 0 then [] else [x]) ++ [y, 34])) ∧ zFs2 p s s' := by
  obtain ⟨s1, a1, a2, a3⟩ := zm232 (c := 32) hp hC (by omega)
  obtain ⟨s2, b1, b2, b3⟩ := zm232 (c := l) hp a2 (by rw [List.length_append, List.length_singleton]; omega)
  obtain ⟨s3, c1, c2, c3⟩ := zm232 (c := 61) hp b2 (by simp only [List.length_append, List.length_singleton]; omega)
  obtain ⟨s4, d1, d2, d3⟩ := zm232 (c := 34) hp c2 (by simp only [List.length_append, List.length_singleton]; omega)
  have F4 := zFs2_t (zFs2_t (zFs2_t a3 b3) c3) d3
  obtain ⟨C4, hC4⟩ : ∃ C4, C4 = C ++ [32] ++ [l] ++ [61] ++ [34] := ⟨_, rfl⟩
  rw [← hC4] at d2
  have l4 : C4.length = C.length + 4 := by rw [hC4]; simp only [List.length_append, List.length_singleton]
  have tail : ∀ (t : zS) V, zMde 1 t V ∨ True → zMde p t V → V.length + 2 ≤ 2400 → ∃ t', zf233_37 179 (nI p) y t = some t' ∧ zMde p t' (V ++ [y] ++ [34]) ∧ zFs2 p t t' := by
    intro t V _ hV hv
    obtain ⟨t1, e1, e2, e3⟩ := zm232 (c := y) hp hV (by omega)
    obtain ⟨t2, g1, g2, g3⟩ := zm232 (c := 34) hp e2 (by rw [List.length_append, List.length_singleton]; omega)
    refine ⟨t2, ?_, g2, zFs2_t e3 g3⟩
    unfold zf233_37
    rw [e1, zbv_e, g1, zbv_e]
  unfold zf233
  rw [a1, zbv_e, b1, zbv_e, c1, zbv_e, d1, zbv_e]
  by_cases g : x ≤ 0
  · rw [if_pos g, if_pos g]
    obtain ⟨t', e1, e2, e3⟩ := tail s4 C4 (Or.inr trivial) d2 (by omega)
    refine ⟨t', e1, ?_, zFs2_t F4 e3⟩
    rw [hC4] at e2
    simp only [List.append_assoc, List.cons_append, List.nil_append] at e2 ⊢
    exact e2
  · rw [if_neg g, if_neg g]
    obtain ⟨s5, g1, g2, g3⟩ := zm232 (c := x) hp d2 (by omega)
    obtain ⟨t', e1, e2, e3⟩ := tail s5 (C4 ++ [x]) (Or.inr trivial) g2 (by rw [List.length_append, List.length_singleton]; omega)
    refine ⟨t', by rw [g1, zbv_e]; exact e1, ?_, zFs2_t (zFs2_t F4 g3) e3⟩
    rw [hC4] at e2
    simp only [List.append_assoc, List.cons_append, List.nil_append] at e2 ⊢
    exact e2

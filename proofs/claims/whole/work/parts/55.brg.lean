/-! What is left, in the methods' functions alone: zA2 for a method that throws nothing, zAH for the others (ex: the exceptions that count as 1, 2, ..). -/
def zA2 (c : Option (Int32 × zS)) (m : zS → Option (Int32 × zS)) (Q : zS → Prop) : Prop := ∃ r s1 s2, c = some (r, s1) ∧ m s1 = some (r, s2) ∧ Q s2
def zAH (c : Option (am_O × zS × Nat)) (ex : List Nat) (m : zS → Option (Int32 × zS)) (Q : zS → Prop) : Prop :=
  (∃ r s1 s2, c = some (.inl (some (.int r)), s1, 0) ∧ m s1 = some (r, s2) ∧ s2 179 0 = 0 ∧ Q s2) ∨ (∃ j k b s1 s2, ex[j]? = some k ∧ c = some (.inr (hx_E k), s1, 1) ∧ m s1 = some (b, s2) ∧ s2 179 0 = nI (j + 1) ∧ Q s2)
def zP (Q : zS → Prop) (h : List va_E) : Prop := ∃ lg s, h = zmk lg s ∧ Q s
theorem zget_l {lg : Nat → Int64} {s : zS} : (zmk lg s)[225]? = some (.inl (2, 1, .inr (.inl lg))) := by
  rw [zmk_get (by decide)]
  rfl
theorem zch_l : (List.range 225).all (fun q => !(zsh q == 102)) = true := by decide +kernel
theorem zcell_l {lg lg' : Nat → Int64} {r : Nat → Int32} {q : Nat} (h : q < 225) : zcell lg r q = zcell lg' r q := by
  have c1 := List.all_eq_true.mp zch_l q (List.mem_range.mpr h)
  have c2 : ¬ zsh q = 102 := by simpa using c1
  unfold zcell
  rw [if_neg c2, if_neg c2]
theorem zset_l {lg lg' : Nat → Int64} {s : zS} : (zmk lg s).set 225 (.inl (2, 1, .inr (.inl lg'))) = zmk lg' s := by
  refine List.ext_getElem? (fun q => ?_)
  by_cases hq : q = 225
  · subst hq
    rw [List.getElem?_set_self (by rw [zmk_len]; decide), zget_l]
  · rw [List.getElem?_set_ne (fun e => hq e.symm)]
    by_cases hq2 : q < 226
    · rw [zmk_get hq2, zmk_get hq2, zcell_l (lg' := lg') (by omega)]
    · rw [List.getElem?_eq_none (by rw [zmk_len]; omega), List.getElem?_eq_none (by rw [zmk_len]; omega)]
theorem zlo_c {lg : Nat → Int64} {s : zS} : (zmk lg s)[0]? = some (.inr (0, zfs (s 0) 0 0)) := zget_o rfl (by decide)
theorem zlo_m {lg : Nat → Int64} {s : zS} : lo_m (zmk lg s) := ⟨_, zget_o rfl (by decide)⟩
theorem z147 {s : zS} : zf147 179 s = some (s 179 0, s) := rfl
theorem zop2 {K : cx_K} {yc ym : Nat} {As : List Value} {lg : Nat → Int64} {s : zS} {Q : zS → Prop} {c : Option (Int32 × zS)} {m : zS → Option (Int32 × zS)} (hc : ∀ v s1, c = some (v, s1) → Ct K yc (.ref 0 :: As) (zmk lg s) (.inl (some (.int v))) (zmk lg s1) 0) (hm : ∀ s1 v s2, m s1 = some (v, s2) → Ct K ym (.ref 179 :: As) (zmk lg s1) (.inl (some (.int v))) (zmk lg s2) 0) (h : zA2 c m Q) : op2 K yc ym As (zmk lg s) (zP Q) := by
  obtain ⟨r, s1, s2, h1, h2, h3⟩ := h
  exact ⟨⟨_, zlo_c⟩, r, _, _, hc _ _ h1, zlo_m, hm _ _ _ h2, lg, s2, rfl, h3⟩
theorem zH_read {K : cx_K} (hK : Kok K) (hno : hx_no K) {lg : Nat → Int64} {s : zS} {Q : zS → Prop} {a1 : Int32} (h : zAH (zf21 0 a1 s) [0] (zf152 179 a1) Q) : opH K ⟨"PaperParcelsLaw", "read", "(LPaperParcels;I[J)I"⟩ method_3_code 4 [(0, 9, 12, 13)] 152 [.int a1] (zmk lg s) (zP Q) := by
  rcases h with ⟨r, s1, s2, h1, h2, h3, h4⟩ | ⟨j, k, b, s1, s2, hj, h1, h2, h3, h4⟩
  · have e1 := hg_read (f := lg) hK zlo_c (zf21_ok (lg := lg) hK rfl h1) zget_l zlen_le
    rw [zset_l] at e1
    refine ⟨0, r, _, _, _, 0, Nat.zero_le _, e1, zlo_m, zf152_ok hK rfl h2, zlo_m, zf147_ok (lg := vp_updL lg 0 r.toInt64) (s := s2) hK rfl (by rw [z147, h3]), fun _ => ⟨_, zget_l, rfl⟩, _, s2, rfl, h4⟩
  · rcases j with _ | j
    · cases hj
      exact ⟨1, b, _, _, _, 1, Nat.le_refl _, hb_read_1 hK hno zlo_c (zf21_ok (lg := lg) hK rfl h1), zlo_m, zf152_ok hK rfl h2, zlo_m, zf147_ok (lg := lg) (s := s2) hK rfl (by rw [z147, h3]; rfl), fun e => absurd e (by decide), _, s2, rfl, h4⟩
    cases hj
theorem zH_nodes {K : cx_K} (hK : Kok K) (hno : hx_no K) {lg : Nat → Int64} {s : zS} {Q : zS → Prop} {a1 : Int32} (h : zAH (zf82 0 a1 s) [0] (zf201 179 a1) Q) : opH K ⟨"PaperParcelsLaw", "nodes", "(LPaperParcels;I[J)I"⟩ method_4_code 4 [(0, 9, 12, 13)] 201 [.int a1] (zmk lg s) (zP Q) := by
  rcases h with ⟨r, s1, s2, h1, h2, h3, h4⟩ | ⟨j, k, b, s1, s2, hj, h1, h2, h3, h4⟩
  · have e1 := hg_nodes (f := lg) hK zlo_c (zf82_ok (lg := lg) hK rfl h1) zget_l zlen_le
    rw [zset_l] at e1
    refine ⟨0, r, _, _, _, 0, Nat.zero_le _, e1, zlo_m, zf201_ok hK rfl h2, zlo_m, zf147_ok (lg := vp_updL lg 0 r.toInt64) (s := s2) hK rfl (by rw [z147, h3]), fun _ => ⟨_, zget_l, rfl⟩, _, s2, rfl, h4⟩
  · rcases j with _ | j
    · cases hj
      exact ⟨1, b, _, _, _, 1, Nat.le_refl _, hb_nodes_1 hK hno zlo_c (zf82_ok (lg := lg) hK rfl h1), zlo_m, zf201_ok hK rfl h2, zlo_m, zf147_ok (lg := lg) (s := s2) hK rfl (by rw [z147, h3]; rfl), fun e => absurd e (by decide), _, s2, rfl, h4⟩
    cases hj
theorem zH_kind {K : cx_K} (hK : Kok K) (hno : hx_no K) {lg : Nat → Int64} {s : zS} {Q : zS → Prop} {a1 a2 : Int32} (h : zAH (zf84 0 a1 a2 s) [0, 1] (zf203 179 a1 a2) Q) : opH K ⟨"PaperParcelsLaw", "kind", "(LPaperParcels;II[J)I"⟩ method_5_code 5 [(0, 10, 13, 13), (0, 10, 17, 22)] 203 [.int a1, .int a2] (zmk lg s) (zP Q) := by
  rcases h with ⟨r, s1, s2, h1, h2, h3, h4⟩ | ⟨j, k, b, s1, s2, hj, h1, h2, h3, h4⟩
  · have e1 := hg_kind (f := lg) hK zlo_c (zf84_ok (lg := lg) hK rfl h1) zget_l zlen_le
    rw [zset_l] at e1
    refine ⟨0, r, _, _, _, 0, Nat.zero_le _, e1, zlo_m, zf203_ok hK rfl h2, zlo_m, zf147_ok (lg := vp_updL lg 0 r.toInt64) (s := s2) hK rfl (by rw [z147, h3]), fun _ => ⟨_, zget_l, rfl⟩, _, s2, rfl, h4⟩
  · rcases j with _ | j
    · cases hj
      exact ⟨1, b, _, _, _, 1, Nat.le_refl _, hb_kind_1 hK hno zlo_c (zf84_ok (lg := lg) hK rfl h1), zlo_m, zf203_ok hK rfl h2, zlo_m, zf147_ok (lg := lg) (s := s2) hK rfl (by rw [z147, h3]; rfl), fun e => absurd e (by decide), _, s2, rfl, h4⟩
    rcases j with _ | j
    · cases hj
      exact ⟨2, b, _, _, _, 1, Nat.le_refl _, hb_kind_2 hK hno zlo_c (zf84_ok (lg := lg) hK rfl h1), zlo_m, zf203_ok hK rfl h2, zlo_m, zf147_ok (lg := lg) (s := s2) hK rfl (by rw [z147, h3]; rfl), fun e => absurd e (by decide), _, s2, rfl, h4⟩
    cases hj
theorem zH_above {K : cx_K} (hK : Kok K) (hno : hx_no K) {lg : Nat → Int64} {s : zS} {Q : zS → Prop} {a1 a2 : Int32} (h : zAH (zf87 0 a1 a2 s) [0, 1] (zf205 179 a1 a2) Q) : opH K ⟨"PaperParcelsLaw", "above", "(LPaperParcels;II[J)I"⟩ method_6_code 5 [(0, 10, 13, 13), (0, 10, 17, 22)] 205 [.int a1, .int a2] (zmk lg s) (zP Q) := by
  rcases h with ⟨r, s1, s2, h1, h2, h3, h4⟩ | ⟨j, k, b, s1, s2, hj, h1, h2, h3, h4⟩
  · have e1 := hg_above (f := lg) hK zlo_c (zf87_ok (lg := lg) hK rfl h1) zget_l zlen_le
    rw [zset_l] at e1
    refine ⟨0, r, _, _, _, 0, Nat.zero_le _, e1, zlo_m, zf205_ok hK rfl h2, zlo_m, zf147_ok (lg := vp_updL lg 0 r.toInt64) (s := s2) hK rfl (by rw [z147, h3]), fun _ => ⟨_, zget_l, rfl⟩, _, s2, rfl, h4⟩
  · rcases j with _ | j
    · cases hj
      exact ⟨1, b, _, _, _, 1, Nat.le_refl _, hb_above_1 hK hno zlo_c (zf87_ok (lg := lg) hK rfl h1), zlo_m, zf205_ok hK rfl h2, zlo_m, zf147_ok (lg := lg) (s := s2) hK rfl (by rw [z147, h3]; rfl), fun e => absurd e (by decide), _, s2, rfl, h4⟩
    rcases j with _ | j
    · cases hj
      exact ⟨2, b, _, _, _, 1, Nat.le_refl _, hb_above_2 hK hno zlo_c (zf87_ok (lg := lg) hK rfl h1), zlo_m, zf205_ok hK rfl h2, zlo_m, zf147_ok (lg := lg) (s := s2) hK rfl (by rw [z147, h3]; rfl), fun e => absurd e (by decide), _, s2, rfl, h4⟩
    cases hj
theorem zH_look {K : cx_K} (hK : Kok K) (hno : hx_no K) {lg : Nat → Int64} {s : zS} {Q : zS → Prop} {a1 a2 a3 : Int32} (h : zAH (zf88 0 a1 a2 a3 s) [0, 1] (zf206 179 a1 a2 a3) Q) : opH K ⟨"PaperParcelsLaw", "look", "(LPaperParcels;III[J)I"⟩ method_7_code 6 [(0, 12, 15, 13), (0, 12, 19, 22)] 206 [.int a1, .int a2, .int a3] (zmk lg s) (zP Q) := by
  rcases h with ⟨r, s1, s2, h1, h2, h3, h4⟩ | ⟨j, k, b, s1, s2, hj, h1, h2, h3, h4⟩
  · have e1 := hg_look (f := lg) hK zlo_c (zf88_ok (lg := lg) hK rfl h1) zget_l zlen_le
    rw [zset_l] at e1
    refine ⟨0, r, _, _, _, 0, Nat.zero_le _, e1, zlo_m, zf206_ok hK rfl h2, zlo_m, zf147_ok (lg := vp_updL lg 0 r.toInt64) (s := s2) hK rfl (by rw [z147, h3]), fun _ => ⟨_, zget_l, rfl⟩, _, s2, rfl, h4⟩
  · rcases j with _ | j
    · cases hj
      exact ⟨1, b, _, _, _, 1, Nat.le_refl _, hb_look_1 hK hno zlo_c (zf88_ok (lg := lg) hK rfl h1), zlo_m, zf206_ok hK rfl h2, zlo_m, zf147_ok (lg := lg) (s := s2) hK rfl (by rw [z147, h3]; rfl), fun e => absurd e (by decide), _, s2, rfl, h4⟩
    rcases j with _ | j
    · cases hj
      exact ⟨2, b, _, _, _, 1, Nat.le_refl _, hb_look_2 hK hno zlo_c (zf88_ok (lg := lg) hK rfl h1), zlo_m, zf206_ok hK rfl h2, zlo_m, zf147_ok (lg := lg) (s := s2) hK rfl (by rw [z147, h3]; rfl), fun e => absurd e (by decide), _, s2, rfl, h4⟩
    cases hj
theorem zH_letters {K : cx_K} (hK : Kok K) (hno : hx_no K) {lg : Nat → Int64} {s : zS} {Q : zS → Prop} {a1 a2 : Int32} (h : zAH (zf89 0 a1 a2 s) [0, 1] (zf208 179 a1 a2) Q) : opH K ⟨"PaperParcelsLaw", "letters", "(LPaperParcels;II[J)I"⟩ method_8_code 5 [(0, 10, 13, 13), (0, 10, 17, 22)] 208 [.int a1, .int a2] (zmk lg s) (zP Q) := by
  rcases h with ⟨r, s1, s2, h1, h2, h3, h4⟩ | ⟨j, k, b, s1, s2, hj, h1, h2, h3, h4⟩
  · have e1 := hg_letters (f := lg) hK zlo_c (zf89_ok (lg := lg) hK rfl h1) zget_l zlen_le
    rw [zset_l] at e1
    refine ⟨0, r, _, _, _, 0, Nat.zero_le _, e1, zlo_m, zf208_ok hK rfl h2, zlo_m, zf147_ok (lg := vp_updL lg 0 r.toInt64) (s := s2) hK rfl (by rw [z147, h3]), fun _ => ⟨_, zget_l, rfl⟩, _, s2, rfl, h4⟩
  · rcases j with _ | j
    · cases hj
      exact ⟨1, b, _, _, _, 1, Nat.le_refl _, hb_letters_1 hK hno zlo_c (zf89_ok (lg := lg) hK rfl h1), zlo_m, zf208_ok hK rfl h2, zlo_m, zf147_ok (lg := lg) (s := s2) hK rfl (by rw [z147, h3]; rfl), fun e => absurd e (by decide), _, s2, rfl, h4⟩
    rcases j with _ | j
    · cases hj
      exact ⟨2, b, _, _, _, 1, Nat.le_refl _, hb_letters_2 hK hno zlo_c (zf89_ok (lg := lg) hK rfl h1), zlo_m, zf208_ok hK rfl h2, zlo_m, zf147_ok (lg := lg) (s := s2) hK rfl (by rw [z147, h3]; rfl), fun e => absurd e (by decide), _, s2, rfl, h4⟩
    cases hj
theorem zH_letter {K : cx_K} (hK : Kok K) (hno : hx_no K) {lg : Nat → Int64} {s : zS} {Q : zS → Prop} {a1 a2 a3 : Int32} (h : zAH (zf90 0 a1 a2 a3 s) [0, 1] (zf209 179 a1 a2 a3) Q) : opH K ⟨"PaperParcelsLaw", "letter", "(LPaperParcels;III[J)I"⟩ method_9_code 6 [(0, 12, 15, 13), (0, 12, 19, 22)] 209 [.int a1, .int a2, .int a3] (zmk lg s) (zP Q) := by
  rcases h with ⟨r, s1, s2, h1, h2, h3, h4⟩ | ⟨j, k, b, s1, s2, hj, h1, h2, h3, h4⟩
  · have e1 := hg_letter (f := lg) hK zlo_c (zf90_ok (lg := lg) hK rfl h1) zget_l zlen_le
    rw [zset_l] at e1
    refine ⟨0, r, _, _, _, 0, Nat.zero_le _, e1, zlo_m, zf209_ok hK rfl h2, zlo_m, zf147_ok (lg := vp_updL lg 0 r.toInt64) (s := s2) hK rfl (by rw [z147, h3]), fun _ => ⟨_, zget_l, rfl⟩, _, s2, rfl, h4⟩
  · rcases j with _ | j
    · cases hj
      exact ⟨1, b, _, _, _, 1, Nat.le_refl _, hb_letter_1 hK hno zlo_c (zf90_ok (lg := lg) hK rfl h1), zlo_m, zf209_ok hK rfl h2, zlo_m, zf147_ok (lg := lg) (s := s2) hK rfl (by rw [z147, h3]; rfl), fun e => absurd e (by decide), _, s2, rfl, h4⟩
    rcases j with _ | j
    · cases hj
      exact ⟨2, b, _, _, _, 1, Nat.le_refl _, hb_letter_2 hK hno zlo_c (zf90_ok (lg := lg) hK rfl h1), zlo_m, zf209_ok hK rfl h2, zlo_m, zf147_ok (lg := lg) (s := s2) hK rfl (by rw [z147, h3]; rfl), fun e => absurd e (by decide), _, s2, rfl, h4⟩
    cases hj
theorem zH_compare {K : cx_K} (hK : Kok K) (hno : hx_no K) {lg : Nat → Int64} {s : zS} {Q : zS → Prop} (h : zAH (zf92 0  s) [2] (zf210 179 ) Q) : opH K ⟨"PaperParcelsLaw", "compare", "(LPaperParcels;[J)I"⟩ method_10_code 3 [(0, 8, 11, 41)] 210 [] (zmk lg s) (zP Q) := by
  rcases h with ⟨r, s1, s2, h1, h2, h3, h4⟩ | ⟨j, k, b, s1, s2, hj, h1, h2, h3, h4⟩
  · have e1 := hg_compare (f := lg) hK zlo_c (zf92_ok (lg := lg) hK rfl h1) zget_l zlen_le
    rw [zset_l] at e1
    refine ⟨0, r, _, _, _, 0, Nat.zero_le _, e1, zlo_m, zf210_ok hK rfl h2, zlo_m, zf147_ok (lg := vp_updL lg 0 r.toInt64) (s := s2) hK rfl (by rw [z147, h3]), fun _ => ⟨_, zget_l, rfl⟩, _, s2, rfl, h4⟩
  · rcases j with _ | j
    · cases hj
      exact ⟨1, b, _, _, _, 1, Nat.le_refl _, hb_compare_1 hK hno zlo_c (zf92_ok (lg := lg) hK rfl h1), zlo_m, zf210_ok hK rfl h2, zlo_m, zf147_ok (lg := lg) (s := s2) hK rfl (by rw [z147, h3]; rfl), fun e => absurd e (by decide), _, s2, rfl, h4⟩
    cases hj
theorem zH_step {K : cx_K} (hK : Kok K) (hno : hx_no K) {lg : Nat → Int64} {s : zS} {Q : zS → Prop} {a1 a2 : Int32} (h : zAH (zf107 0 a1 a2 s) [1] (zf221 179 a1 a2) Q) : opH K ⟨"PaperParcelsLaw", "step", "(LPaperParcels;IZ[J)I"⟩ method_11_code 5 [(0, 10, 13, 22)] 221 [.int a1, .int a2] (zmk lg s) (zP Q) := by
  rcases h with ⟨r, s1, s2, h1, h2, h3, h4⟩ | ⟨j, k, b, s1, s2, hj, h1, h2, h3, h4⟩
  · have e1 := hg_step (f := lg) hK zlo_c (zf107_ok (lg := lg) hK rfl h1) zget_l zlen_le
    rw [zset_l] at e1
    refine ⟨0, r, _, _, _, 0, Nat.zero_le _, e1, zlo_m, zf221_ok hK rfl h2, zlo_m, zf147_ok (lg := vp_updL lg 0 r.toInt64) (s := s2) hK rfl (by rw [z147, h3]), fun _ => ⟨_, zget_l, rfl⟩, _, s2, rfl, h4⟩
  · rcases j with _ | j
    · cases hj
      exact ⟨1, b, _, _, _, 1, Nat.le_refl _, hb_step_1 hK hno zlo_c (zf107_ok (lg := lg) hK rfl h1), zlo_m, zf221_ok hK rfl h2, zlo_m, zf147_ok (lg := lg) (s := s2) hK rfl (by rw [z147, h3]; rfl), fun e => absurd e (by decide), _, s2, rfl, h4⟩
    cases hj
theorem zH_apply {K : cx_K} (hK : Kok K) (hno : hx_no K) {lg : Nat → Int64} {s : zS} {Q : zS → Prop} {a1 : Int32} (h : zAH (zf108 0 a1 s) [2, 0] (zf222 179 a1) Q) : opH K ⟨"PaperParcelsLaw", "apply", "(LPaperParcels;I[J)I"⟩ method_12_code 4 [(0, 9, 12, 41), (0, 9, 15, 13)] 222 [.int a1] (zmk lg s) (zP Q) := by
  rcases h with ⟨r, s1, s2, h1, h2, h3, h4⟩ | ⟨j, k, b, s1, s2, hj, h1, h2, h3, h4⟩
  · have e1 := hg_apply (f := lg) hK zlo_c (zf108_ok (lg := lg) hK rfl h1) zget_l zlen_le
    rw [zset_l] at e1
    refine ⟨0, r, _, _, _, 0, Nat.zero_le _, e1, zlo_m, zf222_ok hK rfl h2, zlo_m, zf147_ok (lg := vp_updL lg 0 r.toInt64) (s := s2) hK rfl (by rw [z147, h3]), fun _ => ⟨_, zget_l, rfl⟩, _, s2, rfl, h4⟩
  · rcases j with _ | j
    · cases hj
      exact ⟨1, b, _, _, _, 1, Nat.le_refl _, hb_apply_1 hK hno zlo_c (zf108_ok (lg := lg) hK rfl h1), zlo_m, zf222_ok hK rfl h2, zlo_m, zf147_ok (lg := lg) (s := s2) hK rfl (by rw [z147, h3]; rfl), fun e => absurd e (by decide), _, s2, rfl, h4⟩
    rcases j with _ | j
    · cases hj
      exact ⟨2, b, _, _, _, 1, Nat.le_refl _, hb_apply_2 hK hno zlo_c (zf108_ok (lg := lg) hK rfl h1), zlo_m, zf222_ok hK rfl h2, zlo_m, zf147_ok (lg := lg) (s := s2) hK rfl (by rw [z147, h3]; rfl), fun e => absurd e (by decide), _, s2, rfl, h4⟩
    cases hj

/-! All seventeen calls; the String constants at the law's entry. -/
set_option maxRecDepth 100000
set_option linter.unusedVariables false
/-- the same context with other places from 1000000 on -/
abbrev cv_K (K : cx_K) (ad : Nat → Nat) : cx_K := (K.1, ad, K.2.2)
theorem cv_ok {K : cx_K} {ad : Nat → Nat} (hK : Kok K) (had : ∀ k, k < 1000000 → ad k = K.2.1 k) : Kok (cv_K K ad) := by
  obtain ⟨t0, t1, t2, t3, t4, hX, h7, hD, htr⟩ := hK
  refine ⟨t0, t1, t2, t3, t4, hX, fun k hk => (had k hk).trans (h7 k hk), fun h hl => ?_, htr⟩
  obtain ⟨d1, d2⟩ := hD h hl
  have tr : ∀ (i : Nat) (p : Nat × va_E), (am_ws ad K.2.2.1 h)[i]? = some p → ∃ x, (am_ws K.2.1 K.2.2.1 h)[i]? = some (p.1, x) := by
    intro i p hp
    unfold am_ws at hp
    rw [List.getElem?_mapIdx] at hp
    cases hi : h[i]? with
    | none => rw [hi] at hp; cases hp
    | some x =>
      rw [hi] at hp
      simp only [Option.map_some, Option.some.injEq] at hp
      have hlt := (List.getElem?_eq_some_iff.mp hi).1
      refine ⟨am_c K.2.1 K.2.2.1 x, ?_⟩
      rw [am_ws_get hi, ← hp]
      show some (K.2.1 i, _) = some (ad i, _)
      rw [had i (by omega)]
  refine ⟨fun i j p q hp hq e => ?_, fun k q hq => ?_⟩
  · obtain ⟨x, hx⟩ := tr i p hp
    obtain ⟨y, hy⟩ := tr j q hq
    exact d1 i j _ _ hx hy e
  · obtain ⟨x, hx⟩ := tr k q hq
    exact d2 k (q.1, x) hx
theorem cv_rf : zrfL.all (fun l => l.all (fun x => Nat.blt x 226)) = true := by decide +kernel
theorem cv_rf' {k f : Nat} : zrf k f < 226 := by
  unfold zrf
  have h1 : ∀ x ∈ zrfL.getD k [], x < 226 := by
    intro x hx
    rw [List.getD_eq_getElem?_getD] at hx
    cases hk : zrfL[k]? with
    | none => rw [hk] at hx; exact absurd hx List.not_mem_nil
    | some l =>
      rw [hk] at hx
      have h2 := List.all_eq_true.mp cv_rf l (List.mem_of_getElem? hk)
      exact Nat.le_of_ble_eq_true (List.all_eq_true.mp h2 x hx)
  rw [List.getD_eq_getElem?_getD]
  cases hf : (zrfL.getD k [])[f]? with
  | none => decide
  | some x => exact h1 x (List.mem_of_getElem? hf)
theorem cv_rg {k i x : Nat} (h : zrg k i = some x) : x < 226 := by
  unfold zrg at h
  split at h
  · unfold va_up at h
    split at h
    · cases h; decide
    · split at h
      · cases h; decide
      · split at h
        · cases h; decide
        · cases h
  · split at h
    · dsimp only at h
      split at h
      · cases h; omega
      · cases h
    · dsimp only at h
      split at h
      · cases h; omega
      · cases h
theorem cv_c {ad ad' : Nat → Nat} {ca : Nat → ClassId} (had : ∀ k, k < 1000000 → ad k = ad' k) {lg : Nat → Int64} {r : Nat → Int32} {k : Nat} : am_c ad ca (zcell lg r k) = am_c ad' ca (zcell lg r k) := by
  have eg : (fun i => (zrg k i).map ad) = fun i => (zrg k i).map ad' := by
    funext i
    cases hz : zrg k i with
    | none => rfl
    | some x =>
      have := cv_rg hz
      show some (ad x) = some (ad' x)
      rw [had x (by omega)]
  have ef : ∀ ci, (zfs r k ci).map (am_v ad) = (zfs r k ci).map (am_v ad') := by
    intro ci
    unfold zfs
    rw [List.map_map, List.map_map]
    refine List.map_congr_left (fun f _ => ?_)
    show am_v ad (if zft ci f = 200 then .int (r f) else .ref (zrf k f)) = am_v ad' (if zft ci f = 200 then .int (r f) else .ref (zrf k f))
    split
    · rfl
    · have := cv_rf' (k := k) (f := f)
      show Value.ref (ad _) = Value.ref (ad' _)
      rw [had _ (by omega)]
  unfold zcell
  split
  · rfl
  · split
    · rfl
    · split
      · rfl
      · split
        · show Sum.inl _ = Sum.inl _
          rw [eg]
        · split
          · show Sum.inl _ = Sum.inl _
            rw [eg]
          · show Sum.inr _ = Sum.inr _
            rw [ef]
theorem cv_ws {ad ad' : Nat → Nat} {ca : Nat → ClassId} (had : ∀ k, k < 1000000 → ad k = ad' k) {lg : Nat → Int64} {s : zS} : am_ws ad ca (zmk lg s) = am_ws ad' ca (zmk lg s) := by
  refine List.ext_getElem? (fun i => ?_)
  unfold am_ws
  rw [List.getElem?_mapIdx, List.getElem?_mapIdx]
  by_cases hi : i < 226
  · rw [zmk_get hi]
    show some (ad i, am_c ad ca _) = some (ad' i, am_c ad' ca _)
    rw [had i (by omega), cv_c had]
  · rw [List.getElem?_eq_none (by rw [zmk_len]; omega)]
    rfl
theorem cv_Ct {K : cx_K} {ad : Nat → Nat} (had : ∀ k, k < 1000000 → ad k = K.2.1 k) {y g : Nat} {x1 x2 : Int32} {lg lg' : Nat → Int64} {s s' : zS} {o : am_O} (ho : (∃ r, o = .inl (some (.int r))) ∨ ∃ E, o = .inr E) (h : Ct (cv_K K ad) y [.ref 0, .int x1, .int x2] (zmk lg s) o (zmk lg' s') g) : Ct K y [.ref 0, .int x1, .int x2] (zmk lg s) o (zmk lg' s') g := by
  have had' : ∀ k, k < 1000000 → K.2.1 k = ad k := fun k hk => (had k hk).symm
  have e1 : am_ws K.2.1 K.2.2.1 (zmk lg s) = am_ws ad K.2.2.1 (zmk lg s) := cv_ws had'
  have e2 : am_ws K.2.1 K.2.2.1 (zmk lg' s') = am_ws ad K.2.2.1 (zmk lg' s') := cv_ws had'
  have e3 : am_Pc K.2.2.2.1 nd_cl K.2.2.2.2.2.1 K.2.1 K.2.2.1 K.2.2.2.2.1 K.2.2.2.2.2.2.1 [.ref 0, .int x1, .int x2] (zmk lg s) = am_Pc K.2.2.2.1 nd_cl K.2.2.2.2.2.1 ad K.2.2.1 K.2.2.2.2.1 K.2.2.2.2.2.2.1 [.ref 0, .int x1, .int x2] (zmk lg s) := by
    funext v U
    unfold am_Pc
    rw [e1]
    have e0 : ([.ref 0, .int x1, .int x2] : List Value).map (am_v K.2.1) = ([.ref 0, .int x1, .int x2] : List Value).map (am_v ad) := by
      show [Value.ref (K.2.1 0), _, _] = [Value.ref (ad 0), _, _]
      rw [had' 0 (by decide)]
      rfl
    rw [e0]
  have e4 : am_Qx K.2.2.2.1 nd_cl K.2.1 K.2.2.1 K.2.2.2.2.1 o (zmk lg' s') = am_Qx K.2.2.2.1 nd_cl ad K.2.2.1 K.2.2.2.2.1 o (zmk lg' s') := by
    funext v st oc t
    unfold am_Qx
    rw [e2]
    rcases ho with ⟨r, rfl⟩ | ⟨E, rfl⟩
    · rfl
    · rfl
  obtain ⟨h1, h2⟩ := h
  refine ⟨?_, ?_⟩
  · rw [e3, e4]
    exact h1
  · rw [e2]
    exact h2
/-- the String constants, somewhere -/
def hx_sT (K : cx_K) : Prop := ∃ ad : Nat → Nat, (∀ k, k < 1000000 → ad k = K.2.1 k) ∧ hx_st (cv_K K ad)
theorem zf115_okT {K : cx_K} (hK : Kok K) (hT : hx_sT K) {lg : Nat → Int64} {x1 x2 : Int32} {s s' : zS} {o : am_O} {g : Nat} (ho : (∃ r, o = .inl (some (.int r))) ∨ ∃ E, o = .inr E) (h : zf115 0 x1 x2 s = some (o, s', g)) : Ct K 115 [.ref 0, .int x1, .int x2] (zmk lg s) o (zmk lg s') g := by
  obtain ⟨ad, had, hst⟩ := hT
  exact cv_Ct had ho (zf115_ok (K := cv_K K ad) (lg := lg) (cv_ok hK had) hst rfl h)
theorem zH_emit {K : cx_K} (hK : Kok K) (hno : hx_no K) (hT : hx_sT K) {lg : Nat → Int64} {s : zS} {Q : zS → Prop} {a1 a2 : Int32} (h : zAH (zf115 0 a1 a2 s) [0, 2, 3] (zf227 179 a1 a2) Q) : opH K ⟨"PaperParcelsLaw", "emit", "(LPaperParcels;II[J)I"⟩ method_13_code 5 [(0, 10, 13, 13), (0, 10, 17, 41), (0, 10, 21, 53)] 227 [.int a1, .int a2] (zmk lg s) (zP Q) := by
  rcases h with ⟨r, s1, s2, h1, h2, h3, h4⟩ | ⟨j, k, b, s1, s2, hj, h1, h2, h3, h4⟩
  · have e1 := hg_emit (f := lg) hK zlo_c (zf115_okT (lg := lg) hK hT (Or.inl ⟨_, rfl⟩) h1) zget_l zlen_le
    rw [zset_l] at e1
    refine ⟨0, r, _, _, _, 0, Nat.zero_le _, e1, zlo_m, zf227_ok hK rfl h2, zlo_m, zf147_ok (lg := vp_updL lg 0 r.toInt64) (s := s2) hK rfl (by rw [z147, h3]), fun _ => ⟨_, zget_l, rfl⟩, _, s2, rfl, h4⟩
  · rcases j with _ | j
    · cases hj
      exact ⟨1, b, _, _, _, 1, Nat.le_refl _, hb_emit_1 hK hno zlo_c (zf115_okT (lg := lg) hK hT (Or.inr ⟨_, rfl⟩) h1), zlo_m, zf227_ok hK rfl h2, zlo_m, zf147_ok (lg := lg) (s := s2) hK rfl (by rw [z147, h3]; rfl), fun e => absurd e (by decide), _, s2, rfl, h4⟩
    rcases j with _ | j
    · cases hj
      exact ⟨2, b, _, _, _, 1, Nat.le_refl _, hb_emit_2 hK hno zlo_c (zf115_okT (lg := lg) hK hT (Or.inr ⟨_, rfl⟩) h1), zlo_m, zf227_ok hK rfl h2, zlo_m, zf147_ok (lg := lg) (s := s2) hK rfl (by rw [z147, h3]; rfl), fun e => absurd e (by decide), _, s2, rfl, h4⟩
    rcases j with _ | j
    · cases hj
      exact ⟨3, b, _, _, _, 1, Nat.le_refl _, hb_emit_3 hK hno zlo_c (zf115_okT (lg := lg) hK hT (Or.inr ⟨_, rfl⟩) h1), zlo_m, zf227_ok hK rfl h2, zlo_m, zf147_ok (lg := lg) (s := s2) hK rfl (by rw [z147, h3]; rfl), fun e => absurd e (by decide), _, s2, rfl, h4⟩
    cases hj
/-- the invariant at the start -/
theorem zIv_s0 : zIv zs0 := by
  have hW : zWf [] := fun j hj => absurd hj (Nat.not_lt_zero _)
  have hR : ∀ r, zs0 r 1 = 0 → zRow r zs0 [] := fun r h => ⟨h, Nat.zero_le _, fun j hj => absurd hj (Nat.not_lt_zero _)⟩
  have hd : ∀ q i, zs0 q 6 = 0 → zs0 (q + 6) 1 = 0 → zs0 195 i = 0 → zs0 201 i = 0 → zDo q i zs0 [] := fun q i h1 h2 h3 h4 => ⟨⟨h1, Nat.zero_le _, hR _ h2, fun j hj => absurd hj (Nat.not_lt_zero _)⟩, ⟨h3, Nat.zero_le _, h4, Nat.zero_le _, fun k hk => absurd hk (Nat.not_lt_zero _), fun j hj => absurd hj (Nat.not_lt_zero _)⟩, hW⟩
  have hwd : zWd [] := ⟨fun _ => 0, fun j a h => absurd (zab_lt h) (Nat.not_lt_zero _), fun _ => Nat.zero_le _⟩
  refine ⟨[], [], [], [], ⟨hR 1 rfl, ⟨rfl, Nat.zero_le _, fun j hj => absurd hj (Nat.not_lt_zero _)⟩, fun c hc => absurd hc List.not_mem_nil⟩, ⟨hd 4 0 rfl rfl rfl rfl, hd 12 1 rfl rfl rfl rfl, hd 20 2 rfl rfl rfl rfl, hwd, hwd⟩, rfl, ⟨rfl, rfl⟩, Or.inl ⟨rfl, rfl, rfl⟩⟩
/-- class and model answer alike, call by call -/
def lq_All2 (N : Nat) : Prop := ∀ K : cx_K, Kok K → hx_no K → hx_sT K → ∃ P : Nat → List va_E → Prop, P 0 hp_0 ∧ ∀ n h, 4 * n + 4 ≤ N → P n h → lx_Ops K h (P (n + 1))
theorem lq_ops {K : cx_K} (hK : Kok K) (hno : hx_no K) (hT : hx_sT K) {lg : Nat → Int64} {s : zS} (hI : zIv s) : lx_Ops K (zmk lg s) (zP zIv) := by
  have hI0 := hI
  have hp := zIv_Ps hI
  obtain ⟨m, hsc⟩ := zIv_Sc hI
  obtain ⟨T, A, B, D, hT1, _, hpl, _, _⟩ := hI
  have tt : ∀ t, zT s t → zIv t := fun t ht => zIv_T hI0 ht
  obtain ⟨n0, t0, q0⟩ := hp 4 0 (Or.inl ⟨rfl, rfl⟩)
  obtain ⟨n1, t1, q1⟩ := hp 12 1 (Or.inr (Or.inl ⟨rfl, rfl⟩))
  obtain ⟨n2, t2, q2⟩ := hp 20 2 (Or.inr (Or.inr ⟨rfl, rfl⟩))
  refine ⟨⟨lg, s, rfl, hI0⟩, fun v => ?_, ?_, ?_, fun a1 => ?_, fun a1 => ?_, ?_, fun a1 => ?_, fun a1 a2 => ?_, fun a1 a2 => ?_, fun a1 a2 a3 => ?_, fun a1 a2 => ?_, fun a1 a2 a3 => ?_, ?_, ?_, fun a1 bb _ => ?_, fun a1 => ?_, fun a1 a2 => ?_⟩
  · exact zop2 (fun _ _ hF => zf12_ok hK rfl hF) (fun _ _ _ hF => zf148_ok hK rfl hF) (zA2_m (z_write hT1 v) (fun t ht => by obtain ⟨h1, T', h2⟩ := ht; exact zIv_X hI0 h1 h2))
  · exact zop2 (fun _ _ hF => zf14_ok hK rfl hF) (fun _ _ _ hF => zf149_ok hK rfl hF) (zA2_m (z_wipe hT1) (fun t ht => zIv_X hI0 ht.1 ht.2))
  · exact zop2 (fun _ _ hF => zf16_ok hK rfl hF) (fun _ _ _ hF => zf150_ok hK rfl hF) (zA2_m (z_length hT1) tt)
  · exact zop2 (fun _ _ hF => zf17_ok hK rfl hF) (fun _ _ _ hF => zf151_ok hK rfl hF) (zA2_m (z_character hT1 a1) tt)
  · exact zH_read hK hno (i_read hI0 a1)
  · exact zop2 (fun _ _ hF => zf19_ok hK rfl hF) (fun _ _ _ hF => zf200_ok hK rfl hF) (zA2_m (z_place hpl) tt)
  · exact zH_nodes hK hno (zAH_m (z_nodes q0 q1 q2 a1) tt)
  · exact zH_kind hK hno (zAH_m (z_kind hp a1 a2) tt)
  · exact zH_above hK hno (zAH_m (z_above hp a1 a2) tt)
  · exact zH_look hK hno (zAH_m (z_look hp a1 a2 a3) tt)
  · exact zH_letters hK hno (zAH_m (z_letters hp a1 a2) tt)
  · exact zH_letter hK hno (zAH_m (z_letter hp a1 a2 a3) tt)
  · exact zH_compare hK hno (i_compare hI0)
  · exact zop2 (fun _ _ hF => zf20_ok hK rfl hF) (fun _ _ _ hF => zf220_ok hK rfl hF) (zA2_m (z_steps hsc) tt)
  · exact zH_step hK hno (zAH_m (z_step hsc a1 bb) tt)
  · exact zH_apply hK hno (i_apply hI0 a1)
  · exact zH_emit hK hno hT (i_emit hI0 a1 a2)
theorem lq_2048 : lq_All2 2048 := by
  intro K hK hno hT
  refine ⟨fun _ => zP zIv, ⟨fun _ => 0, zs0, zmk_0.symm, zIv_s0⟩, fun n h _ hP => ?_⟩
  obtain ⟨lg, s, rfl, hI⟩ := hP
  exact lq_ops hK hno hT hI
/-! The String constants at the law's entry. -/
theorem vk_S_congr {N : Nat} {len : List Nat} {byt : List (List Int32)} {k1 v1 k2 v2 : Nat → Nat} {A : Nat → Prop} {U : State} {H : Heap} (e : ∀ i, i < N → k1 i = k2 i ∧ v1 i = v2 i) (h : vk_S N len byt k1 v1 A U H) : vk_S N len byt k2 v2 A U H := by
  refine ⟨fun i hi => ?_, fun i j hi hj q => ?_⟩
  · rw [← (e i hi).1, ← (e i hi).2]
    exact h.1 i hi
  · rw [← (e i hi).1, ← (e j hj).1] at q
    exact h.2 i j hi hj q
def js_tm (i : Nat) : Term := .string "PaperParcels$Emitter" (js_ix.getD i 0)
def js_va (i : Nat) : Term := .field (js_tm i) "java/lang/String" "value" "[B"
def js_ps : List Nat := [1083, 1137, 1149, 1143, 1145, 1146, 1147, 1148, 1163, 1173, 1162]
theorem js_in1 : ∀ i, i < 11 → lw_tbl[js_ps.getD i 0]? = some (Cond.stringRef "PaperParcels$Emitter" (js_ix.getD i 0) (js_tx.getD i "")) := by decide +kernel
theorem js_lt : ∀ i, i < 11 → js_len.getD i 0 < 2 ^ 31 := by decide

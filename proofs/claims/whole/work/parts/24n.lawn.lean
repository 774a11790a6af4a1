/-! The law's blocks (printed by wip/gen/ops.py). -/
set_option maxRecDepth 100000
section LO
variable {p : Program} {l : Launch} {e : Env} {s : State} {m : MethodId} {below : List Frame} {meth : Method} {c : Code} {b L : Nat} {xs : Nat → Int32} {D : va_G} {ca : Nat → ClassId}
theorem lo_0 (hC : lx_C p l s m meth c b L xs D ca) {i : Int32} {kv bv : Option Value} {h : List va_E} {g : Nat} {P : List va_E → Prop} (hg : g + 1 ≤ 600000) (v1 : vp_in (i + 1) L) (v2 : vp_in (i + 2) L) (ho : op2 (lx_K l s b D ca) 12 148 [.long ((xs (i + 1).toNatClampNeg).toInt64 <<< ((32 : Int32).toInt64 &&& 63) ||| (xs (i + 2).toNatClampNeg).toInt64 &&& 4294967295)] h P) (kk : ∀ h', P h' → lx_W p l e s m below meth c b D ca (982, [some (.ref 1000000), some (.ref 0), some (.ref 179), some (.ref 225), some (.int i), kv, bv], [], h') g) : lx_W p l e s m below meth c b D ca (120, [some (.ref 1000000), some (.ref 0), some (.ref 179), some (.ref 225), some (.int i), kv, bv], [], h) g := by
  obtain ⟨⟨fs, hcc⟩, r, h1, h2, c1, ⟨fs1, hm1⟩, c2, cp⟩ := ho
  refine lx_p hC lx_i0_ok 5 (c' := (126, [some (.ref 1000000), some (.ref 0), some (.ref 179), some (.ref 225), some (.int i), kv, bv], [.int (i + 1), .ref 1000000, .ref 0])) rfl ?_
  refine lx_ld hC lx_i0_ok rfl v1 ?_
  refine lx_p hC lx_i0_ok 7 (c' := (136, [some (.ref 1000000), some (.ref 0), some (.ref 179), some (.ref 225), some (.int i), kv, bv], [.int (i + 2), .ref 1000000, .long ((xs (i + 1).toNatClampNeg).toInt64 <<< ((32 : Int32).toInt64 &&& 63)), .ref 0])) rfl ?_
  refine lx_ld hC lx_i0_ok rfl v2 ?_
  refine lx_p hC lx_i0_ok 1 (c' := (138, [some (.ref 1000000), some (.ref 0), some (.ref 179), some (.ref 225), some (.int i), kv, bv], [.long (xs (i + 2).toNatClampNeg).toInt64, .long ((xs (i + 1).toNatClampNeg).toInt64 <<< ((32 : Int32).toInt64 &&& 63)), .ref 0])) rfl ?_
  refine lx_n1 hC lx_i0_ok (S' := (141, [some (.ref 1000000), some (.ref 0), some (.ref 179), some (.ref 225), some (.int i), kv, bv], [.long 4294967295, .long (xs (i + 2).toNatClampNeg).toInt64, .long ((xs (i + 1).toNatClampNeg).toInt64 <<< ((32 : Int32).toInt64 &&& 63)), .ref 0], h)) rfl ?_
  refine lx_p hC lx_i0_ok 2 (c' := (143, [some (.ref 1000000), some (.ref 0), some (.ref 179), some (.ref 225), some (.int i), kv, bv], [.long (((xs (i + 1).toNatClampNeg).toInt64 <<< ((32 : Int32).toInt64 &&& 63)) ||| ((xs (i + 2).toNatClampNeg).toInt64 &&& 4294967295)), .ref 0])) rfl ?_
  refine lx_call hC lx_i0_ok (am_site_v (ix := 61) (y := 12) (k := 2) (ci := 0) rfl rfl (am_rcv_v rfl hcc)) (Nat.le_of_ble_eq_true rfl) (Nat.le_of_ble_eq_true rfl) (by omega) c1 ?_
  refine lx_p hC lx_i0_ok 5 (c' := (152, [some (.ref 1000000), some (.ref 0), some (.ref 179), some (.ref 225), some (.int i), kv, bv], [.int (i + 1), .ref 1000000, .ref 179, .int r])) rfl ?_
  refine lx_ld hC lx_i0_ok rfl v1 ?_
  refine lx_p hC lx_i0_ok 7 (c' := (162, [some (.ref 1000000), some (.ref 0), some (.ref 179), some (.ref 225), some (.int i), kv, bv], [.int (i + 2), .ref 1000000, .long ((xs (i + 1).toNatClampNeg).toInt64 <<< ((32 : Int32).toInt64 &&& 63)), .ref 179, .int r])) rfl ?_
  refine lx_ld hC lx_i0_ok rfl v2 ?_
  refine lx_p hC lx_i0_ok 1 (c' := (164, [some (.ref 1000000), some (.ref 0), some (.ref 179), some (.ref 225), some (.int i), kv, bv], [.long (xs (i + 2).toNatClampNeg).toInt64, .long ((xs (i + 1).toNatClampNeg).toInt64 <<< ((32 : Int32).toInt64 &&& 63)), .ref 179, .int r])) rfl ?_
  refine lx_n1 hC lx_i0_ok (S' := (167, [some (.ref 1000000), some (.ref 0), some (.ref 179), some (.ref 225), some (.int i), kv, bv], [.long 4294967295, .long (xs (i + 2).toNatClampNeg).toInt64, .long ((xs (i + 1).toNatClampNeg).toInt64 <<< ((32 : Int32).toInt64 &&& 63)), .ref 179, .int r], h1)) rfl ?_
  refine lx_p hC lx_i0_ok 2 (c' := (169, [some (.ref 1000000), some (.ref 0), some (.ref 179), some (.ref 225), some (.int i), kv, bv], [.long (((xs (i + 1).toNatClampNeg).toInt64 <<< ((32 : Int32).toInt64 &&& 63)) ||| ((xs (i + 2).toNatClampNeg).toInt64 &&& 4294967295)), .ref 179, .int r])) rfl ?_
  refine lx_call hC lx_i0_ok (am_site_v (ix := 65) (y := 148) (k := 2) (ci := 11) rfl rfl (am_rcv_v rfl hm1)) (Nat.le_of_ble_eq_true rfl) (Nat.le_of_ble_eq_true rfl) (by omega) c2 ?_
  refine lx_b hC lx_i0_ok (q := r = r) rfl rfl (fun _ => ?_) (fun hq => absurd rfl hq)
  exact kk _ cp
theorem lo_1 (hC : lx_C p l s m meth c b L xs D ca) {i : Int32} {kv bv : Option Value} {h : List va_E} {g : Nat} {P : List va_E → Prop} (hg : g + 1 ≤ 600000)  (ho : op2 (lx_K l s b D ca) 14 149 [] h P) (kk : ∀ h', P h' → lx_W p l e s m below meth c b D ca (982, [some (.ref 1000000), some (.ref 0), some (.ref 179), some (.ref 225), some (.int i), kv, bv], [], h') g) : lx_W p l e s m below meth c b D ca (177, [some (.ref 1000000), some (.ref 0), some (.ref 179), some (.ref 225), some (.int i), kv, bv], [], h) g := by
  obtain ⟨⟨fs, hcc⟩, r, h1, h2, c1, ⟨fs1, hm1⟩, c2, cp⟩ := ho
  refine lx_p hC lx_i1_ok 1 (c' := (178, [some (.ref 1000000), some (.ref 0), some (.ref 179), some (.ref 225), some (.int i), kv, bv], [.ref 0])) rfl ?_
  refine lx_call hC lx_i1_ok (am_site_v (ix := 66) (y := 14) (k := 1) (ci := 0) rfl rfl (am_rcv_v rfl hcc)) (Nat.le_of_ble_eq_true rfl) (Nat.le_of_ble_eq_true rfl) (by omega) c1 ?_
  refine lx_p hC lx_i1_ok 1 (c' := (182, [some (.ref 1000000), some (.ref 0), some (.ref 179), some (.ref 225), some (.int i), kv, bv], [.ref 179, .int r])) rfl ?_
  refine lx_call hC lx_i1_ok (am_site_v (ix := 69) (y := 149) (k := 1) (ci := 11) rfl rfl (am_rcv_v rfl hm1)) (Nat.le_of_ble_eq_true rfl) (Nat.le_of_ble_eq_true rfl) (by omega) c2 ?_
  refine lx_b hC lx_i1_ok (q := r = r) rfl rfl (fun _ => ?_) (fun hq => absurd rfl hq)
  exact kk _ cp
theorem lo_2 (hC : lx_C p l s m meth c b L xs D ca) {i : Int32} {kv bv : Option Value} {h : List va_E} {g : Nat} {P : List va_E → Prop} (hg : g + 1 ≤ 600000)  (ho : op2 (lx_K l s b D ca) 16 150 [] h P) (kk : ∀ h', P h' → lx_W p l e s m below meth c b D ca (982, [some (.ref 1000000), some (.ref 0), some (.ref 179), some (.ref 225), some (.int i), kv, bv], [], h') g) : lx_W p l e s m below meth c b D ca (190, [some (.ref 1000000), some (.ref 0), some (.ref 179), some (.ref 225), some (.int i), kv, bv], [], h) g := by
  obtain ⟨⟨fs, hcc⟩, r, h1, h2, c1, ⟨fs1, hm1⟩, c2, cp⟩ := ho
  refine lx_p hC lx_i2_ok 1 (c' := (191, [some (.ref 1000000), some (.ref 0), some (.ref 179), some (.ref 225), some (.int i), kv, bv], [.ref 0])) rfl ?_
  refine lx_call hC lx_i2_ok (am_site_v (ix := 70) (y := 16) (k := 1) (ci := 0) rfl rfl (am_rcv_v rfl hcc)) (Nat.le_of_ble_eq_true rfl) (Nat.le_of_ble_eq_true rfl) (by omega) c1 ?_
  refine lx_p hC lx_i2_ok 1 (c' := (195, [some (.ref 1000000), some (.ref 0), some (.ref 179), some (.ref 225), some (.int i), kv, bv], [.ref 179, .int r])) rfl ?_
  refine lx_call hC lx_i2_ok (am_site_v (ix := 73) (y := 150) (k := 1) (ci := 11) rfl rfl (am_rcv_v rfl hm1)) (Nat.le_of_ble_eq_true rfl) (Nat.le_of_ble_eq_true rfl) (by omega) c2 ?_
  refine lx_b hC lx_i2_ok (q := r = r) rfl rfl (fun _ => ?_) (fun hq => absurd rfl hq)
  exact kk _ cp
theorem lo_3 (hC : lx_C p l s m meth c b L xs D ca) {i : Int32} {kv bv : Option Value} {h : List va_E} {g : Nat} {P : List va_E → Prop} (hg : g + 1 ≤ 600000) (v1 : vp_in (i + 1) L) (ho : op2 (lx_K l s b D ca) 17 151 [.int (xs (i + 1).toNatClampNeg)] h P) (kk : ∀ h', P h' → lx_W p l e s m below meth c b D ca (982, [some (.ref 1000000), some (.ref 0), some (.ref 179), some (.ref 225), some (.int i), kv, bv], [], h') g) : lx_W p l e s m below meth c b D ca (203, [some (.ref 1000000), some (.ref 0), some (.ref 179), some (.ref 225), some (.int i), kv, bv], [], h) g := by
  obtain ⟨⟨fs, hcc⟩, r, h1, h2, c1, ⟨fs1, hm1⟩, c2, cp⟩ := ho
  refine lx_p hC lx_i3_ok 5 (c' := (209, [some (.ref 1000000), some (.ref 0), some (.ref 179), some (.ref 225), some (.int i), kv, bv], [.int (i + 1), .ref 1000000, .ref 0])) rfl ?_
  refine lx_ld hC lx_i3_ok rfl v1 ?_
  refine lx_call hC lx_i3_ok (am_site_v (ix := 74) (y := 17) (k := 2) (ci := 0) rfl rfl (am_rcv_v rfl hcc)) (Nat.le_of_ble_eq_true rfl) (Nat.le_of_ble_eq_true rfl) (by omega) c1 ?_
  refine lx_p hC lx_i3_ok 5 (c' := (219, [some (.ref 1000000), some (.ref 0), some (.ref 179), some (.ref 225), some (.int i), kv, bv], [.int (i + 1), .ref 1000000, .ref 179, .int r])) rfl ?_
  refine lx_ld hC lx_i3_ok rfl v1 ?_
  refine lx_call hC lx_i3_ok (am_site_v (ix := 77) (y := 151) (k := 2) (ci := 11) rfl rfl (am_rcv_v rfl hm1)) (Nat.le_of_ble_eq_true rfl) (Nat.le_of_ble_eq_true rfl) (by omega) c2 ?_
  refine lx_b hC lx_i3_ok (q := r = r) rfl rfl (fun _ => ?_) (fun hq => absurd rfl hq)
  exact kk _ cp
theorem lo_4 (hC : lx_C p l s m meth c b L xs D ca) {i : Int32} {kv bv : Option Value} {h : List va_E} {g : Nat} {P : List va_E → Prop} (hg : g + 1 ≤ 600000) (v1 : vp_in (i + 1) L) (ho : opH (lx_K l s b D ca) ⟨"PaperParcelsLaw", "read", "(LPaperParcels;I[J)I"⟩ method_3_code 4 [(0, 9, 12, 13)] 152 [.int (xs (i + 1).toNatClampNeg)] h P) (kk : ∀ h' k' b' g', g' ≤ g + 1 → P h' → lx_W p l e s m below meth c b D ca (982, [some (.ref 1000000), some (.ref 0), some (.ref 179), some (.ref 225), some (.int i), k', b'], [], h') g') : lx_W p l e s m below meth c b D ca (228, [some (.ref 1000000), some (.ref 0), some (.ref 179), some (.ref 225), some (.int i), kv, bv], [], h) g := by
  obtain ⟨k0, b0, h1, h2, h3, g1, hg1, ch, ⟨fs1, hm1⟩, c2, ⟨fs2, hm2⟩, c3, ho, cp⟩ := ho
  refine lx_p hC lx_i4_ok 5 (c' := (234, [some (.ref 1000000), some (.ref 0), some (.ref 179), some (.ref 225), some (.int i), kv, bv], [.int (i + 1), .ref 1000000, .ref 0])) rfl ?_
  refine lx_ld hC lx_i4_ok rfl v1 ?_
  refine lx_p hC lx_i4_ok 1 (c' := (236, [some (.ref 1000000), some (.ref 0), some (.ref 179), some (.ref 225), some (.int i), kv, bv], [.ref 225, .int (xs (i + 1).toNatClampNeg), .ref 0])) rfl ?_
  refine lx_help hC lx_i4_ok (ix := 78) (n := 3) (maxL := 4) (y := ⟨"PaperParcelsLaw", "read", "(LPaperParcels;I[J)I"⟩) (bytes := method_3_code) (hh := [(0, 9, 12, 13)]) rfl lo_w_read.1 lo_w_ini lo_w_read.2.1 lo_w_read.2.2 ⟨by decide +kernel, by decide +kernel⟩ (by decide +kernel) (Nat.le_of_ble_eq_true rfl) rfl (by omega) ch ?_
  refine lx_p hC lx_i4_ok 6 (c' := (247, [some (.ref 1000000), some (.ref 0), some (.ref 179), some (.ref 225), some (.int i), some (.int k0), bv], [.int (i + 1), .ref 1000000, .ref 179])) rfl ?_
  refine lx_ld hC lx_i4_ok rfl v1 ?_
  refine lx_call hC lx_i4_ok (am_site_v (ix := 83) (y := 152) (k := 2) (ci := 11) rfl rfl (am_rcv_v rfl hm1)) (Nat.le_of_ble_eq_true rfl) (Nat.le_of_ble_eq_true rfl) (by omega) c2 ?_
  refine lx_p hC lx_i4_ok 2 (c' := (254, [some (.ref 1000000), some (.ref 0), some (.ref 179), some (.ref 225), some (.int i), some (.int k0), some (.int b0)], [.ref 179])) rfl ?_
  refine lx_call hC lx_i4_ok (am_site_v (ix := 84) (y := 147) (k := 1) (ci := 11) rfl rfl (am_rcv_v rfl hm2)) (Nat.le_of_ble_eq_true rfl) (Nat.le_of_ble_eq_true rfl) (by omega) c3 ?_
  refine lx_p hC lx_i4_ok 1 (c' := (259, [some (.ref 1000000), some (.ref 0), some (.ref 179), some (.ref 225), some (.int i), some (.int k0), some (.int b0)], [.int k0, .int k0])) rfl ?_
  refine lx_b hC lx_i4_ok (q := k0 = k0) rfl rfl (fun _ => ?_) (fun hq => absurd rfl hq)
  refine lx_p hC lx_i4_ok 1 (c' := (266, [some (.ref 1000000), some (.ref 0), some (.ref 179), some (.ref 225), some (.int i), some (.int k0), some (.int b0)], [.int k0])) rfl ?_
  refine lx_b hC lx_i4_ok (q := ¬ k0 = 0) rfl rfl (fun _ => lx_p hC lx_i4_ok 1 (c' := (982, [some (.ref 1000000), some (.ref 0), some (.ref 179), some (.ref 225), some (.int i), some (.int k0), some (.int b0)], [])) rfl (kk _ _ _ _ (by omega) cp)) (fun hq => ?_)
  obtain ⟨f, hf1, hf2⟩ := ho (Decidable.not_not.mp hq)
  refine lx_p hC lx_i4_ok 2 (c' := (271, [some (.ref 1000000), some (.ref 0), some (.ref 179), some (.ref 225), some (.int i), some (.int k0), some (.int b0)], [.int 0, .ref 225])) rfl ?_
  refine lx_n1 hC lx_i4_ok (am_n_lald rfl hf1 (by decide)) ?_
  refine lx_p hC lx_i4_ok 3 (c' := (276, [some (.ref 1000000), some (.ref 0), some (.ref 179), some (.ref 225), some (.int i), some (.int k0), some (.int b0)], [.int (lg_cmp (f 0) b0.toInt64)])) rfl ?_
  refine lx_b hC lx_i4_ok (q := (lg_cmp (f 0) b0.toInt64) = 0) rfl rfl (fun _ => ?_) (fun hq => absurd (by rw [hf2]; exact lo_cmp _) hq)
  refine lx_p hC lx_i4_ok 1 (c' := (982, [some (.ref 1000000), some (.ref 0), some (.ref 179), some (.ref 225), some (.int i), some (.int k0), some (.int b0)], [])) rfl ?_
  exact kk _ _ _ _ (by omega) cp
theorem lo_5 (hC : lx_C p l s m meth c b L xs D ca) {i : Int32} {kv bv : Option Value} {h : List va_E} {g : Nat} {P : List va_E → Prop} (hg : g + 1 ≤ 600000)  (ho : op2 (lx_K l s b D ca) 19 200 [] h P) (kk : ∀ h', P h' → lx_W p l e s m below meth c b D ca (982, [some (.ref 1000000), some (.ref 0), some (.ref 179), some (.ref 225), some (.int i), kv, bv], [], h') g) : lx_W p l e s m below meth c b D ca (284, [some (.ref 1000000), some (.ref 0), some (.ref 179), some (.ref 225), some (.int i), kv, bv], [], h) g := by
  obtain ⟨⟨fs, hcc⟩, r, h1, h2, c1, ⟨fs1, hm1⟩, c2, cp⟩ := ho
  refine lx_p hC lx_i5_ok 1 (c' := (285, [some (.ref 1000000), some (.ref 0), some (.ref 179), some (.ref 225), some (.int i), kv, bv], [.ref 0])) rfl ?_
  refine lx_call hC lx_i5_ok (am_site_v (ix := 87) (y := 19) (k := 1) (ci := 0) rfl rfl (am_rcv_v rfl hcc)) (Nat.le_of_ble_eq_true rfl) (Nat.le_of_ble_eq_true rfl) (by omega) c1 ?_
  refine lx_p hC lx_i5_ok 1 (c' := (289, [some (.ref 1000000), some (.ref 0), some (.ref 179), some (.ref 225), some (.int i), kv, bv], [.ref 179, .int r])) rfl ?_
  refine lx_call hC lx_i5_ok (am_site_v (ix := 90) (y := 200) (k := 1) (ci := 11) rfl rfl (am_rcv_v rfl hm1)) (Nat.le_of_ble_eq_true rfl) (Nat.le_of_ble_eq_true rfl) (by omega) c2 ?_
  refine lx_b hC lx_i5_ok (q := r = r) rfl rfl (fun _ => ?_) (fun hq => absurd rfl hq)
  exact kk _ cp
theorem lo_6 (hC : lx_C p l s m meth c b L xs D ca) {i : Int32} {kv bv : Option Value} {h : List va_E} {g : Nat} {P : List va_E → Prop} (hg : g + 1 ≤ 600000) (v1 : vp_in (i + 1) L) (ho : opH (lx_K l s b D ca) ⟨"PaperParcelsLaw", "nodes", "(LPaperParcels;I[J)I"⟩ method_4_code 4 [(0, 9, 12, 13)] 201 [.int (xs (i + 1).toNatClampNeg)] h P) (kk : ∀ h' k' b' g', g' ≤ g + 1 → P h' → lx_W p l e s m below meth c b D ca (982, [some (.ref 1000000), some (.ref 0), some (.ref 179), some (.ref 225), some (.int i), k', b'], [], h') g') : lx_W p l e s m below meth c b D ca (297, [some (.ref 1000000), some (.ref 0), some (.ref 179), some (.ref 225), some (.int i), kv, bv], [], h) g := by
  obtain ⟨k0, b0, h1, h2, h3, g1, hg1, ch, ⟨fs1, hm1⟩, c2, ⟨fs2, hm2⟩, c3, ho, cp⟩ := ho
  refine lx_p hC lx_i6_ok 5 (c' := (303, [some (.ref 1000000), some (.ref 0), some (.ref 179), some (.ref 225), some (.int i), kv, bv], [.int (i + 1), .ref 1000000, .ref 0])) rfl ?_
  refine lx_ld hC lx_i6_ok rfl v1 ?_
  refine lx_p hC lx_i6_ok 1 (c' := (305, [some (.ref 1000000), some (.ref 0), some (.ref 179), some (.ref 225), some (.int i), kv, bv], [.ref 225, .int (xs (i + 1).toNatClampNeg), .ref 0])) rfl ?_
  refine lx_help hC lx_i6_ok (ix := 91) (n := 3) (maxL := 4) (y := ⟨"PaperParcelsLaw", "nodes", "(LPaperParcels;I[J)I"⟩) (bytes := method_4_code) (hh := [(0, 9, 12, 13)]) rfl lo_w_nodes.1 lo_w_ini lo_w_nodes.2.1 lo_w_nodes.2.2 ⟨by decide +kernel, by decide +kernel⟩ (by decide +kernel) (Nat.le_of_ble_eq_true rfl) rfl (by omega) ch ?_
  refine lx_p hC lx_i6_ok 6 (c' := (316, [some (.ref 1000000), some (.ref 0), some (.ref 179), some (.ref 225), some (.int i), some (.int k0), bv], [.int (i + 1), .ref 1000000, .ref 179])) rfl ?_
  refine lx_ld hC lx_i6_ok rfl v1 ?_
  refine lx_call hC lx_i6_ok (am_site_v (ix := 93) (y := 201) (k := 2) (ci := 11) rfl rfl (am_rcv_v rfl hm1)) (Nat.le_of_ble_eq_true rfl) (Nat.le_of_ble_eq_true rfl) (by omega) c2 ?_
  refine lx_p hC lx_i6_ok 2 (c' := (323, [some (.ref 1000000), some (.ref 0), some (.ref 179), some (.ref 225), some (.int i), some (.int k0), some (.int b0)], [.ref 179])) rfl ?_
  refine lx_call hC lx_i6_ok (am_site_v (ix := 84) (y := 147) (k := 1) (ci := 11) rfl rfl (am_rcv_v rfl hm2)) (Nat.le_of_ble_eq_true rfl) (Nat.le_of_ble_eq_true rfl) (by omega) c3 ?_
  refine lx_p hC lx_i6_ok 1 (c' := (328, [some (.ref 1000000), some (.ref 0), some (.ref 179), some (.ref 225), some (.int i), some (.int k0), some (.int b0)], [.int k0, .int k0])) rfl ?_
  refine lx_b hC lx_i6_ok (q := k0 = k0) rfl rfl (fun _ => ?_) (fun hq => absurd rfl hq)
  refine lx_p hC lx_i6_ok 1 (c' := (335, [some (.ref 1000000), some (.ref 0), some (.ref 179), some (.ref 225), some (.int i), some (.int k0), some (.int b0)], [.int k0])) rfl ?_
  refine lx_b hC lx_i6_ok (q := ¬ k0 = 0) rfl rfl (fun _ => lx_p hC lx_i6_ok 1 (c' := (982, [some (.ref 1000000), some (.ref 0), some (.ref 179), some (.ref 225), some (.int i), some (.int k0), some (.int b0)], [])) rfl (kk _ _ _ _ (by omega) cp)) (fun hq => ?_)
  obtain ⟨f, hf1, hf2⟩ := ho (Decidable.not_not.mp hq)
  refine lx_p hC lx_i6_ok 2 (c' := (340, [some (.ref 1000000), some (.ref 0), some (.ref 179), some (.ref 225), some (.int i), some (.int k0), some (.int b0)], [.int 0, .ref 225])) rfl ?_
  refine lx_n1 hC lx_i6_ok (am_n_lald rfl hf1 (by decide)) ?_
  refine lx_p hC lx_i6_ok 3 (c' := (345, [some (.ref 1000000), some (.ref 0), some (.ref 179), some (.ref 225), some (.int i), some (.int k0), some (.int b0)], [.int (lg_cmp (f 0) b0.toInt64)])) rfl ?_
  refine lx_b hC lx_i6_ok (q := (lg_cmp (f 0) b0.toInt64) = 0) rfl rfl (fun _ => ?_) (fun hq => absurd (by rw [hf2]; exact lo_cmp _) hq)
  refine lx_p hC lx_i6_ok 1 (c' := (982, [some (.ref 1000000), some (.ref 0), some (.ref 179), some (.ref 225), some (.int i), some (.int k0), some (.int b0)], [])) rfl ?_
  exact kk _ _ _ _ (by omega) cp
theorem lo_7 (hC : lx_C p l s m meth c b L xs D ca) {i : Int32} {kv bv : Option Value} {h : List va_E} {g : Nat} {P : List va_E → Prop} (hg : g + 1 ≤ 600000) (v1 : vp_in (i + 1) L) (v2 : vp_in (i + 2) L) (ho : opH (lx_K l s b D ca) ⟨"PaperParcelsLaw", "kind", "(LPaperParcels;II[J)I"⟩ method_5_code 5 [(0, 10, 13, 13), (0, 10, 17, 22)] 203 [.int (xs (i + 1).toNatClampNeg), .int (xs (i + 2).toNatClampNeg)] h P) (kk : ∀ h' k' b' g', g' ≤ g + 1 → P h' → lx_W p l e s m below meth c b D ca (982, [some (.ref 1000000), some (.ref 0), some (.ref 179), some (.ref 225), some (.int i), k', b'], [], h') g') : lx_W p l e s m below meth c b D ca (353, [some (.ref 1000000), some (.ref 0), some (.ref 179), some (.ref 225), some (.int i), kv, bv], [], h) g := by
  obtain ⟨k0, b0, h1, h2, h3, g1, hg1, ch, ⟨fs1, hm1⟩, c2, ⟨fs2, hm2⟩, c3, ho, cp⟩ := ho
  refine lx_p hC lx_i7_ok 5 (c' := (359, [some (.ref 1000000), some (.ref 0), some (.ref 179), some (.ref 225), some (.int i), kv, bv], [.int (i + 1), .ref 1000000, .ref 0])) rfl ?_
  refine lx_ld hC lx_i7_ok rfl v1 ?_
  refine lx_p hC lx_i7_ok 4 (c' := (365, [some (.ref 1000000), some (.ref 0), some (.ref 179), some (.ref 225), some (.int i), kv, bv], [.int (i + 2), .ref 1000000, .int (xs (i + 1).toNatClampNeg), .ref 0])) rfl ?_
  refine lx_ld hC lx_i7_ok rfl v2 ?_
  refine lx_p hC lx_i7_ok 1 (c' := (367, [some (.ref 1000000), some (.ref 0), some (.ref 179), some (.ref 225), some (.int i), kv, bv], [.ref 225, .int (xs (i + 2).toNatClampNeg), .int (xs (i + 1).toNatClampNeg), .ref 0])) rfl ?_
  refine lx_help hC lx_i7_ok (ix := 94) (n := 4) (maxL := 5) (y := ⟨"PaperParcelsLaw", "kind", "(LPaperParcels;II[J)I"⟩) (bytes := method_5_code) (hh := [(0, 10, 13, 13), (0, 10, 17, 22)]) rfl lo_w_kind.1 lo_w_ini lo_w_kind.2.1 lo_w_kind.2.2 ⟨by decide +kernel, by decide +kernel⟩ (by decide +kernel) (Nat.le_of_ble_eq_true rfl) rfl (by omega) ch ?_
  refine lx_p hC lx_i7_ok 6 (c' := (378, [some (.ref 1000000), some (.ref 0), some (.ref 179), some (.ref 225), some (.int i), some (.int k0), bv], [.int (i + 1), .ref 1000000, .ref 179])) rfl ?_
  refine lx_ld hC lx_i7_ok rfl v1 ?_
  refine lx_p hC lx_i7_ok 4 (c' := (384, [some (.ref 1000000), some (.ref 0), some (.ref 179), some (.ref 225), some (.int i), some (.int k0), bv], [.int (i + 2), .ref 1000000, .int (xs (i + 1).toNatClampNeg), .ref 179])) rfl ?_
  refine lx_ld hC lx_i7_ok rfl v2 ?_
  refine lx_call hC lx_i7_ok (am_site_v (ix := 97) (y := 203) (k := 3) (ci := 11) rfl rfl (am_rcv_v rfl hm1)) (Nat.le_of_ble_eq_true rfl) (Nat.le_of_ble_eq_true rfl) (by omega) c2 ?_
  refine lx_p hC lx_i7_ok 2 (c' := (391, [some (.ref 1000000), some (.ref 0), some (.ref 179), some (.ref 225), some (.int i), some (.int k0), some (.int b0)], [.ref 179])) rfl ?_
  refine lx_call hC lx_i7_ok (am_site_v (ix := 84) (y := 147) (k := 1) (ci := 11) rfl rfl (am_rcv_v rfl hm2)) (Nat.le_of_ble_eq_true rfl) (Nat.le_of_ble_eq_true rfl) (by omega) c3 ?_
  refine lx_p hC lx_i7_ok 1 (c' := (396, [some (.ref 1000000), some (.ref 0), some (.ref 179), some (.ref 225), some (.int i), some (.int k0), some (.int b0)], [.int k0, .int k0])) rfl ?_
  refine lx_b hC lx_i7_ok (q := k0 = k0) rfl rfl (fun _ => ?_) (fun hq => absurd rfl hq)
  refine lx_p hC lx_i7_ok 1 (c' := (403, [some (.ref 1000000), some (.ref 0), some (.ref 179), some (.ref 225), some (.int i), some (.int k0), some (.int b0)], [.int k0])) rfl ?_
  refine lx_b hC lx_i7_ok (q := ¬ k0 = 0) rfl rfl (fun _ => lx_p hC lx_i7_ok 1 (c' := (982, [some (.ref 1000000), some (.ref 0), some (.ref 179), some (.ref 225), some (.int i), some (.int k0), some (.int b0)], [])) rfl (kk _ _ _ _ (by omega) cp)) (fun hq => ?_)
  obtain ⟨f, hf1, hf2⟩ := ho (Decidable.not_not.mp hq)
  refine lx_p hC lx_i7_ok 2 (c' := (408, [some (.ref 1000000), some (.ref 0), some (.ref 179), some (.ref 225), some (.int i), some (.int k0), some (.int b0)], [.int 0, .ref 225])) rfl ?_
  refine lx_n1 hC lx_i7_ok (am_n_lald rfl hf1 (by decide)) ?_
  refine lx_p hC lx_i7_ok 3 (c' := (413, [some (.ref 1000000), some (.ref 0), some (.ref 179), some (.ref 225), some (.int i), some (.int k0), some (.int b0)], [.int (lg_cmp (f 0) b0.toInt64)])) rfl ?_
  refine lx_b hC lx_i7_ok (q := (lg_cmp (f 0) b0.toInt64) = 0) rfl rfl (fun _ => ?_) (fun hq => absurd (by rw [hf2]; exact lo_cmp _) hq)
  refine lx_p hC lx_i7_ok 1 (c' := (982, [some (.ref 1000000), some (.ref 0), some (.ref 179), some (.ref 225), some (.int i), some (.int k0), some (.int b0)], [])) rfl ?_
  exact kk _ _ _ _ (by omega) cp
theorem lo_8 (hC : lx_C p l s m meth c b L xs D ca) {i : Int32} {kv bv : Option Value} {h : List va_E} {g : Nat} {P : List va_E → Prop} (hg : g + 1 ≤ 600000) (v1 : vp_in (i + 1) L) (v2 : vp_in (i + 2) L) (ho : opH (lx_K l s b D ca) ⟨"PaperParcelsLaw", "above", "(LPaperParcels;II[J)I"⟩ method_6_code 5 [(0, 10, 13, 13), (0, 10, 17, 22)] 205 [.int (xs (i + 1).toNatClampNeg), .int (xs (i + 2).toNatClampNeg)] h P) (kk : ∀ h' k' b' g', g' ≤ g + 1 → P h' → lx_W p l e s m below meth c b D ca (982, [some (.ref 1000000), some (.ref 0), some (.ref 179), some (.ref 225), some (.int i), k', b'], [], h') g') : lx_W p l e s m below meth c b D ca (421, [some (.ref 1000000), some (.ref 0), some (.ref 179), some (.ref 225), some (.int i), kv, bv], [], h) g := by
  obtain ⟨k0, b0, h1, h2, h3, g1, hg1, ch, ⟨fs1, hm1⟩, c2, ⟨fs2, hm2⟩, c3, ho, cp⟩ := ho
  refine lx_p hC lx_i8_ok 5 (c' := (427, [some (.ref 1000000), some (.ref 0), some (.ref 179), some (.ref 225), some (.int i), kv, bv], [.int (i + 1), .ref 1000000, .ref 0])) rfl ?_
  refine lx_ld hC lx_i8_ok rfl v1 ?_
  refine lx_p hC lx_i8_ok 4 (c' := (433, [some (.ref 1000000), some (.ref 0), some (.ref 179), some (.ref 225), some (.int i), kv, bv], [.int (i + 2), .ref 1000000, .int (xs (i + 1).toNatClampNeg), .ref 0])) rfl ?_
  refine lx_ld hC lx_i8_ok rfl v2 ?_
  refine lx_p hC lx_i8_ok 1 (c' := (435, [some (.ref 1000000), some (.ref 0), some (.ref 179), some (.ref 225), some (.int i), kv, bv], [.ref 225, .int (xs (i + 2).toNatClampNeg), .int (xs (i + 1).toNatClampNeg), .ref 0])) rfl ?_
  refine lx_help hC lx_i8_ok (ix := 98) (n := 4) (maxL := 5) (y := ⟨"PaperParcelsLaw", "above", "(LPaperParcels;II[J)I"⟩) (bytes := method_6_code) (hh := [(0, 10, 13, 13), (0, 10, 17, 22)]) rfl lo_w_above.1 lo_w_ini lo_w_above.2.1 lo_w_above.2.2 ⟨by decide +kernel, by decide +kernel⟩ (by decide +kernel) (Nat.le_of_ble_eq_true rfl) rfl (by omega) ch ?_
  refine lx_p hC lx_i8_ok 6 (c' := (446, [some (.ref 1000000), some (.ref 0), some (.ref 179), some (.ref 225), some (.int i), some (.int k0), bv], [.int (i + 1), .ref 1000000, .ref 179])) rfl ?_
  refine lx_ld hC lx_i8_ok rfl v1 ?_
  refine lx_p hC lx_i8_ok 4 (c' := (452, [some (.ref 1000000), some (.ref 0), some (.ref 179), some (.ref 225), some (.int i), some (.int k0), bv], [.int (i + 2), .ref 1000000, .int (xs (i + 1).toNatClampNeg), .ref 179])) rfl ?_
  refine lx_ld hC lx_i8_ok rfl v2 ?_
  refine lx_call hC lx_i8_ok (am_site_v (ix := 100) (y := 205) (k := 3) (ci := 11) rfl rfl (am_rcv_v rfl hm1)) (Nat.le_of_ble_eq_true rfl) (Nat.le_of_ble_eq_true rfl) (by omega) c2 ?_
  refine lx_p hC lx_i8_ok 2 (c' := (459, [some (.ref 1000000), some (.ref 0), some (.ref 179), some (.ref 225), some (.int i), some (.int k0), some (.int b0)], [.ref 179])) rfl ?_
  refine lx_call hC lx_i8_ok (am_site_v (ix := 84) (y := 147) (k := 1) (ci := 11) rfl rfl (am_rcv_v rfl hm2)) (Nat.le_of_ble_eq_true rfl) (Nat.le_of_ble_eq_true rfl) (by omega) c3 ?_
  refine lx_p hC lx_i8_ok 1 (c' := (464, [some (.ref 1000000), some (.ref 0), some (.ref 179), some (.ref 225), some (.int i), some (.int k0), some (.int b0)], [.int k0, .int k0])) rfl ?_
  refine lx_b hC lx_i8_ok (q := k0 = k0) rfl rfl (fun _ => ?_) (fun hq => absurd rfl hq)
  refine lx_p hC lx_i8_ok 1 (c' := (471, [some (.ref 1000000), some (.ref 0), some (.ref 179), some (.ref 225), some (.int i), some (.int k0), some (.int b0)], [.int k0])) rfl ?_
  refine lx_b hC lx_i8_ok (q := ¬ k0 = 0) rfl rfl (fun _ => lx_p hC lx_i8_ok 1 (c' := (982, [some (.ref 1000000), some (.ref 0), some (.ref 179), some (.ref 225), some (.int i), some (.int k0), some (.int b0)], [])) rfl (kk _ _ _ _ (by omega) cp)) (fun hq => ?_)
  obtain ⟨f, hf1, hf2⟩ := ho (Decidable.not_not.mp hq)
  refine lx_p hC lx_i8_ok 2 (c' := (476, [some (.ref 1000000), some (.ref 0), some (.ref 179), some (.ref 225), some (.int i), some (.int k0), some (.int b0)], [.int 0, .ref 225])) rfl ?_
  refine lx_n1 hC lx_i8_ok (am_n_lald rfl hf1 (by decide)) ?_
  refine lx_p hC lx_i8_ok 3 (c' := (481, [some (.ref 1000000), some (.ref 0), some (.ref 179), some (.ref 225), some (.int i), some (.int k0), some (.int b0)], [.int (lg_cmp (f 0) b0.toInt64)])) rfl ?_
  refine lx_b hC lx_i8_ok (q := (lg_cmp (f 0) b0.toInt64) = 0) rfl rfl (fun _ => ?_) (fun hq => absurd (by rw [hf2]; exact lo_cmp _) hq)
  refine lx_p hC lx_i8_ok 1 (c' := (982, [some (.ref 1000000), some (.ref 0), some (.ref 179), some (.ref 225), some (.int i), some (.int k0), some (.int b0)], [])) rfl ?_
  exact kk _ _ _ _ (by omega) cp
theorem lo_9 (hC : lx_C p l s m meth c b L xs D ca) {i : Int32} {kv bv : Option Value} {h : List va_E} {g : Nat} {P : List va_E → Prop} (hg : g + 1 ≤ 600000) (v1 : vp_in (i + 1) L) (v2 : vp_in (i + 2) L) (v3 : vp_in (i + 3) L) (ho : opH (lx_K l s b D ca) ⟨"PaperParcelsLaw", "look", "(LPaperParcels;III[J)I"⟩ method_7_code 6 [(0, 12, 15, 13), (0, 12, 19, 22)] 206 [.int (xs (i + 1).toNatClampNeg), .int (xs (i + 2).toNatClampNeg), .int (xs (i + 3).toNatClampNeg)] h P) (kk : ∀ h' k' b' g', g' ≤ g + 1 → P h' → lx_W p l e s m below meth c b D ca (982, [some (.ref 1000000), some (.ref 0), some (.ref 179), some (.ref 225), some (.int i), k', b'], [], h') g') : lx_W p l e s m below meth c b D ca (489, [some (.ref 1000000), some (.ref 0), some (.ref 179), some (.ref 225), some (.int i), kv, bv], [], h) g := by
  obtain ⟨k0, b0, h1, h2, h3, g1, hg1, ch, ⟨fs1, hm1⟩, c2, ⟨fs2, hm2⟩, c3, ho, cp⟩ := ho
  refine lx_p hC lx_i9_ok 5 (c' := (495, [some (.ref 1000000), some (.ref 0), some (.ref 179), some (.ref 225), some (.int i), kv, bv], [.int (i + 1), .ref 1000000, .ref 0])) rfl ?_
  refine lx_ld hC lx_i9_ok rfl v1 ?_
  refine lx_p hC lx_i9_ok 4 (c' := (501, [some (.ref 1000000), some (.ref 0), some (.ref 179), some (.ref 225), some (.int i), kv, bv], [.int (i + 2), .ref 1000000, .int (xs (i + 1).toNatClampNeg), .ref 0])) rfl ?_
  refine lx_ld hC lx_i9_ok rfl v2 ?_
  refine lx_p hC lx_i9_ok 4 (c' := (507, [some (.ref 1000000), some (.ref 0), some (.ref 179), some (.ref 225), some (.int i), kv, bv], [.int (i + 3), .ref 1000000, .int (xs (i + 2).toNatClampNeg), .int (xs (i + 1).toNatClampNeg), .ref 0])) rfl ?_
  refine lx_ld hC lx_i9_ok rfl v3 ?_
  refine lx_p hC lx_i9_ok 1 (c' := (509, [some (.ref 1000000), some (.ref 0), some (.ref 179), some (.ref 225), some (.int i), kv, bv], [.ref 225, .int (xs (i + 3).toNatClampNeg), .int (xs (i + 2).toNatClampNeg), .int (xs (i + 1).toNatClampNeg), .ref 0])) rfl ?_
  refine lx_help hC lx_i9_ok (ix := 101) (n := 5) (maxL := 6) (y := ⟨"PaperParcelsLaw", "look", "(LPaperParcels;III[J)I"⟩) (bytes := method_7_code) (hh := [(0, 12, 15, 13), (0, 12, 19, 22)]) rfl lo_w_look.1 lo_w_ini lo_w_look.2.1 lo_w_look.2.2 ⟨by decide +kernel, by decide +kernel⟩ (by decide +kernel) (Nat.le_of_ble_eq_true rfl) rfl (by omega) ch ?_
  refine lx_p hC lx_i9_ok 6 (c' := (520, [some (.ref 1000000), some (.ref 0), some (.ref 179), some (.ref 225), some (.int i), some (.int k0), bv], [.int (i + 1), .ref 1000000, .ref 179])) rfl ?_
  refine lx_ld hC lx_i9_ok rfl v1 ?_
  refine lx_p hC lx_i9_ok 4 (c' := (526, [some (.ref 1000000), some (.ref 0), some (.ref 179), some (.ref 225), some (.int i), some (.int k0), bv], [.int (i + 2), .ref 1000000, .int (xs (i + 1).toNatClampNeg), .ref 179])) rfl ?_
  refine lx_ld hC lx_i9_ok rfl v2 ?_
  refine lx_p hC lx_i9_ok 4 (c' := (532, [some (.ref 1000000), some (.ref 0), some (.ref 179), some (.ref 225), some (.int i), some (.int k0), bv], [.int (i + 3), .ref 1000000, .int (xs (i + 2).toNatClampNeg), .int (xs (i + 1).toNatClampNeg), .ref 179])) rfl ?_
  refine lx_ld hC lx_i9_ok rfl v3 ?_
  refine lx_call hC lx_i9_ok (am_site_v (ix := 104) (y := 206) (k := 4) (ci := 11) rfl rfl (am_rcv_v rfl hm1)) (Nat.le_of_ble_eq_true rfl) (Nat.le_of_ble_eq_true rfl) (by omega) c2 ?_
  refine lx_p hC lx_i9_ok 2 (c' := (539, [some (.ref 1000000), some (.ref 0), some (.ref 179), some (.ref 225), some (.int i), some (.int k0), some (.int b0)], [.ref 179])) rfl ?_
  refine lx_call hC lx_i9_ok (am_site_v (ix := 84) (y := 147) (k := 1) (ci := 11) rfl rfl (am_rcv_v rfl hm2)) (Nat.le_of_ble_eq_true rfl) (Nat.le_of_ble_eq_true rfl) (by omega) c3 ?_
  refine lx_p hC lx_i9_ok 1 (c' := (544, [some (.ref 1000000), some (.ref 0), some (.ref 179), some (.ref 225), some (.int i), some (.int k0), some (.int b0)], [.int k0, .int k0])) rfl ?_
  refine lx_b hC lx_i9_ok (q := k0 = k0) rfl rfl (fun _ => ?_) (fun hq => absurd rfl hq)
  refine lx_p hC lx_i9_ok 1 (c' := (551, [some (.ref 1000000), some (.ref 0), some (.ref 179), some (.ref 225), some (.int i), some (.int k0), some (.int b0)], [.int k0])) rfl ?_
  refine lx_b hC lx_i9_ok (q := ¬ k0 = 0) rfl rfl (fun _ => lx_p hC lx_i9_ok 1 (c' := (982, [some (.ref 1000000), some (.ref 0), some (.ref 179), some (.ref 225), some (.int i), some (.int k0), some (.int b0)], [])) rfl (kk _ _ _ _ (by omega) cp)) (fun hq => ?_)
  obtain ⟨f, hf1, hf2⟩ := ho (Decidable.not_not.mp hq)
  refine lx_p hC lx_i9_ok 2 (c' := (556, [some (.ref 1000000), some (.ref 0), some (.ref 179), some (.ref 225), some (.int i), some (.int k0), some (.int b0)], [.int 0, .ref 225])) rfl ?_
  refine lx_n1 hC lx_i9_ok (am_n_lald rfl hf1 (by decide)) ?_
  refine lx_p hC lx_i9_ok 3 (c' := (561, [some (.ref 1000000), some (.ref 0), some (.ref 179), some (.ref 225), some (.int i), some (.int k0), some (.int b0)], [.int (lg_cmp (f 0) b0.toInt64)])) rfl ?_
  refine lx_b hC lx_i9_ok (q := (lg_cmp (f 0) b0.toInt64) = 0) rfl rfl (fun _ => ?_) (fun hq => absurd (by rw [hf2]; exact lo_cmp _) hq)
  refine lx_p hC lx_i9_ok 1 (c' := (982, [some (.ref 1000000), some (.ref 0), some (.ref 179), some (.ref 225), some (.int i), some (.int k0), some (.int b0)], [])) rfl ?_
  exact kk _ _ _ _ (by omega) cp
theorem lo_10 (hC : lx_C p l s m meth c b L xs D ca) {i : Int32} {kv bv : Option Value} {h : List va_E} {g : Nat} {P : List va_E → Prop} (hg : g + 1 ≤ 600000) (v1 : vp_in (i + 1) L) (v2 : vp_in (i + 2) L) (ho : opH (lx_K l s b D ca) ⟨"PaperParcelsLaw", "letters", "(LPaperParcels;II[J)I"⟩ method_8_code 5 [(0, 10, 13, 13), (0, 10, 17, 22)] 208 [.int (xs (i + 1).toNatClampNeg), .int (xs (i + 2).toNatClampNeg)] h P) (kk : ∀ h' k' b' g', g' ≤ g + 1 → P h' → lx_W p l e s m below meth c b D ca (982, [some (.ref 1000000), some (.ref 0), some (.ref 179), some (.ref 225), some (.int i), k', b'], [], h') g') : lx_W p l e s m below meth c b D ca (569, [some (.ref 1000000), some (.ref 0), some (.ref 179), some (.ref 225), some (.int i), kv, bv], [], h) g := by
  obtain ⟨k0, b0, h1, h2, h3, g1, hg1, ch, ⟨fs1, hm1⟩, c2, ⟨fs2, hm2⟩, c3, ho, cp⟩ := ho
  refine lx_p hC lx_i10_ok 5 (c' := (575, [some (.ref 1000000), some (.ref 0), some (.ref 179), some (.ref 225), some (.int i), kv, bv], [.int (i + 1), .ref 1000000, .ref 0])) rfl ?_
  refine lx_ld hC lx_i10_ok rfl v1 ?_
  refine lx_p hC lx_i10_ok 4 (c' := (581, [some (.ref 1000000), some (.ref 0), some (.ref 179), some (.ref 225), some (.int i), kv, bv], [.int (i + 2), .ref 1000000, .int (xs (i + 1).toNatClampNeg), .ref 0])) rfl ?_
  refine lx_ld hC lx_i10_ok rfl v2 ?_
  refine lx_p hC lx_i10_ok 1 (c' := (583, [some (.ref 1000000), some (.ref 0), some (.ref 179), some (.ref 225), some (.int i), kv, bv], [.ref 225, .int (xs (i + 2).toNatClampNeg), .int (xs (i + 1).toNatClampNeg), .ref 0])) rfl ?_
  refine lx_help hC lx_i10_ok (ix := 105) (n := 4) (maxL := 5) (y := ⟨"PaperParcelsLaw", "letters", "(LPaperParcels;II[J)I"⟩) (bytes := method_8_code) (hh := [(0, 10, 13, 13), (0, 10, 17, 22)]) rfl lo_w_letters.1 lo_w_ini lo_w_letters.2.1 lo_w_letters.2.2 ⟨by decide +kernel, by decide +kernel⟩ (by decide +kernel) (Nat.le_of_ble_eq_true rfl) rfl (by omega) ch ?_
  refine lx_p hC lx_i10_ok 6 (c' := (594, [some (.ref 1000000), some (.ref 0), some (.ref 179), some (.ref 225), some (.int i), some (.int k0), bv], [.int (i + 1), .ref 1000000, .ref 179])) rfl ?_
  refine lx_ld hC lx_i10_ok rfl v1 ?_
  refine lx_p hC lx_i10_ok 4 (c' := (600, [some (.ref 1000000), some (.ref 0), some (.ref 179), some (.ref 225), some (.int i), some (.int k0), bv], [.int (i + 2), .ref 1000000, .int (xs (i + 1).toNatClampNeg), .ref 179])) rfl ?_
  refine lx_ld hC lx_i10_ok rfl v2 ?_
  refine lx_call hC lx_i10_ok (am_site_v (ix := 107) (y := 208) (k := 3) (ci := 11) rfl rfl (am_rcv_v rfl hm1)) (Nat.le_of_ble_eq_true rfl) (Nat.le_of_ble_eq_true rfl) (by omega) c2 ?_
  refine lx_p hC lx_i10_ok 2 (c' := (607, [some (.ref 1000000), some (.ref 0), some (.ref 179), some (.ref 225), some (.int i), some (.int k0), some (.int b0)], [.ref 179])) rfl ?_
  refine lx_call hC lx_i10_ok (am_site_v (ix := 84) (y := 147) (k := 1) (ci := 11) rfl rfl (am_rcv_v rfl hm2)) (Nat.le_of_ble_eq_true rfl) (Nat.le_of_ble_eq_true rfl) (by omega) c3 ?_
  refine lx_p hC lx_i10_ok 1 (c' := (612, [some (.ref 1000000), some (.ref 0), some (.ref 179), some (.ref 225), some (.int i), some (.int k0), some (.int b0)], [.int k0, .int k0])) rfl ?_
  refine lx_b hC lx_i10_ok (q := k0 = k0) rfl rfl (fun _ => ?_) (fun hq => absurd rfl hq)
  refine lx_p hC lx_i10_ok 1 (c' := (619, [some (.ref 1000000), some (.ref 0), some (.ref 179), some (.ref 225), some (.int i), some (.int k0), some (.int b0)], [.int k0])) rfl ?_
  refine lx_b hC lx_i10_ok (q := ¬ k0 = 0) rfl rfl (fun _ => lx_p hC lx_i10_ok 1 (c' := (982, [some (.ref 1000000), some (.ref 0), some (.ref 179), some (.ref 225), some (.int i), some (.int k0), some (.int b0)], [])) rfl (kk _ _ _ _ (by omega) cp)) (fun hq => ?_)
  obtain ⟨f, hf1, hf2⟩ := ho (Decidable.not_not.mp hq)
  refine lx_p hC lx_i10_ok 2 (c' := (624, [some (.ref 1000000), some (.ref 0), some (.ref 179), some (.ref 225), some (.int i), some (.int k0), some (.int b0)], [.int 0, .ref 225])) rfl ?_
  refine lx_n1 hC lx_i10_ok (am_n_lald rfl hf1 (by decide)) ?_
  refine lx_p hC lx_i10_ok 3 (c' := (629, [some (.ref 1000000), some (.ref 0), some (.ref 179), some (.ref 225), some (.int i), some (.int k0), some (.int b0)], [.int (lg_cmp (f 0) b0.toInt64)])) rfl ?_
  refine lx_b hC lx_i10_ok (q := (lg_cmp (f 0) b0.toInt64) = 0) rfl rfl (fun _ => ?_) (fun hq => absurd (by rw [hf2]; exact lo_cmp _) hq)
  refine lx_p hC lx_i10_ok 1 (c' := (982, [some (.ref 1000000), some (.ref 0), some (.ref 179), some (.ref 225), some (.int i), some (.int k0), some (.int b0)], [])) rfl ?_
  exact kk _ _ _ _ (by omega) cp
theorem lo_11 (hC : lx_C p l s m meth c b L xs D ca) {i : Int32} {kv bv : Option Value} {h : List va_E} {g : Nat} {P : List va_E → Prop} (hg : g + 1 ≤ 600000) (v1 : vp_in (i + 1) L) (v2 : vp_in (i + 2) L) (v3 : vp_in (i + 3) L) (ho : opH (lx_K l s b D ca) ⟨"PaperParcelsLaw", "letter", "(LPaperParcels;III[J)I"⟩ method_9_code 6 [(0, 12, 15, 13), (0, 12, 19, 22)] 209 [.int (xs (i + 1).toNatClampNeg), .int (xs (i + 2).toNatClampNeg), .int (xs (i + 3).toNatClampNeg)] h P) (kk : ∀ h' k' b' g', g' ≤ g + 1 → P h' → lx_W p l e s m below meth c b D ca (982, [some (.ref 1000000), some (.ref 0), some (.ref 179), some (.ref 225), some (.int i), k', b'], [], h') g') : lx_W p l e s m below meth c b D ca (637, [some (.ref 1000000), some (.ref 0), some (.ref 179), some (.ref 225), some (.int i), kv, bv], [], h) g := by
  obtain ⟨k0, b0, h1, h2, h3, g1, hg1, ch, ⟨fs1, hm1⟩, c2, ⟨fs2, hm2⟩, c3, ho, cp⟩ := ho
  refine lx_p hC lx_i11_ok 5 (c' := (643, [some (.ref 1000000), some (.ref 0), some (.ref 179), some (.ref 225), some (.int i), kv, bv], [.int (i + 1), .ref 1000000, .ref 0])) rfl ?_
  refine lx_ld hC lx_i11_ok rfl v1 ?_
  refine lx_p hC lx_i11_ok 4 (c' := (649, [some (.ref 1000000), some (.ref 0), some (.ref 179), some (.ref 225), some (.int i), kv, bv], [.int (i + 2), .ref 1000000, .int (xs (i + 1).toNatClampNeg), .ref 0])) rfl ?_
  refine lx_ld hC lx_i11_ok rfl v2 ?_
  refine lx_p hC lx_i11_ok 4 (c' := (655, [some (.ref 1000000), some (.ref 0), some (.ref 179), some (.ref 225), some (.int i), kv, bv], [.int (i + 3), .ref 1000000, .int (xs (i + 2).toNatClampNeg), .int (xs (i + 1).toNatClampNeg), .ref 0])) rfl ?_
  refine lx_ld hC lx_i11_ok rfl v3 ?_
  refine lx_p hC lx_i11_ok 1 (c' := (657, [some (.ref 1000000), some (.ref 0), some (.ref 179), some (.ref 225), some (.int i), kv, bv], [.ref 225, .int (xs (i + 3).toNatClampNeg), .int (xs (i + 2).toNatClampNeg), .int (xs (i + 1).toNatClampNeg), .ref 0])) rfl ?_
  refine lx_help hC lx_i11_ok (ix := 108) (n := 5) (maxL := 6) (y := ⟨"PaperParcelsLaw", "letter", "(LPaperParcels;III[J)I"⟩) (bytes := method_9_code) (hh := [(0, 12, 15, 13), (0, 12, 19, 22)]) rfl lo_w_letter.1 lo_w_ini lo_w_letter.2.1 lo_w_letter.2.2 ⟨by decide +kernel, by decide +kernel⟩ (by decide +kernel) (Nat.le_of_ble_eq_true rfl) rfl (by omega) ch ?_
  refine lx_p hC lx_i11_ok 6 (c' := (668, [some (.ref 1000000), some (.ref 0), some (.ref 179), some (.ref 225), some (.int i), some (.int k0), bv], [.int (i + 1), .ref 1000000, .ref 179])) rfl ?_
  refine lx_ld hC lx_i11_ok rfl v1 ?_
  refine lx_p hC lx_i11_ok 4 (c' := (674, [some (.ref 1000000), some (.ref 0), some (.ref 179), some (.ref 225), some (.int i), some (.int k0), bv], [.int (i + 2), .ref 1000000, .int (xs (i + 1).toNatClampNeg), .ref 179])) rfl ?_
  refine lx_ld hC lx_i11_ok rfl v2 ?_
  refine lx_p hC lx_i11_ok 4 (c' := (680, [some (.ref 1000000), some (.ref 0), some (.ref 179), some (.ref 225), some (.int i), some (.int k0), bv], [.int (i + 3), .ref 1000000, .int (xs (i + 2).toNatClampNeg), .int (xs (i + 1).toNatClampNeg), .ref 179])) rfl ?_
  refine lx_ld hC lx_i11_ok rfl v3 ?_
  refine lx_call hC lx_i11_ok (am_site_v (ix := 110) (y := 209) (k := 4) (ci := 11) rfl rfl (am_rcv_v rfl hm1)) (Nat.le_of_ble_eq_true rfl) (Nat.le_of_ble_eq_true rfl) (by omega) c2 ?_
  refine lx_p hC lx_i11_ok 2 (c' := (687, [some (.ref 1000000), some (.ref 0), some (.ref 179), some (.ref 225), some (.int i), some (.int k0), some (.int b0)], [.ref 179])) rfl ?_
  refine lx_call hC lx_i11_ok (am_site_v (ix := 84) (y := 147) (k := 1) (ci := 11) rfl rfl (am_rcv_v rfl hm2)) (Nat.le_of_ble_eq_true rfl) (Nat.le_of_ble_eq_true rfl) (by omega) c3 ?_
  refine lx_p hC lx_i11_ok 1 (c' := (692, [some (.ref 1000000), some (.ref 0), some (.ref 179), some (.ref 225), some (.int i), some (.int k0), some (.int b0)], [.int k0, .int k0])) rfl ?_
  refine lx_b hC lx_i11_ok (q := k0 = k0) rfl rfl (fun _ => ?_) (fun hq => absurd rfl hq)
  refine lx_p hC lx_i11_ok 1 (c' := (699, [some (.ref 1000000), some (.ref 0), some (.ref 179), some (.ref 225), some (.int i), some (.int k0), some (.int b0)], [.int k0])) rfl ?_
  refine lx_b hC lx_i11_ok (q := ¬ k0 = 0) rfl rfl (fun _ => lx_p hC lx_i11_ok 1 (c' := (982, [some (.ref 1000000), some (.ref 0), some (.ref 179), some (.ref 225), some (.int i), some (.int k0), some (.int b0)], [])) rfl (kk _ _ _ _ (by omega) cp)) (fun hq => ?_)
  obtain ⟨f, hf1, hf2⟩ := ho (Decidable.not_not.mp hq)
  refine lx_p hC lx_i11_ok 2 (c' := (704, [some (.ref 1000000), some (.ref 0), some (.ref 179), some (.ref 225), some (.int i), some (.int k0), some (.int b0)], [.int 0, .ref 225])) rfl ?_
  refine lx_n1 hC lx_i11_ok (am_n_lald rfl hf1 (by decide)) ?_
  refine lx_p hC lx_i11_ok 3 (c' := (709, [some (.ref 1000000), some (.ref 0), some (.ref 179), some (.ref 225), some (.int i), some (.int k0), some (.int b0)], [.int (lg_cmp (f 0) b0.toInt64)])) rfl ?_
  refine lx_b hC lx_i11_ok (q := (lg_cmp (f 0) b0.toInt64) = 0) rfl rfl (fun _ => ?_) (fun hq => absurd (by rw [hf2]; exact lo_cmp _) hq)
  refine lx_p hC lx_i11_ok 1 (c' := (982, [some (.ref 1000000), some (.ref 0), some (.ref 179), some (.ref 225), some (.int i), some (.int k0), some (.int b0)], [])) rfl ?_
  exact kk _ _ _ _ (by omega) cp
theorem lo_12 (hC : lx_C p l s m meth c b L xs D ca) {i : Int32} {kv bv : Option Value} {h : List va_E} {g : Nat} {P : List va_E → Prop} (hg : g + 1 ≤ 600000)  (ho : opH (lx_K l s b D ca) ⟨"PaperParcelsLaw", "compare", "(LPaperParcels;[J)I"⟩ method_10_code 3 [(0, 8, 11, 41)] 210 [] h P) (kk : ∀ h' k' b' g', g' ≤ g + 1 → P h' → lx_W p l e s m below meth c b D ca (982, [some (.ref 1000000), some (.ref 0), some (.ref 179), some (.ref 225), some (.int i), k', b'], [], h') g') : lx_W p l e s m below meth c b D ca (717, [some (.ref 1000000), some (.ref 0), some (.ref 179), some (.ref 225), some (.int i), kv, bv], [], h) g := by
  obtain ⟨k0, b0, h1, h2, h3, g1, hg1, ch, ⟨fs1, hm1⟩, c2, ⟨fs2, hm2⟩, c3, ho, cp⟩ := ho
  refine lx_p hC lx_i12_ok 2 (c' := (719, [some (.ref 1000000), some (.ref 0), some (.ref 179), some (.ref 225), some (.int i), kv, bv], [.ref 225, .ref 0])) rfl ?_
  refine lx_help hC lx_i12_ok (ix := 111) (n := 2) (maxL := 3) (y := ⟨"PaperParcelsLaw", "compare", "(LPaperParcels;[J)I"⟩) (bytes := method_10_code) (hh := [(0, 8, 11, 41)]) rfl lo_w_compare.1 lo_w_ini lo_w_compare.2.1 lo_w_compare.2.2 ⟨by decide +kernel, by decide +kernel⟩ (by decide +kernel) (Nat.le_of_ble_eq_true rfl) rfl (by omega) ch ?_
  refine lx_p hC lx_i12_ok 2 (c' := (725, [some (.ref 1000000), some (.ref 0), some (.ref 179), some (.ref 225), some (.int i), some (.int k0), bv], [.ref 179])) rfl ?_
  refine lx_call hC lx_i12_ok (am_site_v (ix := 114) (y := 210) (k := 1) (ci := 11) rfl rfl (am_rcv_v rfl hm1)) (Nat.le_of_ble_eq_true rfl) (Nat.le_of_ble_eq_true rfl) (by omega) c2 ?_
  refine lx_p hC lx_i12_ok 2 (c' := (731, [some (.ref 1000000), some (.ref 0), some (.ref 179), some (.ref 225), some (.int i), some (.int k0), some (.int b0)], [.ref 179])) rfl ?_
  refine lx_call hC lx_i12_ok (am_site_v (ix := 84) (y := 147) (k := 1) (ci := 11) rfl rfl (am_rcv_v rfl hm2)) (Nat.le_of_ble_eq_true rfl) (Nat.le_of_ble_eq_true rfl) (by omega) c3 ?_
  refine lx_p hC lx_i12_ok 1 (c' := (736, [some (.ref 1000000), some (.ref 0), some (.ref 179), some (.ref 225), some (.int i), some (.int k0), some (.int b0)], [.int k0, .int k0])) rfl ?_
  refine lx_b hC lx_i12_ok (q := k0 = k0) rfl rfl (fun _ => ?_) (fun hq => absurd rfl hq)
  refine lx_p hC lx_i12_ok 1 (c' := (743, [some (.ref 1000000), some (.ref 0), some (.ref 179), some (.ref 225), some (.int i), some (.int k0), some (.int b0)], [.int k0])) rfl ?_
  refine lx_b hC lx_i12_ok (q := ¬ k0 = 0) rfl rfl (fun _ => lx_p hC lx_i12_ok 1 (c' := (982, [some (.ref 1000000), some (.ref 0), some (.ref 179), some (.ref 225), some (.int i), some (.int k0), some (.int b0)], [])) rfl (kk _ _ _ _ (by omega) cp)) (fun hq => ?_)
  obtain ⟨f, hf1, hf2⟩ := ho (Decidable.not_not.mp hq)
  refine lx_p hC lx_i12_ok 2 (c' := (748, [some (.ref 1000000), some (.ref 0), some (.ref 179), some (.ref 225), some (.int i), some (.int k0), some (.int b0)], [.int 0, .ref 225])) rfl ?_
  refine lx_n1 hC lx_i12_ok (am_n_lald rfl hf1 (by decide)) ?_
  refine lx_p hC lx_i12_ok 3 (c' := (753, [some (.ref 1000000), some (.ref 0), some (.ref 179), some (.ref 225), some (.int i), some (.int k0), some (.int b0)], [.int (lg_cmp (f 0) b0.toInt64)])) rfl ?_
  refine lx_b hC lx_i12_ok (q := (lg_cmp (f 0) b0.toInt64) = 0) rfl rfl (fun _ => ?_) (fun hq => absurd (by rw [hf2]; exact lo_cmp _) hq)
  refine lx_p hC lx_i12_ok 1 (c' := (982, [some (.ref 1000000), some (.ref 0), some (.ref 179), some (.ref 225), some (.int i), some (.int k0), some (.int b0)], [])) rfl ?_
  exact kk _ _ _ _ (by omega) cp
theorem lo_13 (hC : lx_C p l s m meth c b L xs D ca) {i : Int32} {kv bv : Option Value} {h : List va_E} {g : Nat} {P : List va_E → Prop} (hg : g + 1 ≤ 600000)  (ho : op2 (lx_K l s b D ca) 20 220 [] h P) (kk : ∀ h', P h' → lx_W p l e s m below meth c b D ca (982, [some (.ref 1000000), some (.ref 0), some (.ref 179), some (.ref 225), some (.int i), kv, bv], [], h') g) : lx_W p l e s m below meth c b D ca (761, [some (.ref 1000000), some (.ref 0), some (.ref 179), some (.ref 225), some (.int i), kv, bv], [], h) g := by
  obtain ⟨⟨fs, hcc⟩, r, h1, h2, c1, ⟨fs1, hm1⟩, c2, cp⟩ := ho
  refine lx_p hC lx_i13_ok 1 (c' := (762, [some (.ref 1000000), some (.ref 0), some (.ref 179), some (.ref 225), some (.int i), kv, bv], [.ref 0])) rfl ?_
  refine lx_call hC lx_i13_ok (am_site_v (ix := 115) (y := 20) (k := 1) (ci := 0) rfl rfl (am_rcv_v rfl hcc)) (Nat.le_of_ble_eq_true rfl) (Nat.le_of_ble_eq_true rfl) (by omega) c1 ?_
  refine lx_p hC lx_i13_ok 1 (c' := (766, [some (.ref 1000000), some (.ref 0), some (.ref 179), some (.ref 225), some (.int i), kv, bv], [.ref 179, .int r])) rfl ?_
  refine lx_call hC lx_i13_ok (am_site_v (ix := 118) (y := 220) (k := 1) (ci := 11) rfl rfl (am_rcv_v rfl hm1)) (Nat.le_of_ble_eq_true rfl) (Nat.le_of_ble_eq_true rfl) (by omega) c2 ?_
  refine lx_b hC lx_i13_ok (q := r = r) rfl rfl (fun _ => ?_) (fun hq => absurd rfl hq)
  exact kk _ cp
theorem lo_14 (hC : lx_C p l s m meth c b L xs D ca) {i : Int32} {kv bv : Option Value} {h : List va_E} {g : Nat} {P : List va_E → Prop} (hg : g + 1 ≤ 600000) (v1 : vp_in (i + 1) L) (v2 : vp_in (i + 2) L) (ho : ∀ bb : Int32, (bb = 0 ∨ bb = 1) → opH (lx_K l s b D ca) ⟨"PaperParcelsLaw", "step", "(LPaperParcels;IZ[J)I"⟩ method_11_code 5 [(0, 10, 13, 22)] 221 [.int (xs (i + 1).toNatClampNeg), .int bb] h P) (kk : ∀ h' k' b' g', g' ≤ g + 1 → P h' → lx_W p l e s m below meth c b D ca (982, [some (.ref 1000000), some (.ref 0), some (.ref 179), some (.ref 225), some (.int i), k', b'], [], h') g') : lx_W p l e s m below meth c b D ca (774, [some (.ref 1000000), some (.ref 0), some (.ref 179), some (.ref 225), some (.int i), kv, bv], [], h) g := by
  by_cases hz : xs (i + 2).toNatClampNeg = 0
  · obtain ⟨k0, b0, h1, h2, h3, g1, hg1, ch, ⟨fs1, hm1⟩, c2, ⟨fs2, hm2⟩, c3, ho, cp⟩ := ho 0 (Or.inl rfl)
    refine lx_p hC lx_i14_ok 5 (c' := (780, [some (.ref 1000000), some (.ref 0), some (.ref 179), some (.ref 225), some (.int i), kv, bv], [.int (i + 1), .ref 1000000, .ref 0])) rfl ?_
    refine lx_ld hC lx_i14_ok rfl v1 ?_
    refine lx_p hC lx_i14_ok 4 (c' := (786, [some (.ref 1000000), some (.ref 0), some (.ref 179), some (.ref 225), some (.int i), kv, bv], [.int (i + 2), .ref 1000000, .int (xs (i + 1).toNatClampNeg), .ref 0])) rfl ?_
    refine lx_ld hC lx_i14_ok rfl v2 ?_
    refine lx_b hC lx_i14_ok (q := (xs (i + 2).toNatClampNeg) = 0) rfl rfl (fun _ => ?_) (fun hq => absurd hz hq)
    refine lx_p hC lx_i14_ok 2 (c' := (796, [some (.ref 1000000), some (.ref 0), some (.ref 179), some (.ref 225), some (.int i), kv, bv], [.ref 225, .int 0, .int (xs (i + 1).toNatClampNeg), .ref 0])) rfl ?_
    refine lx_help hC lx_i14_ok (ix := 119) (n := 4) (maxL := 5) (y := ⟨"PaperParcelsLaw", "step", "(LPaperParcels;IZ[J)I"⟩) (bytes := method_11_code) (hh := [(0, 10, 13, 22)]) rfl lo_w_step.1 lo_w_ini lo_w_step.2.1 lo_w_step.2.2 ⟨by decide +kernel, by decide +kernel⟩ (by decide +kernel) (Nat.le_of_ble_eq_true rfl) rfl (by omega) ch ?_
    refine lx_p hC lx_i14_ok 6 (c' := (807, [some (.ref 1000000), some (.ref 0), some (.ref 179), some (.ref 225), some (.int i), some (.int k0), bv], [.int (i + 1), .ref 1000000, .ref 179])) rfl ?_
    refine lx_ld hC lx_i14_ok rfl v1 ?_
    refine lx_p hC lx_i14_ok 4 (c' := (813, [some (.ref 1000000), some (.ref 0), some (.ref 179), some (.ref 225), some (.int i), some (.int k0), bv], [.int (i + 2), .ref 1000000, .int (xs (i + 1).toNatClampNeg), .ref 179])) rfl ?_
    refine lx_ld hC lx_i14_ok rfl v2 ?_
    refine lx_b hC lx_i14_ok (q := (xs (i + 2).toNatClampNeg) = 0) rfl rfl (fun _ => ?_) (fun hq => absurd hz hq)
    refine lx_p hC lx_i14_ok 1 (c' := (822, [some (.ref 1000000), some (.ref 0), some (.ref 179), some (.ref 225), some (.int i), some (.int k0), bv], [.int 0, .int (xs (i + 1).toNatClampNeg), .ref 179])) rfl ?_
    refine lx_call hC lx_i14_ok (am_site_v (ix := 122) (y := 221) (k := 3) (ci := 11) rfl rfl (am_rcv_v rfl hm1)) (Nat.le_of_ble_eq_true rfl) (Nat.le_of_ble_eq_true rfl) (by omega) c2 ?_
    refine lx_p hC lx_i14_ok 2 (c' := (828, [some (.ref 1000000), some (.ref 0), some (.ref 179), some (.ref 225), some (.int i), some (.int k0), some (.int b0)], [.ref 179])) rfl ?_
    refine lx_call hC lx_i14_ok (am_site_v (ix := 84) (y := 147) (k := 1) (ci := 11) rfl rfl (am_rcv_v rfl hm2)) (Nat.le_of_ble_eq_true rfl) (Nat.le_of_ble_eq_true rfl) (by omega) c3 ?_
    refine lx_p hC lx_i14_ok 1 (c' := (833, [some (.ref 1000000), some (.ref 0), some (.ref 179), some (.ref 225), some (.int i), some (.int k0), some (.int b0)], [.int k0, .int k0])) rfl ?_
    refine lx_b hC lx_i14_ok (q := k0 = k0) rfl rfl (fun _ => ?_) (fun hq => absurd rfl hq)
    refine lx_p hC lx_i14_ok 1 (c' := (840, [some (.ref 1000000), some (.ref 0), some (.ref 179), some (.ref 225), some (.int i), some (.int k0), some (.int b0)], [.int k0])) rfl ?_
    refine lx_b hC lx_i14_ok (q := ¬ k0 = 0) rfl rfl (fun _ => lx_p hC lx_i14_ok 1 (c' := (982, [some (.ref 1000000), some (.ref 0), some (.ref 179), some (.ref 225), some (.int i), some (.int k0), some (.int b0)], [])) rfl (kk _ _ _ _ (by omega) cp)) (fun hq => ?_)
    obtain ⟨f, hf1, hf2⟩ := ho (Decidable.not_not.mp hq)
    refine lx_p hC lx_i14_ok 2 (c' := (845, [some (.ref 1000000), some (.ref 0), some (.ref 179), some (.ref 225), some (.int i), some (.int k0), some (.int b0)], [.int 0, .ref 225])) rfl ?_
    refine lx_n1 hC lx_i14_ok (am_n_lald rfl hf1 (by decide)) ?_
    refine lx_p hC lx_i14_ok 3 (c' := (850, [some (.ref 1000000), some (.ref 0), some (.ref 179), some (.ref 225), some (.int i), some (.int k0), some (.int b0)], [.int (lg_cmp (f 0) b0.toInt64)])) rfl ?_
    refine lx_b hC lx_i14_ok (q := (lg_cmp (f 0) b0.toInt64) = 0) rfl rfl (fun _ => ?_) (fun hq => absurd (by rw [hf2]; exact lo_cmp _) hq)
    refine lx_p hC lx_i14_ok 1 (c' := (982, [some (.ref 1000000), some (.ref 0), some (.ref 179), some (.ref 225), some (.int i), some (.int k0), some (.int b0)], [])) rfl ?_
    exact kk _ _ _ _ (by omega) cp
  · obtain ⟨k0, b0, h1, h2, h3, g1, hg1, ch, ⟨fs1, hm1⟩, c2, ⟨fs2, hm2⟩, c3, ho, cp⟩ := ho 1 (Or.inr rfl)
    refine lx_p hC lx_i14_ok 5 (c' := (780, [some (.ref 1000000), some (.ref 0), some (.ref 179), some (.ref 225), some (.int i), kv, bv], [.int (i + 1), .ref 1000000, .ref 0])) rfl ?_
    refine lx_ld hC lx_i14_ok rfl v1 ?_
    refine lx_p hC lx_i14_ok 4 (c' := (786, [some (.ref 1000000), some (.ref 0), some (.ref 179), some (.ref 225), some (.int i), kv, bv], [.int (i + 2), .ref 1000000, .int (xs (i + 1).toNatClampNeg), .ref 0])) rfl ?_
    refine lx_ld hC lx_i14_ok rfl v2 ?_
    refine lx_b hC lx_i14_ok (q := (xs (i + 2).toNatClampNeg) = 0) rfl rfl (fun hq => absurd hq hz) (fun _ => ?_)
    refine lx_p hC lx_i14_ok 3 (c' := (796, [some (.ref 1000000), some (.ref 0), some (.ref 179), some (.ref 225), some (.int i), kv, bv], [.ref 225, .int 1, .int (xs (i + 1).toNatClampNeg), .ref 0])) rfl ?_
    refine lx_help hC lx_i14_ok (ix := 119) (n := 4) (maxL := 5) (y := ⟨"PaperParcelsLaw", "step", "(LPaperParcels;IZ[J)I"⟩) (bytes := method_11_code) (hh := [(0, 10, 13, 22)]) rfl lo_w_step.1 lo_w_ini lo_w_step.2.1 lo_w_step.2.2 ⟨by decide +kernel, by decide +kernel⟩ (by decide +kernel) (Nat.le_of_ble_eq_true rfl) rfl (by omega) ch ?_
    refine lx_p hC lx_i14_ok 6 (c' := (807, [some (.ref 1000000), some (.ref 0), some (.ref 179), some (.ref 225), some (.int i), some (.int k0), bv], [.int (i + 1), .ref 1000000, .ref 179])) rfl ?_
    refine lx_ld hC lx_i14_ok rfl v1 ?_
    refine lx_p hC lx_i14_ok 4 (c' := (813, [some (.ref 1000000), some (.ref 0), some (.ref 179), some (.ref 225), some (.int i), some (.int k0), bv], [.int (i + 2), .ref 1000000, .int (xs (i + 1).toNatClampNeg), .ref 179])) rfl ?_
    refine lx_ld hC lx_i14_ok rfl v2 ?_
    refine lx_b hC lx_i14_ok (q := (xs (i + 2).toNatClampNeg) = 0) rfl rfl (fun hq => absurd hq hz) (fun _ => ?_)
    refine lx_p hC lx_i14_ok 2 (c' := (822, [some (.ref 1000000), some (.ref 0), some (.ref 179), some (.ref 225), some (.int i), some (.int k0), bv], [.int 1, .int (xs (i + 1).toNatClampNeg), .ref 179])) rfl ?_
    refine lx_call hC lx_i14_ok (am_site_v (ix := 122) (y := 221) (k := 3) (ci := 11) rfl rfl (am_rcv_v rfl hm1)) (Nat.le_of_ble_eq_true rfl) (Nat.le_of_ble_eq_true rfl) (by omega) c2 ?_
    refine lx_p hC lx_i14_ok 2 (c' := (828, [some (.ref 1000000), some (.ref 0), some (.ref 179), some (.ref 225), some (.int i), some (.int k0), some (.int b0)], [.ref 179])) rfl ?_
    refine lx_call hC lx_i14_ok (am_site_v (ix := 84) (y := 147) (k := 1) (ci := 11) rfl rfl (am_rcv_v rfl hm2)) (Nat.le_of_ble_eq_true rfl) (Nat.le_of_ble_eq_true rfl) (by omega) c3 ?_
    refine lx_p hC lx_i14_ok 1 (c' := (833, [some (.ref 1000000), some (.ref 0), some (.ref 179), some (.ref 225), some (.int i), some (.int k0), some (.int b0)], [.int k0, .int k0])) rfl ?_
    refine lx_b hC lx_i14_ok (q := k0 = k0) rfl rfl (fun _ => ?_) (fun hq => absurd rfl hq)
    refine lx_p hC lx_i14_ok 1 (c' := (840, [some (.ref 1000000), some (.ref 0), some (.ref 179), some (.ref 225), some (.int i), some (.int k0), some (.int b0)], [.int k0])) rfl ?_
    refine lx_b hC lx_i14_ok (q := ¬ k0 = 0) rfl rfl (fun _ => lx_p hC lx_i14_ok 1 (c' := (982, [some (.ref 1000000), some (.ref 0), some (.ref 179), some (.ref 225), some (.int i), some (.int k0), some (.int b0)], [])) rfl (kk _ _ _ _ (by omega) cp)) (fun hq => ?_)
    obtain ⟨f, hf1, hf2⟩ := ho (Decidable.not_not.mp hq)
    refine lx_p hC lx_i14_ok 2 (c' := (845, [some (.ref 1000000), some (.ref 0), some (.ref 179), some (.ref 225), some (.int i), some (.int k0), some (.int b0)], [.int 0, .ref 225])) rfl ?_
    refine lx_n1 hC lx_i14_ok (am_n_lald rfl hf1 (by decide)) ?_
    refine lx_p hC lx_i14_ok 3 (c' := (850, [some (.ref 1000000), some (.ref 0), some (.ref 179), some (.ref 225), some (.int i), some (.int k0), some (.int b0)], [.int (lg_cmp (f 0) b0.toInt64)])) rfl ?_
    refine lx_b hC lx_i14_ok (q := (lg_cmp (f 0) b0.toInt64) = 0) rfl rfl (fun _ => ?_) (fun hq => absurd (by rw [hf2]; exact lo_cmp _) hq)
    refine lx_p hC lx_i14_ok 1 (c' := (982, [some (.ref 1000000), some (.ref 0), some (.ref 179), some (.ref 225), some (.int i), some (.int k0), some (.int b0)], [])) rfl ?_
    exact kk _ _ _ _ (by omega) cp
theorem lo_15 (hC : lx_C p l s m meth c b L xs D ca) {i : Int32} {kv bv : Option Value} {h : List va_E} {g : Nat} {P : List va_E → Prop} (hg : g + 1 ≤ 600000) (v1 : vp_in (i + 1) L) (ho : opH (lx_K l s b D ca) ⟨"PaperParcelsLaw", "apply", "(LPaperParcels;I[J)I"⟩ method_12_code 4 [(0, 9, 12, 41), (0, 9, 15, 13)] 222 [.int (xs (i + 1).toNatClampNeg)] h P) (kk : ∀ h' k' b' g', g' ≤ g + 1 → P h' → lx_W p l e s m below meth c b D ca (982, [some (.ref 1000000), some (.ref 0), some (.ref 179), some (.ref 225), some (.int i), k', b'], [], h') g') : lx_W p l e s m below meth c b D ca (858, [some (.ref 1000000), some (.ref 0), some (.ref 179), some (.ref 225), some (.int i), kv, bv], [], h) g := by
  obtain ⟨k0, b0, h1, h2, h3, g1, hg1, ch, ⟨fs1, hm1⟩, c2, ⟨fs2, hm2⟩, c3, ho, cp⟩ := ho
  refine lx_p hC lx_i15_ok 5 (c' := (864, [some (.ref 1000000), some (.ref 0), some (.ref 179), some (.ref 225), some (.int i), kv, bv], [.int (i + 1), .ref 1000000, .ref 0])) rfl ?_
  refine lx_ld hC lx_i15_ok rfl v1 ?_
  refine lx_p hC lx_i15_ok 1 (c' := (866, [some (.ref 1000000), some (.ref 0), some (.ref 179), some (.ref 225), some (.int i), kv, bv], [.ref 225, .int (xs (i + 1).toNatClampNeg), .ref 0])) rfl ?_
  refine lx_help hC lx_i15_ok (ix := 123) (n := 3) (maxL := 4) (y := ⟨"PaperParcelsLaw", "apply", "(LPaperParcels;I[J)I"⟩) (bytes := method_12_code) (hh := [(0, 9, 12, 41), (0, 9, 15, 13)]) rfl lo_w_apply.1 lo_w_ini lo_w_apply.2.1 lo_w_apply.2.2 ⟨by decide +kernel, by decide +kernel⟩ (by decide +kernel) (Nat.le_of_ble_eq_true rfl) rfl (by omega) ch ?_
  refine lx_p hC lx_i15_ok 6 (c' := (877, [some (.ref 1000000), some (.ref 0), some (.ref 179), some (.ref 225), some (.int i), some (.int k0), bv], [.int (i + 1), .ref 1000000, .ref 179])) rfl ?_
  refine lx_ld hC lx_i15_ok rfl v1 ?_
  refine lx_call hC lx_i15_ok (am_site_v (ix := 125) (y := 222) (k := 2) (ci := 11) rfl rfl (am_rcv_v rfl hm1)) (Nat.le_of_ble_eq_true rfl) (Nat.le_of_ble_eq_true rfl) (by omega) c2 ?_
  refine lx_p hC lx_i15_ok 2 (c' := (884, [some (.ref 1000000), some (.ref 0), some (.ref 179), some (.ref 225), some (.int i), some (.int k0), some (.int b0)], [.ref 179])) rfl ?_
  refine lx_call hC lx_i15_ok (am_site_v (ix := 84) (y := 147) (k := 1) (ci := 11) rfl rfl (am_rcv_v rfl hm2)) (Nat.le_of_ble_eq_true rfl) (Nat.le_of_ble_eq_true rfl) (by omega) c3 ?_
  refine lx_p hC lx_i15_ok 1 (c' := (889, [some (.ref 1000000), some (.ref 0), some (.ref 179), some (.ref 225), some (.int i), some (.int k0), some (.int b0)], [.int k0, .int k0])) rfl ?_
  refine lx_b hC lx_i15_ok (q := k0 = k0) rfl rfl (fun _ => ?_) (fun hq => absurd rfl hq)
  refine lx_p hC lx_i15_ok 1 (c' := (896, [some (.ref 1000000), some (.ref 0), some (.ref 179), some (.ref 225), some (.int i), some (.int k0), some (.int b0)], [.int k0])) rfl ?_
  refine lx_b hC lx_i15_ok (q := ¬ k0 = 0) rfl rfl (fun _ => lx_p hC lx_i15_ok 1 (c' := (982, [some (.ref 1000000), some (.ref 0), some (.ref 179), some (.ref 225), some (.int i), some (.int k0), some (.int b0)], [])) rfl (kk _ _ _ _ (by omega) cp)) (fun hq => ?_)
  obtain ⟨f, hf1, hf2⟩ := ho (Decidable.not_not.mp hq)
  refine lx_p hC lx_i15_ok 2 (c' := (901, [some (.ref 1000000), some (.ref 0), some (.ref 179), some (.ref 225), some (.int i), some (.int k0), some (.int b0)], [.int 0, .ref 225])) rfl ?_
  refine lx_n1 hC lx_i15_ok (am_n_lald rfl hf1 (by decide)) ?_
  refine lx_p hC lx_i15_ok 3 (c' := (906, [some (.ref 1000000), some (.ref 0), some (.ref 179), some (.ref 225), some (.int i), some (.int k0), some (.int b0)], [.int (lg_cmp (f 0) b0.toInt64)])) rfl ?_
  refine lx_b hC lx_i15_ok (q := (lg_cmp (f 0) b0.toInt64) = 0) rfl rfl (fun _ => ?_) (fun hq => absurd (by rw [hf2]; exact lo_cmp _) hq)
  refine lx_p hC lx_i15_ok 1 (c' := (982, [some (.ref 1000000), some (.ref 0), some (.ref 179), some (.ref 225), some (.int i), some (.int k0), some (.int b0)], [])) rfl ?_
  exact kk _ _ _ _ (by omega) cp
theorem lo_16 (hC : lx_C p l s m meth c b L xs D ca) {i : Int32} {kv bv : Option Value} {h : List va_E} {g : Nat} {P : List va_E → Prop} (hg : g + 1 ≤ 600000) (v1 : vp_in (i + 1) L) (v2 : vp_in (i + 2) L) (ho : opH (lx_K l s b D ca) ⟨"PaperParcelsLaw", "emit", "(LPaperParcels;II[J)I"⟩ method_13_code 5 [(0, 10, 13, 13), (0, 10, 17, 41), (0, 10, 21, 53)] 227 [.int (xs (i + 1).toNatClampNeg), .int (xs (i + 2).toNatClampNeg)] h P) (kk : ∀ h' k' b' g', g' ≤ g + 1 → P h' → lx_W p l e s m below meth c b D ca (982, [some (.ref 1000000), some (.ref 0), some (.ref 179), some (.ref 225), some (.int i), k', b'], [], h') g') : lx_W p l e s m below meth c b D ca (914, [some (.ref 1000000), some (.ref 0), some (.ref 179), some (.ref 225), some (.int i), kv, bv], [], h) g := by
  obtain ⟨k0, b0, h1, h2, h3, g1, hg1, ch, ⟨fs1, hm1⟩, c2, ⟨fs2, hm2⟩, c3, ho, cp⟩ := ho
  refine lx_p hC lx_i16_ok 5 (c' := (920, [some (.ref 1000000), some (.ref 0), some (.ref 179), some (.ref 225), some (.int i), kv, bv], [.int (i + 1), .ref 1000000, .ref 0])) rfl ?_
  refine lx_ld hC lx_i16_ok rfl v1 ?_
  refine lx_p hC lx_i16_ok 4 (c' := (926, [some (.ref 1000000), some (.ref 0), some (.ref 179), some (.ref 225), some (.int i), kv, bv], [.int (i + 2), .ref 1000000, .int (xs (i + 1).toNatClampNeg), .ref 0])) rfl ?_
  refine lx_ld hC lx_i16_ok rfl v2 ?_
  refine lx_p hC lx_i16_ok 1 (c' := (928, [some (.ref 1000000), some (.ref 0), some (.ref 179), some (.ref 225), some (.int i), kv, bv], [.ref 225, .int (xs (i + 2).toNatClampNeg), .int (xs (i + 1).toNatClampNeg), .ref 0])) rfl ?_
  refine lx_help hC lx_i16_ok (ix := 126) (n := 4) (maxL := 5) (y := ⟨"PaperParcelsLaw", "emit", "(LPaperParcels;II[J)I"⟩) (bytes := method_13_code) (hh := [(0, 10, 13, 13), (0, 10, 17, 41), (0, 10, 21, 53)]) rfl lo_w_emit.1 lo_w_ini lo_w_emit.2.1 lo_w_emit.2.2 ⟨by decide +kernel, by decide +kernel⟩ (by decide +kernel) (Nat.le_of_ble_eq_true rfl) rfl (by omega) ch ?_
  refine lx_p hC lx_i16_ok 6 (c' := (939, [some (.ref 1000000), some (.ref 0), some (.ref 179), some (.ref 225), some (.int i), some (.int k0), bv], [.int (i + 1), .ref 1000000, .ref 179])) rfl ?_
  refine lx_ld hC lx_i16_ok rfl v1 ?_
  refine lx_p hC lx_i16_ok 4 (c' := (945, [some (.ref 1000000), some (.ref 0), some (.ref 179), some (.ref 225), some (.int i), some (.int k0), bv], [.int (i + 2), .ref 1000000, .int (xs (i + 1).toNatClampNeg), .ref 179])) rfl ?_
  refine lx_ld hC lx_i16_ok rfl v2 ?_
  refine lx_call hC lx_i16_ok (am_site_v (ix := 128) (y := 227) (k := 3) (ci := 11) rfl rfl (am_rcv_v rfl hm1)) (Nat.le_of_ble_eq_true rfl) (Nat.le_of_ble_eq_true rfl) (by omega) c2 ?_
  refine lx_p hC lx_i16_ok 2 (c' := (952, [some (.ref 1000000), some (.ref 0), some (.ref 179), some (.ref 225), some (.int i), some (.int k0), some (.int b0)], [.ref 179])) rfl ?_
  refine lx_call hC lx_i16_ok (am_site_v (ix := 84) (y := 147) (k := 1) (ci := 11) rfl rfl (am_rcv_v rfl hm2)) (Nat.le_of_ble_eq_true rfl) (Nat.le_of_ble_eq_true rfl) (by omega) c3 ?_
  refine lx_p hC lx_i16_ok 1 (c' := (957, [some (.ref 1000000), some (.ref 0), some (.ref 179), some (.ref 225), some (.int i), some (.int k0), some (.int b0)], [.int k0, .int k0])) rfl ?_
  refine lx_b hC lx_i16_ok (q := k0 = k0) rfl rfl (fun _ => ?_) (fun hq => absurd rfl hq)
  refine lx_p hC lx_i16_ok 1 (c' := (964, [some (.ref 1000000), some (.ref 0), some (.ref 179), some (.ref 225), some (.int i), some (.int k0), some (.int b0)], [.int k0])) rfl ?_
  refine lx_b hC lx_i16_ok (q := ¬ k0 = 0) rfl rfl (fun _ => lx_p hC lx_i16_ok 1 (c' := (982, [some (.ref 1000000), some (.ref 0), some (.ref 179), some (.ref 225), some (.int i), some (.int k0), some (.int b0)], [])) rfl (kk _ _ _ _ (by omega) cp)) (fun hq => ?_)
  obtain ⟨f, hf1, hf2⟩ := ho (Decidable.not_not.mp hq)
  refine lx_p hC lx_i16_ok 2 (c' := (969, [some (.ref 1000000), some (.ref 0), some (.ref 179), some (.ref 225), some (.int i), some (.int k0), some (.int b0)], [.int 0, .ref 225])) rfl ?_
  refine lx_n1 hC lx_i16_ok (am_n_lald rfl hf1 (by decide)) ?_
  refine lx_p hC lx_i16_ok 3 (c' := (974, [some (.ref 1000000), some (.ref 0), some (.ref 179), some (.ref 225), some (.int i), some (.int k0), some (.int b0)], [.int (lg_cmp (f 0) b0.toInt64)])) rfl ?_
  refine lx_b hC lx_i16_ok (q := (lg_cmp (f 0) b0.toInt64) = 0) rfl rfl (fun _ => ?_) (fun hq => absurd (by rw [hf2]; exact lo_cmp _) hq)
  refine lx_p hC lx_i16_ok 1 (c' := (982, [some (.ref 1000000), some (.ref 0), some (.ref 179), some (.ref 225), some (.int i), some (.int k0), some (.int b0)], [])) rfl ?_
  exact kk _ _ _ _ (by omega) cp
end LO

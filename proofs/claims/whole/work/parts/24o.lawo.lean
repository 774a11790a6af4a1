/-! The law's loop (printed by wip/gen/loop.py). -/
/-- what the n-th call asks of class and model, whatever it is: P n before it, P (n + 1) behind it -/
def lx_Ops (K : cx_K) (h : List va_E) (P : List va_E → Prop) : Prop := P h ∧ (∀ v : Int64, op2 K 12 148 [.long v] h P) ∧ (op2 K 14 149 [] h P) ∧ (op2 K 16 150 [] h P) ∧ (∀ a1 : Int32, op2 K 17 151 [.int a1] h P) ∧ (∀ a1 : Int32, opH K ⟨"PaperParcelsLaw", "read", "(LPaperParcels;I[J)I"⟩ method_3_code 4 [(0, 9, 12, 13)] 152 [.int a1] h P) ∧ (op2 K 19 200 [] h P) ∧ (∀ a1 : Int32, opH K ⟨"PaperParcelsLaw", "nodes", "(LPaperParcels;I[J)I"⟩ method_4_code 4 [(0, 9, 12, 13)] 201 [.int a1] h P) ∧ (∀ a1 a2 : Int32, opH K ⟨"PaperParcelsLaw", "kind", "(LPaperParcels;II[J)I"⟩ method_5_code 5 [(0, 10, 13, 13), (0, 10, 17, 22)] 203 [.int a1, .int a2] h P) ∧ (∀ a1 a2 : Int32, opH K ⟨"PaperParcelsLaw", "above", "(LPaperParcels;II[J)I"⟩ method_6_code 5 [(0, 10, 13, 13), (0, 10, 17, 22)] 205 [.int a1, .int a2] h P) ∧ (∀ a1 a2 a3 : Int32, opH K ⟨"PaperParcelsLaw", "look", "(LPaperParcels;III[J)I"⟩ method_7_code 6 [(0, 12, 15, 13), (0, 12, 19, 22)] 206 [.int a1, .int a2, .int a3] h P) ∧ (∀ a1 a2 : Int32, opH K ⟨"PaperParcelsLaw", "letters", "(LPaperParcels;II[J)I"⟩ method_8_code 5 [(0, 10, 13, 13), (0, 10, 17, 22)] 208 [.int a1, .int a2] h P) ∧ (∀ a1 a2 a3 : Int32, opH K ⟨"PaperParcelsLaw", "letter", "(LPaperParcels;III[J)I"⟩ method_9_code 6 [(0, 12, 15, 13), (0, 12, 19, 22)] 209 [.int a1, .int a2, .int a3] h P) ∧ (opH K ⟨"PaperParcelsLaw", "compare", "(LPaperParcels;[J)I"⟩ method_10_code 3 [(0, 8, 11, 41)] 210 [] h P) ∧ (op2 K 20 220 [] h P) ∧ (∀ a1 : Int32, ∀ bb : Int32, (bb = 0 ∨ bb = 1) → opH K ⟨"PaperParcelsLaw", "step", "(LPaperParcels;IZ[J)I"⟩ method_11_code 5 [(0, 10, 13, 22)] 221 [.int a1, .int bb] h P) ∧ (∀ a1 : Int32, opH K ⟨"PaperParcelsLaw", "apply", "(LPaperParcels;I[J)I"⟩ method_12_code 4 [(0, 9, 12, 41), (0, 9, 15, 13)] 222 [.int a1] h P) ∧ (∀ a1 a2 : Int32, opH K ⟨"PaperParcelsLaw", "emit", "(LPaperParcels;II[J)I"⟩ method_13_code 5 [(0, 10, 13, 13), (0, 10, 17, 41), (0, 10, 21, 53)] 227 [.int a1, .int a2] h P)
theorem lo_tb (x : Int32) : (x.toInt < 0 ∨ 16 < x.toInt) ∨ ∃ k : Nat, k < 17 ∧ x = Int32.ofNat k := by
  by_cases h : x.toInt < 0 ∨ 16 < x.toInt
  · exact Or.inl h
  · refine Or.inr ⟨x.toInt.toNat, by omega, ?_⟩
    have e : ((x.toInt.toNat : Nat) : Int) = x.toInt := by omega
    show x = Int32.ofNat x.toInt.toNat
    rw [← Int32.ofInt_eq_ofNat, e, Int32.ofInt_toInt]
theorem lo_df {x : Int32} (hx : x.toInt < 0 ∨ 16 < x.toInt) (L : List (Option Value)) (st : List Value) : am_p (.tableswitch 943 0 16 #[81, 138, 151, 164, 189, 245, 258, 314, 382, 450, 530, 598, 678, 722, 735, 819, 875]) 81 39 L (.int x :: st) = some (982, L, st) := by
  show (if x.toInt < 0 ∨ 16 < x.toInt then (if ((39 : Nat) : Int) + 943 = (am_tgt 39 943 : Int) then some (am_tgt 39 943, L, st) else none) else _) = _
  rw [if_pos hx]
  rfl
set_option maxRecDepth 100000
section LP
variable {p : Program} {l : Launch} {e : Env} {s : State} {m : MethodId} {below : List Frame} {meth : Method} {c : Code} {b L : Nat} {xs : Nat → Int32} {D : va_G} {ca : Nat → ClassId}
/-- from the switch to the loop's end -/
theorem lp_sw (hC : lx_C p l s m meth c b L xs D ca) {i x : Int32} {kv bv : Option Value} {h : List va_E} {g : Nat} {P : List va_E → Prop} (hg : g + 1 ≤ 600000) (v1 : vp_in (i + 1) L) (v2 : vp_in (i + 2) L) (v3 : vp_in (i + 3) L) (ho : lx_Ops (lx_K l s b D ca) h P)
    (kk : ∀ h' k' b' g', g' ≤ g + 1 → P h' → lx_W p l e s m below meth c b D ca (982, lx_L i k' b', [], h') g') : lx_W p l e s m below meth c b D ca (39, lx_L i kv bv, [.int x], h) g := by
  obtain ⟨oo, o0, o1, o2, o3, o4, o5, o6, o7, o8, o9, o10, o11, o12, o13, o14, o15, o16⟩ := ho
  rcases lo_tb x with hx | ⟨k, hk, rfl⟩
  · refine lx_n1 hC lx_iH_ok (S' := (982, lx_L i kv bv, [], h)) ?_ (kk _ _ _ _ (by omega) oo)
    have e1 : am_in lx_iH 39 = some (.tableswitch 943 0 16 #[81, 138, 151, 164, 189, 245, 258, 314, 382, 450, 530, 598, 678, 722, 735, 819, 875], 81) := rfl
    unfold am_n
    simp only [e1, lo_df hx]
  · match k, hk with
    | 0, _ => exact lx_p hC lx_iH_ok 1 (c' := (120, lx_L i kv bv, [])) rfl (lo_0 hC hg v1 v2 (o0 _) (fun h' q => kk h' _ _ _ (by omega) q))
    | 1, _ => exact lx_p hC lx_iH_ok 1 (c' := (177, lx_L i kv bv, [])) rfl (lo_1 hC hg  (o1) (fun h' q => kk h' _ _ _ (by omega) q))
    | 2, _ => exact lx_p hC lx_iH_ok 1 (c' := (190, lx_L i kv bv, [])) rfl (lo_2 hC hg  (o2) (fun h' q => kk h' _ _ _ (by omega) q))
    | 3, _ => exact lx_p hC lx_iH_ok 1 (c' := (203, lx_L i kv bv, [])) rfl (lo_3 hC hg v1 (o3 _) (fun h' q => kk h' _ _ _ (by omega) q))
    | 4, _ => exact lx_p hC lx_iH_ok 1 (c' := (228, lx_L i kv bv, [])) rfl (lo_4 hC hg v1 (o4 _) kk)
    | 5, _ => exact lx_p hC lx_iH_ok 1 (c' := (284, lx_L i kv bv, [])) rfl (lo_5 hC hg  (o5) (fun h' q => kk h' _ _ _ (by omega) q))
    | 6, _ => exact lx_p hC lx_iH_ok 1 (c' := (297, lx_L i kv bv, [])) rfl (lo_6 hC hg v1 (o6 _) kk)
    | 7, _ => exact lx_p hC lx_iH_ok 1 (c' := (353, lx_L i kv bv, [])) rfl (lo_7 hC hg v1 v2 (o7 _ _) kk)
    | 8, _ => exact lx_p hC lx_iH_ok 1 (c' := (421, lx_L i kv bv, [])) rfl (lo_8 hC hg v1 v2 (o8 _ _) kk)
    | 9, _ => exact lx_p hC lx_iH_ok 1 (c' := (489, lx_L i kv bv, [])) rfl (lo_9 hC hg v1 v2 v3 (o9 _ _ _) kk)
    | 10, _ => exact lx_p hC lx_iH_ok 1 (c' := (569, lx_L i kv bv, [])) rfl (lo_10 hC hg v1 v2 (o10 _ _) kk)
    | 11, _ => exact lx_p hC lx_iH_ok 1 (c' := (637, lx_L i kv bv, [])) rfl (lo_11 hC hg v1 v2 v3 (o11 _ _ _) kk)
    | 12, _ => exact lx_p hC lx_iH_ok 1 (c' := (717, lx_L i kv bv, [])) rfl (lo_12 hC hg  (o12) kk)
    | 13, _ => exact lx_p hC lx_iH_ok 1 (c' := (761, lx_L i kv bv, [])) rfl (lo_13 hC hg  (o13) (fun h' q => kk h' _ _ _ (by omega) q))
    | 14, _ => exact lx_p hC lx_iH_ok 1 (c' := (774, lx_L i kv bv, [])) rfl (lo_14 hC hg v1 v2 (o14 _) kk)
    | 15, _ => exact lx_p hC lx_iH_ok 1 (c' := (858, lx_L i kv bv, [])) rfl (lo_15 hC hg v1 (o15 _) kk)
    | 16, _ => exact lx_p hC lx_iH_ok 1 (c' := (914, lx_L i kv bv, [])) rfl (lo_16 hC hg v1 v2 (o16 _ _) kk)
    | k + 17, hk => exact absurd hk (by omega)
theorem lp_no {L n : Nat} (hL : L ≤ 2048) (h : 4 * n + 4 ≤ L) : ¬ Int32.ofNat L - 4 < nI (4 * n) := by
  obtain ⟨q, rfl⟩ : ∃ q, L = q + 4 := ⟨L - 4, by omega⟩
  have e : Int32.ofNat (q + 4) - 4 = nI q := by
    rw [show Int32.ofNat (q + 4) = nI q + 4 from (nI_add q 4).symm, Int32.add_sub_cancel]
  rw [e]
  intro hq
  have := (nI_ltI (by omega) (by omega)).mp hq
  omega
theorem lp_yes {L n : Nat} (hL : L ≤ 2048) (h : L < 4 * n + 4) (hn : 4 * n ≤ 2048) : Int32.ofNat L - 4 < nI (4 * n) := by
  by_cases h4 : 4 ≤ L
  · obtain ⟨q, rfl⟩ : ∃ q, L = q + 4 := ⟨L - 4, by omega⟩
    have e : Int32.ofNat (q + 4) - 4 = nI q := by
      rw [show Int32.ofNat (q + 4) = nI q + 4 from (nI_add q 4).symm, Int32.add_sub_cancel]
    rw [e]
    exact (nI_ltI (by omega) (by omega)).mpr (by omega)
  · have e0 : (0 : Int32) ≤ nI (4 * n) := nI_le (a := 0) (Nat.zero_le _) (by omega)
    have e1 : Int32.ofNat L - 4 < 0 := by
      have : L = 0 ∨ L = 1 ∨ L = 2 ∨ L = 3 := by omega
      rcases this with rfl | rfl | rfl | rfl <;> decide
    exact Int32.lt_of_lt_of_le e1 e0
/-- the loop's head -/
theorem lp_head (hC : lx_C p l s m meth c b L xs D ca) {i : Int32} {kv bv : Option Value} {h : List va_E} {g : Nat} (k1 : Int32.ofNat L - 4 < i → lx_W p l e s m below meth c b D ca (988, lx_L i kv bv, [], h) g) (k2 : ¬ Int32.ofNat L - 4 < i → lx_W p l e s m below meth c b D ca (32, lx_L i kv bv, [], h) g) : lx_W p l e s m below meth c b D ca (23, lx_L i kv bv, [], h) g := by
  refine lx_p hC lx_iH_ok 2 (c' := (26, lx_L i kv bv, [.ref 1000000, .int i])) rfl ?_
  refine lx_len hC lx_iH_ok rfl ?_
  refine lx_p hC lx_iH_ok 2 (c' := (29, lx_L i kv bv, [.int (Int32.ofNat L - 4), .int i])) rfl ?_
  exact lx_b hC lx_iH_ok (q := Int32.ofNat L - 4 < i) (c1 := (988, lx_L i kv bv, [])) (c2 := (32, lx_L i kv bv, [])) rfl rfl k1 k2
theorem lp_end (hC : lx_C p l s m meth c b L xs D ca) (hL : L ≤ 2048) {n : Nat} {kv bv : Option Value} {h : List va_E} {g : Nat} (h1 : L < 4 * n + 4) (h2 : 4 * n ≤ 2048) (h3 : g ≤ n) : lx_W p l e s m below meth c b D ca (23, lx_L (nI (4 * n)) kv bv, [], h) g := by
  refine lp_head hC (fun _ => ?_) (fun hq => absurd (lp_yes hL h1 h2) hq)
  refine lx_p hC lx_iH_ok 1 (c' := (989, lx_L (nI (4 * n)) kv bv, [.int 1])) rfl ?_
  exact lx_end hC (by omega)
/-- the loop: j calls at the most are left -/
theorem lp_loop (hC : lx_C p l s m meth c b L xs D ca) (hL : L ≤ 2048) {P : Nat → List va_E → Prop} (ho : ∀ n h, 4 * n + 4 ≤ L → P n h → lx_Ops (lx_K l s b D ca) h (P (n + 1))) : ∀ (j n : Nat) (kv bv : Option Value) (h : List va_E) (g : Nat), L < 4 * (n + j) + 4 → 4 * n ≤ 2048 → g ≤ n → P n h → lx_W p l e s m below meth c b D ca (23, lx_L (nI (4 * n)) kv bv, [], h) g := by
  intro j
  induction j with
  | zero =>
    intro n kv bv h g h1 h2 h3 hP
    exact lp_end hC hL h1 h2 h3
  | succ j ih =>
    intro n kv bv h g h1 h2 h3 hP
    by_cases h4 : 4 * n + 4 ≤ L
    · have i1 : nI (4 * n) + 1 = nI (4 * n + 1) := nI_add _ 1
      have i2 : nI (4 * n) + 2 = nI (4 * n + 2) := nI_add _ 2
      have i3 : nI (4 * n) + 3 = nI (4 * n + 3) := nI_add _ 3
      have i4 : nI (4 * n) + Int32.ofInt 4 = nI (4 * (n + 1)) := nI_add _ 4
      refine lp_head hC (fun hq => absurd hq (lp_no hL h4)) (fun _ => ?_)
      refine lx_p hC lx_iH_ok 2 (c' := (35, lx_L (nI (4 * n)) kv bv, [.int (nI (4 * n)), .ref 1000000])) rfl ?_
      refine lx_ld hC lx_iH_ok rfl (nI_in (by omega) (by omega)) ?_
      refine lx_p hC lx_iH_ok 2 (c' := (39, lx_L (nI (4 * n)) kv bv, [.int (xs (nI (4 * n)).toNatClampNeg &&& (Int8.ofInt 31).toInt32)])) rfl ?_
      refine lp_sw hC (by omega) (by rw [i1]; exact nI_in (by omega) (by omega)) (by rw [i2]; exact nI_in (by omega) (by omega)) (by rw [i3]; exact nI_in (by omega) (by omega)) (ho n h h4 hP) (fun h' k' b' g' q1 q2 => ?_)
      refine lx_p hC lx_iH_ok 2 (c' := (23, lx_L (nI (4 * n) + Int32.ofInt 4) k' b', [])) rfl ?_
      rw [i4]
      exact ih (n + 1) k' b' h' g' (by omega) (by omega) (by omega) q2
    · exact lp_end hC hL (by omega) h2 h3
end LP

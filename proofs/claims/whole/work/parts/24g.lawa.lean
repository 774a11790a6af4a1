/-! The law's beginning: class, model and the place for answers are made. -/
def hp_n0 : List va_E := [.inr (0, [.null, .null, .null, .null, .null])]
def hp_n1 : List va_E := hp_c ++ [.inr (11, [.int 0, .null, .int 0, .int 0, .null, .null, .null, .null, .null, .null, .null, .null, .null, .null, .null, .int 0, .int 0, .int 0, .int 0, .null, .null, .null, .null, .null, .null, .null, .null, .null, .null, .null, .null, .int 0, .int 0, .null, .null, .null, .null, .null, .null, .null, .null, .int 0, .int 0, .null, .null, .null, .null, .null, .null, .null, .null, .null, .null, .null, .null, .null, .int 0])]
def hp_0 : List va_E := (hp_c ++ hp_m) ++ [.inl (2, 1, .inr (.inl (fun _ => 0)))]
def lx_L (i : Int32) (k b : Option Value) : List (Option Value) := [some (.ref 1000000), some (.ref 0), some (.ref 179), some (.ref 225), some (.int i), k, b]
def lx_fin (S : am_S) : Option (Option Value) := if S.1 = 23 ∧ S.2.1 = lx_L 0 none none ∧ S.2.2.1 = [] then some none else none
section LXA
variable {ins : Nat → Option (Instr × Nat)} {fld : Nat → Option (Nat × Nat × Nat)} {cst : Nat → Option Value} {knw : Nat → Option (Nat × List Value)} {anw mnw obj : Nat → Bool} {site : Nat → Option (Nat × Nat × Nat × Nat)} {fin : am_S → Option (Option Value)} {Cr : Nat → List Value → List va_E → Option Value → List va_E → Prop} {n : Nat} {S : am_S} {v : Option Value} {h' : List va_E}
theorem lx_sn (S' : am_S) (hs : am_nA ins fld cst knw anw mnw obj S = some S') (h : am_EA ins fld cst knw anw mnw obj site fin Cr n S' v h') : am_EA ins fld cst knw anw mnw obj site fin Cr (n + 1) S v h' := Or.inl ⟨S', hs, h⟩
theorem lx_sc (y k : Nat) (h1 : List va_E) {ix kd ci : Nat} (hs : am_site ins site S = some (ix, kd, y, k, ci)) (hk : k ≤ S.2.2.1.length) (hw : ((S.2.2.1.drop k).map fun v => v.category).sum ≤ 8) (hc : Cr y (S.2.2.1.take k).reverse S.2.2.2 none h1) (h : am_EA ins fld cst knw anw mnw obj site fin Cr n (S.1 + 3, S.2.1, S.2.2.1.drop k, h1) v h') : am_EA ins fld cst knw anw mnw obj site fin Cr (n + 1) S v h' := Or.inr (Or.inl ⟨ix, kd, y, k, ci, none, h1, hs, hk, hw, hc, h⟩)
end LXA
def lx_Cr (y : Nat) (As : List Value) (h : List va_E) (w : Option Value) (h1 : List va_E) : Prop := nd_rA 5 y As h = some (w, h1)
set_option maxRecDepth 100000 in
theorem hp_c_len : hp_c.length = 179 := rfl
set_option maxRecDepth 100000 in
theorem hp_cm_len : (hp_c ++ hp_m).length = 225 := rfl
def lx_E (n : Nat) (S : am_S) : Prop := am_EA (am_in lx_iA) (am_fl []) (am_ct []) (am_nl lx_n) (am_pl []) (am_pl []) (am_pl []) (am_sl nd_ml lx_s) lx_fin lx_Cr n S none hp_0
theorem lx_e3 : lx_E 7 (15, [some (.ref 1000000), some (.ref 0), none, none, none, none, none], [.ref 179], hp_c ++ hp_m) := by
  generalize hg : hp_c ++ hp_m = g
  have hl : g.length = 225 := by rw [← hg]; exact hp_cm_len
  have h0 : hp_0 = g ++ [.inl (2, 1, .inr (.inl (fun _ => 0)))] := by rw [← hg]; rfl
  unfold lx_E
  rw [h0]
  refine lx_sn (16, [some (.ref 1000000), some (.ref 0), some (.ref 179), none, none, none, none], [], g) rfl ?_
  refine lx_sn (17, [some (.ref 1000000), some (.ref 0), some (.ref 179), none, none, none, none], [.int 1], g) rfl ?_
  refine lx_sn (19, [some (.ref 1000000), some (.ref 0), some (.ref 179), none, none, none, none], [.ref g.length], g ++ [.inl (2, 1, .inr (.inl (fun _ => 0)))]) rfl ?_
  rw [hl]
  refine lx_sn (20, [some (.ref 1000000), some (.ref 0), some (.ref 179), some (.ref 225), none, none, none], [], g ++ [.inl (2, 1, .inr (.inl (fun _ => 0)))]) rfl ?_
  refine lx_sn (21, [some (.ref 1000000), some (.ref 0), some (.ref 179), some (.ref 225), none, none, none], [.int 0], g ++ [.inl (2, 1, .inr (.inl (fun _ => 0)))]) rfl ?_
  refine lx_sn (23, lx_L 0 none none, [], g ++ [.inl (2, 1, .inr (.inl (fun _ => 0)))]) rfl ?_
  exact Or.inr (Or.inr ⟨rfl, rfl⟩)
theorem lx_new {g : List va_E} (L : List (Option Value)) : am_nA (am_in lx_iA) (am_fl []) (am_ct []) (am_nl lx_n) (am_pl []) (am_pl []) (am_pl []) (8, L, [], g) = some (11, L, [.ref g.length], g ++ [.inr (11, [.int 0, .null, .int 0, .int 0, .null, .null, .null, .null, .null, .null, .null, .null, .null, .null, .null, .int 0, .int 0, .int 0, .int 0, .null, .null, .null, .null, .null, .null, .null, .null, .null, .null, .null, .null, .int 0, .int 0, .null, .null, .null, .null, .null, .null, .null, .null, .int 0, .int 0, .null, .null, .null, .null, .null, .null, .null, .null, .null, .null, .null, .null, .null, .int 0])]) := rfl
theorem lx_e2 : lx_E 11 (7, [some (.ref 1000000), none, none, none, none, none, none], [.ref 0], hp_c) := by
  have e1 := hp_m_ok
  have e3 := lx_e3
  unfold lx_E at e3 ⊢
  refine lx_sn (8, [some (.ref 1000000), some (.ref 0), none, none, none, none, none], [], hp_c) rfl ?_
  refine lx_sn (11, [some (.ref 1000000), some (.ref 0), none, none, none, none, none], [.ref 179], hp_n1) ?_ ?_
  · rw [← hp_c_len]
    exact lx_new _
  refine lx_sn (12, [some (.ref 1000000), some (.ref 0), none, none, none, none, none], [.ref 179, .ref 179], hp_n1) rfl ?_
  refine lx_sc 146 1 (hp_c ++ hp_m) rfl (Nat.le_of_ble_eq_true rfl) (Nat.le_of_ble_eq_true rfl) e1 ?_
  exact e3
theorem lx_e1 : lx_E 14 (0, am_entry [.ref 1000000] 7, [], []) := by
  have e1 := hp_c_ok
  have e2 := lx_e2
  unfold lx_E at e2 ⊢
  refine lx_sn (3, [some (.ref 1000000), none, none, none, none, none, none], [.ref 0], hp_n0) rfl ?_
  refine lx_sn (4, [some (.ref 1000000), none, none, none, none, none, none], [.ref 0, .ref 0], hp_n0) rfl ?_
  refine lx_sc 0 1 hp_c rfl (Nat.le_of_ble_eq_true rfl) (Nat.le_of_ble_eq_true rfl) e1 ?_
  exact e2
set_option maxRecDepth 100000 in
theorem hp_0_len : hp_0.length = 226 := rfl
def hp_sz : Nat := am_sz hp_0
set_option maxRecDepth 100000 in
theorem hp_sz_le : Nat.ble hp_sz 200000 = true := by decide +kernel

/-! The law's walk: where it stands, its beginning, its steps. -/
/-- all that the walk stands on -/
def lx_C (p : Program) (l : Launch) (s : State) (m : MethodId) (meth : Method) (c : Code) (b L : Nat) (xs : Nat → Int32) (D : va_G) (ca : Nat → ClassId) : Prop :=
  lw_At p s m meth c b L xs ∧ cx_ok l D (sx_ad s b) ca (sx_A s) (sx_tys ca) (sx_X s) s.heap.size ∧ va_K D nd_cl (sx_tys ca) s ∧ sx_X s s
/-- at S, g cells thrown away so far: the law comes to its end with true -/
def lx_W (p : Program) (l : Launch) (e : Env) (s : State) (m : MethodId) (below : List Frame) (meth : Method) (c : Code) (b : Nat) (D : va_G) (ca : Nat → ClassId) (S : am_S) (g : Nat) : Prop :=
  ∀ ls H locs, am_at (sx_ad s b) ca D nd_cl (sx_A s) s.heap 7 S ls H locs → W p l e room_1 s m #[Value.ref b] below meth c H locs (226 + g) (hp_sz + 6 * g) (lw_Z below #[Value.ref b] s) (F0 m S.1 ls (S.2.2.1.map (am_v (sx_ad s b))))
section LWB
variable {p : Program} {l : Launch} {e : Env} {s : State} {m : MethodId} {below : List Frame} {meth : Method} {c : Code} {b L : Nat} {xs : Nat → Int32} {D : va_G} {ca : Nat → ClassId}
theorem lx_rm {ix kd y k ci : Nat} (hs : am_sl nd_ml lx_s ix = some (kd, y, k, ci)) : nd_fr y + 1 ≤ room_1.frames ∧ 8 + ((nd_mt y).2.2.1 + 11) + nd_lo y ≤ room_1.locals := by
  unfold am_sl at hs
  split at hs
  · cases hs
  · next y' b pos hf =>
    have h1 := List.all_eq_true.mp lx_s_rm _ (nm_find hf)
    split at hs
    · cases hs
    · simp only [Option.some.injEq, Prod.mk.injEq] at hs
      obtain ⟨-, rfl, -, -⟩ := hs
      exact of_decide_eq_true h1
theorem lx_Fw {meth : Method} : am_Fw meth R_law nm_Ts nd_cl (am_fl []) := nm_fok (ini := false) (L := []) nd_cok rfl (fun e => by cases e)
theorem lx_Sw : am_Sw R_law nm_Ts nm_Tn nd_cl nd_mt (am_sl nd_ml lx_s) := nm_sok lx_s_ok
theorem sx_ad_b : sx_ad s b 1000000 = b := by unfold sx_ad; rw [if_neg (by omega)]
theorem hp_sz_room : am_sz hp_0 ≤ room_1.slots + 0 := by
  have h := Nat.le_of_ble_eq_true hp_sz_le
  unfold hp_sz at h
  have e : room_1.slots = 7293034 := rfl
  omega
set_option maxHeartbeats 4000000 in
theorem lx_begin (hC : lx_C p l s m meth c b L xs D ca) (k : lx_W p l e s m below meth c b D ca (23, lx_L 0 none none, [], hp_0) 0) : W p l e room_1 s m #[Value.ref b] below meth c s.heap [] 0 0 (lw_Z below #[Value.ref b] s) (entryFrame m ([Value.ref b] : List Value).toArray 7) := by
  obtain ⟨⟨hx, hb, hr, hml, hown, hts0, hX, hbl, hlk, hgv⟩, hcx, hK, hXs⟩ := hC
  have hrA := nd_rA_ok hcx
  have t3 := cx_t3 hcx
  obtain ⟨t0, t1, t2, t33, t44, ⟨x1, x2, x3⟩, had, hD9, -⟩ := hcx
  have hts : ∀ w ∈ nm_Ts, w.before #[Value.ref b] s = true := fun w hw => hts0 w (List.mem_filter.mp hw).1
  have htn : ∀ w ∈ nm_Tn, w.before #[Value.ref b] s = true := fun w hw => x3 s hXs w hw _
  have hA : ([Value.ref 1000000].map (am_v (sx_ad s b))) = [Value.ref b] := by simp [am_v, sx_ad_b]
  have hl := lv_entry ([Value.ref 1000000].map (am_v (sx_ad s b))) (n := 7) (by rw [am_ent_len]; exact Nat.le_of_ble_eq_true rfl)
  rw [hA] at hl
  rw [lg_entry_eq]
  generalize (lg_sl ([Value.ref b]) ++ List.replicate (7 - (lg_sl ([Value.ref b])).length) Slot.unset).toArray = ls at hl ⊢
  rw [← hA] at hl
  have hL := am_has_entry (nL := 7) (Nat.le_of_ble_eq_true rfl) hl
  have hI := am_in_ok lx_iA_ok
  have hE := lx_e1
  unfold lx_E at hE
  have hoA := nd_okA (own := R_law) (F := 14) (G := 534) (LN := lx_n) (LA := []) (LM := []) (LO := []) lx_n_ok rfl rfl rfl (Nat.le_of_ble_eq_true rfl) (Nat.le_of_ble_eq_true rfl)
  obtain ⟨b1, b2, b3, b4, b44, b5, b6, b66, b7, b8, b9⟩ := hoA
  refine am_EA_ok (len0 := 0) (sz0 := 0) (v := none) (h' := hp_0) (fr := nd_fr) (lo := nd_lo) (own := R_law) (cl := nd_cl) (T3 := nd_T2) (N3 := 7) (Ts := nm_Ts) (Tn := nm_Tn) (XX := sx_X s) (mt := nd_mt) (b0 := s.heap.size) hx hb hml hown hts nm_good htn lx_Fw hK t0 t1 t2 t3 t33 t44 rfl b1 b2 b3 (htn _ b4) (htn _ b44) hI (nm_kok (L := []) rfl).1 (nm_kok (L := []) rfl).2 lx_Sw b5 b6 b66 b7 (Nat.le_of_ble_eq_true rfl) (Nat.le_of_ble_eq_true rfl) had rfl hD9 x1 (fun U hW hF => x2 s U hXs hW hF) (Cr := lx_Cr) (fun y As h w h1 hc => hrA 5 y As h w h1 hc) (fun ix kd y k ci hs => lx_rm hs) (by rw [hp_0_len]; exact Nat.le_of_ble_eq_true rfl) (by rw [hp_0_len]; exact Nat.le_of_ble_eq_true rfl) hp_sz_room ?_ 14 (0, am_entry [.ref 1000000] 7, [], []) hE ls s.heap [] 0 0 ⟨hL, (fun k q hq => by cases hq), hD9 [] (Nat.zero_le _), va_S.rf⟩ rfl rfl
  intro S ls H locs cells slots hv hh c1 c2 hat
  obtain ⟨pc, Lc, st, h⟩ := S
  unfold lx_fin at hv
  split at hv
  · next hq =>
    obtain ⟨e1, e2, e3⟩ := hq
    simp only at e1 e2 e3 hh
    subst e1 e2 e3 hh
    have e4 : cells = 226 + 0 := by rw [hp_0_len] at c1; omega
    have e5 : slots = hp_sz + 6 * 0 := by unfold hp_sz; omega
    rw [e4, e5]
    exact k ls H locs hat
  · cases hv
/-- a step that is no call -/
theorem lx_n1 {LI : List (Nat × Instr × Nat)} (hC : lx_C p l s m meth c b L xs D ca) (hI : am_ic code LI = true) {S S' : am_S} {g : Nat} (hn : am_n (am_in LI) (am_fl []) (am_ct lx_k) S = some S') (k : lx_W p l e s m below meth c b D ca S' g) : lx_W p l e s m below meth c b D ca S g := by
  obtain ⟨⟨hx, hb, hr, hml, hown, hts0, hX, hbl, hlk, hgv⟩, hcx, hK, hXs⟩ := hC
  have t3 := cx_t3 hcx
  obtain ⟨t0, t1, t2, t33, t44, ⟨x1, x2, x3⟩, had, hD9, -⟩ := hcx
  have hts : ∀ w ∈ nm_Ts, w.before #[Value.ref b] s = true := fun w hw => hts0 w (List.mem_filter.mp hw).1
  intro ls H locs hat
  exact am_n_ok (own := R_law) hx hb hown hts lx_Fw hK t0 t1 t2 t3 (am_in_ok hI) (nm_kok lx_k_ok).1 (nm_kok lx_k_ok).2 hat hn (fun ls' H1 locs1 h1 => k ls' H1 locs1 h1)
/-- so many steps that touch no cell -/
def am_ps (ins : Nat → Option (Instr × Nat)) : Nat → am_cfg → Option am_cfg
  | 0, c => some c
  | k + 1, c => match ins c.1 with
    | none => none
    | some (i, n) => match am_p i n c.1 c.2.1 c.2.2 with
      | none => none
      | some c' => am_ps ins k c'
theorem lx_p {LI : List (Nat × Instr × Nat)} (hC : lx_C p l s m meth c b L xs D ca) (hI : am_ic code LI = true) (n : Nat) {pc g : Nat} {Lc : List (Option Value)} {st : List Value} {h : List va_E} {c' : am_cfg} (hp : am_ps (am_in LI) n (pc, Lc, st) = some c') (k : lx_W p l e s m below meth c b D ca (c'.1, c'.2.1, c'.2.2, h) g) : lx_W p l e s m below meth c b D ca (pc, Lc, st, h) g := by
  induction n generalizing pc Lc st with
  | zero => cases hp; exact k
  | succ n ih =>
    unfold am_ps at hp
    split at hp
    · cases hp
    · next i w hi =>
      split at hp
      · cases hp
      · next c1 h1 =>
        refine lx_n1 (S' := (c1.1, c1.2.1, c1.2.2, h)) hC hI ?_ (ih hp)
        have hi' : am_in LI pc = some (i, w) := hi
        have h1' : am_p i w pc Lc st = some c1 := h1
        unfold am_n
        simp only [hi', h1']
/-- a branch -/
theorem lx_b {LI : List (Nat × Instr × Nat)} (hC : lx_C p l s m meth c b L xs D ca) (hI : am_ic code LI = true) {q : Prop} [Decidable q] {pc n g : Nat} {Lc : List (Option Value)} {st : List Value} {h : List va_E} {c1 c2 : am_cfg} {i : Instr} (hi : am_in LI pc = some (i, n)) (hp : am_p i n pc Lc st = if q then some c1 else some c2)
    (k1 : q → lx_W p l e s m below meth c b D ca (c1.1, c1.2.1, c1.2.2, h) g) (k2 : ¬ q → lx_W p l e s m below meth c b D ca (c2.1, c2.2.1, c2.2.2, h) g) : lx_W p l e s m below meth c b D ca (pc, Lc, st, h) g := by
  by_cases hq : q
  · rw [if_pos hq] at hp
    refine lx_n1 hC hI ?_ (k1 hq)
    unfold am_n
    simp only [hi, hp]
  · rw [if_neg hq] at hp
    refine lx_n1 hC hI ?_ (k2 hq)
    unfold am_n
    simp only [hi, hp]
/-- an int of the script -/
theorem lx_ld {LI : List (Nat × Instr × Nat)} (hC : lx_C p l s m meth c b L xs D ca) (hI : am_ic code LI = true) {pc g : Nat} {Lc : List (Option Value)} {st : List Value} {h : List va_E} {i : Int32} (hi : am_in LI pc = some (.iaload, 1)) (hin : vp_in i L) (k : lx_W p l e s m below meth c b D ca (pc + 1, Lc, .int (xs i.toNatClampNeg) :: st, h) g) : lx_W p l e s m below meth c b D ca (pc, Lc, .int i :: .ref 1000000 :: st, h) g := by
  obtain ⟨⟨hx, hb, hr, hml, hown, hts0, hX, hbl, hlk, hgv⟩, hcx, hK, hXs⟩ := hC
  intro ls H locs hat
  have h1 := k ls H locs hat
  have e : (Value.int i :: .ref 1000000 :: st).map (am_v (sx_ad s b)) = .int i :: .ref b :: st.map (am_v (sx_ad s b)) := by simp [am_v, sx_ad_b]
  show W _ _ _ _ _ _ _ _ _ _ _ _ _ _ _ (F0 m pc ls ((Value.int i :: .ref 1000000 :: st).map (am_v (sx_ad s b))))
  rw [e]
  exact va_sld hx hb hX hbl (by unfold sx_A; omega) hat.2.2.2 hin (am_in_ok hI _ _ _ hi) h1
/-- the script's length -/
theorem lx_len {LI : List (Nat × Instr × Nat)} (hC : lx_C p l s m meth c b L xs D ca) (hI : am_ic code LI = true) {pc g : Nat} {Lc : List (Option Value)} {st : List Value} {h : List va_E} (hi : am_in LI pc = some (.arraylength, 1)) (k : lx_W p l e s m below meth c b D ca (pc + 1, Lc, .int (Int32.ofNat L) :: st, h) g) : lx_W p l e s m below meth c b D ca (pc, Lc, .ref 1000000 :: st, h) g := by
  obtain ⟨⟨hx, hb, hr, hml, hown, hts0, hX, hbl, hlk, hgv⟩, hcx, hK, hXs⟩ := hC
  intro ls H locs hat
  have h1 := k ls H locs hat
  have e : (Value.ref 1000000 :: st).map (am_v (sx_ad s b)) = .ref b :: st.map (am_v (sx_ad s b)) := by simp [am_v, sx_ad_b]
  show W _ _ _ _ _ _ _ _ _ _ _ _ _ _ _ (F0 m pc ls ((Value.ref 1000000 :: st).map (am_v (sx_ad s b))))
  rw [e]
  exact va_slen hx hb hX hbl (by unfold sx_A; omega) hat.2.2.2 (am_in_ok hI _ _ _ hi) h1
/-- fewer locals known -/
theorem lx_w {pc g : Nat} {Lc Lc' : List (Option Value)} {st : List Value} {h : List va_E} (hl : am_le Lc' Lc) (k : lx_W p l e s m below meth c b D ca (pc, Lc', st, h) g) : lx_W p l e s m below meth c b D ca (pc, Lc, st, h) g := by
  intro ls H locs hat
  obtain ⟨a1, a2, a3, a4⟩ := hat
  exact k ls H locs ⟨am_has_le a1 hl, a2, a3, a4⟩
/-- the end -/
theorem lx_end (hC : lx_C p l s m meth c b L xs D ca) {Lc : List (Option Value)} {h : List va_E} {g : Nat} (hg : g ≤ 600000) : lx_W p l e s m below meth c b D ca (989, Lc, [.int 1], h) g := by
  obtain ⟨⟨hx, hb, hr, hml, hown, hts0, hX, hbl, hlk, hgv⟩, hcx, hK, hXs⟩ := hC
  intro ls H locs hat
  refine va_forget (fun q hq => hat.2.2.2.2.2 q hq) (W.widen (k := 601024) (n := 7293034) (by omega) ?_ ?_)
  · have := Nat.le_of_ble_eq_true hp_sz_le
    omega
  · exact lw_ret hx hb hr hlk (am_in_ok lx_iH_ok 989 .ireturn 1 rfl)
end LWB

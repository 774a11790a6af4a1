/-! Going through a method whose function is known: hF says what the function answers, the rules keep machine and function side by side. -/
theorem zle_0 : am_le [] [] := ⟨rfl, fun _ _ h => h⟩
theorem zle_c {a : Option Value} {L L' : List (Option Value)} (h : am_le L' L) : am_le (a :: L') (a :: L) := by
  refine ⟨by rw [List.length_cons, List.length_cons, h.1], fun i w hw => ?_⟩
  cases i with
  | zero => exact hw
  | succ i => exact h.2 i w (by simpa using hw)
theorem zle_n {a : Option Value} {L L' : List (Option Value)} (h : am_le L' L) : am_le (none :: L') (a :: L) := by
  refine ⟨by rw [List.length_cons, List.length_cons, h.1], fun i w hw => ?_⟩
  cases i with
  | zero => cases hw
  | succ i => exact h.2 i w (by simpa using hw)
theorem zrcv {st : List Value} {lg : Nat → Int64} {s : zS} {j ci b : Nat} (h1 : st[j]? = some (.ref b)) (h2 : zsh b = ci) (h3 : Nat.blt ci 12 = true) : am_rcv st (zmk lg s) (j + 1) ci = true :=
  am_rcv_v h1 (zget_o h2 (Nat.le_of_ble_eq_true h3))
theorem zsite_0 {ins : Nat → Option (Instr × Nat)} {site : Nat → Option (Nat × Nat × Nat × Nat)} {pc ix y k ci : Nat} {L : List (Option Value)} {st : List Value} {h : List va_E} (hi : ins pc = some (.invokestatic ix, 3)) (hs : site ix = some (0, y, k, ci)) : am_site ins site (pc, L, st, h) = some (ix, 0, y, k, ci) := by
  unfold am_site
  simp only [hi, hs]
theorem zsite_3 {ins : Nat → Option (Instr × Nat)} {site : Nat → Option (Nat × Nat × Nat × Nat)} {pc ix y k ci : Nat} {L : List (Option Value)} {st : List Value} {h : List va_E} (hi : ins pc = some (.invokestatic ix, 3)) (hs : site ix = some (3, y, k, ci)) : am_site ins site (pc, L, st, h) = some (ix, 3, y, k, ci) := by
  unfold am_site
  simp only [hi, hs]
theorem zne {x y : Int32} {k : Int} (h : ¬ x = y) (hk : y.toInt = k) : k ≠ x.toInt := fun e => h (Int32.toInt_inj.mp (e ▸ hk).symm)
theorem zoff {ps : List (Int × Int)} {d k : Int} (h : ∀ q ∈ ps, q.1 ≠ k) : Op.lookupswitch.offset ps d k = d := by
  induction ps with
  | nil => rfl
  | cons a r ih =>
    have h1 := List.forall_mem_cons.mp h
    show (if a.1 = k then a.2 else Op.lookupswitch.offset r d k) = d
    rw [if_neg h1.1]
    exact ih h1.2
section EZ
variable {K : cx_K} {M : ev_M} {pc g : Nat} {L : List (Option Value)} {st : List Value} {lg : Nat → Int64} {s : zS} {o : am_O} {h' : List va_E} {g' : Nat} {R : Type} {r : R}
theorem Ez_gf {ix ci f k kd : Nat} {c : Int32 → Option R} (hi : M.1 pc = some (.getfield ix, 3)) (hf : M.2.1 ix = some (ci, f, kd)) (hk : zsh k = ci) (hc : zisI ci f = true) (hF : zgf s k f c = some r) (ev : ∀ v, c v = some r → Ev K M (pc + 3, L, .int v :: st, zmk lg s) g o h' g') : Ev K M (pc, L, .ref k :: st, zmk lg s) g o h' g' := by
  obtain ⟨h1, h2, h3⟩ := zisI_e hc
  exact Ev_get hi hf (zget_o hk h3) (by rw [zfs_get h2, if_pos h1]) (ev _ hF)
theorem Ez_gr {ix ci f k kd t : Nat} (hi : M.1 pc = some (.getfield ix, 3)) (hf : M.2.1 ix = some (ci, f, kd)) (hk : zsh k = ci) (hc : zisR ci f t = true) (ev : Ev K M (pc + 3, L, .ref (zrf k f) :: st, zmk lg s) g o h' g') : Ev K M (pc, L, .ref k :: st, zmk lg s) g o h' g' := by
  obtain ⟨h1, h2, h3, h4⟩ := zisR_e hc
  exact Ev_get hi hf (zget_o hk h4) (by rw [zfs_get h3, if_neg (by omega)]) ev
theorem Ez_pf {ix ci f k : Nat} {x : Int32} {c : zS → Option R} (hi : M.1 pc = some (.putfield ix, 3)) (hf : M.2.1 ix = some (ci, f, 0)) (hk : zsh k = ci) (hc : zisI ci f = true) (hF : zpf s k f x c = some r) (ev : ∀ s1, c s1 = some r → Ev K M (pc + 3, L, st, zmk lg s1) g o h' g') : Ev K M (pc, L, .int x :: .ref k :: st, zmk lg s) g o h' g' := by
  obtain ⟨h1, h2, h3⟩ := zisI_e hc
  refine Ev_put hi hf (zget_o hk h3) (by rw [zfs_len]; exact h2) rfl ?_
  rw [zset_o hk hc]
  exact ev _ hF
theorem Ez_pb {ix ci f k : Nat} {x : Int32} {c : zS → Option R} (hi : M.1 pc = some (.putfield ix, 3)) (hf : M.2.1 ix = some (ci, f, 1)) (hk : zsh k = ci) (hc : zisI ci f = true) (hF : zpb s k f x c = some r) (ev : ∀ s1, c s1 = some r → Ev K M (pc + 3, L, st, zmk lg s1) g o h' g') : Ev K M (pc, L, .int x :: .ref k :: st, zmk lg s) g o h' g' := by
  obtain ⟨h1, h2, h3⟩ := zisI_e hc
  unfold zpb at hF
  split at hF
  · next hx =>
    refine Ev_put hi hf (zget_o hk h3) (by rw [zfs_len]; exact h2) (by simpa [am_fit] using hx) ?_
    rw [zset_o hk hc]
    exact ev _ hF
  · cases hF
theorem Ez_al {a : Nat} {j : Int32} {c : Int32 → Option R} (hi : M.1 pc = some (.iaload, 1)) (hk : zsh a = 100) (hF : zal s a j c = some r) (ev : ∀ v, c v = some r → Ev K M (pc + 1, L, .int v :: st, zmk lg s) g o h' g') : Ev K M (pc, L, .int j :: .ref a :: st, zmk lg s) g o h' g' := by
  unfold zal at hF
  split at hF
  · cases hF
  · next hb => exact Ev_ild hi (zget_a hk) hb (ev _ hF)
theorem Ez_bl {a : Nat} {j : Int32} {c : Int32 → Option R} (hi : M.1 pc = some (.baload, 1)) (hk : zsh a = 101) (hF : zal s a j c = some r) (ev : ∀ v, c v = some r → Ev K M (pc + 1, L, .int v :: st, zmk lg s) g o h' g') : Ev K M (pc, L, .int j :: .ref a :: st, zmk lg s) g o h' g' := by
  unfold zal at hF
  split at hF
  · cases hF
  · next hb =>
    refine Ev_n ?_ (ev _ hF)
    unfold am_n
    simp only [hi]
    have e1 : am_p .baload 1 pc L (.int j :: .ref a :: st) = none := rfl
    have e2 : am_hA M.2.1 .baload 1 pc L (.int j :: .ref a :: st) (zmk lg s) = none := rfl
    simp only [e1, e2, am_hB, zget_b hk, hb, not_false_eq_true, if_true]
theorem Ez_as {a : Nat} {j x : Int32} {c : zS → Option R} (hi : M.1 pc = some (.iastore, 1)) (hk : zsh a = 100) (hF : zas s a j x c = some r) (ev : ∀ s1, c s1 = some r → Ev K M (pc + 1, L, st, zmk lg s1) g o h' g') : Ev K M (pc, L, .int x :: .int j :: .ref a :: st, zmk lg s) g o h' g' := by
  unfold zas at hF
  split at hF
  · cases hF
  · next hb =>
    refine Ev_ist hi (zget_a hk) hb ?_
    rw [zset_a hk]
    exact ev _ hF
theorem Ez_bs {a : Nat} {j x : Int32} {c : zS → Option R} (hi : M.1 pc = some (.bastore, 1)) (hk : zsh a = 101) (hF : zbs s a j x c = some r) (ev : ∀ s1, c s1 = some r → Ev K M (pc + 1, L, st, zmk lg s1) g o h' g') : Ev K M (pc, L, .int x :: .int j :: .ref a :: st, zmk lg s) g o h' g' := by
  unfold zbs at hF
  split at hF
  · cases hF
  · next hb =>
    have ev1 := ev _ hF
    rw [← zset_b hk] at ev1
    refine Ev_n ?_ ev1
    unfold am_n
    simp only [hi]
    have e1 : am_p .bastore 1 pc L (.int x :: .int j :: .ref a :: st) = none := rfl
    have e2 : am_hA M.2.1 .bastore 1 pc L (.int x :: .int j :: .ref a :: st) (zmk lg s) = none := rfl
    simp only [e1, e2, am_hB, zget_b hk, hb, not_false_eq_true, if_true]
theorem Ez_ar3 {a : Nat} {j : Int32} {c : Nat → Option R} (hi : M.1 pc = some (.aaload, 1)) (hk : zsh a = 103) (hF : zar a j c = some r) (ev : ∀ q, zsh q = 2 → c q = some r → Ev K M (pc + 1, L, .ref q :: st, zmk lg s) g o h' g') : Ev K M (pc, L, .int j :: .ref a :: st, zmk lg s) g o h' g' := by
  unfold zar at hF
  split at hF
  · cases hF
  · next hb =>
    obtain ⟨q1, q2⟩ := zrg_3 hk (j := j.toNatClampNeg) (by omega)
    refine Ev_n ?_ (ev _ q2 hF)
    unfold am_n
    simp only [hi]
    have e1 : am_p .aaload 1 pc L (.int j :: .ref a :: st) = none := rfl
    have e2 : am_hA M.2.1 .aaload 1 pc L (.int j :: .ref a :: st) (zmk lg s) = none := rfl
    simp only [e1, e2, am_hB, zget_r (Or.inl hk), hk, hb, q1]
    rfl
theorem Ez_ar4 {a : Nat} {j : Int32} {c : Nat → Option R} (hi : M.1 pc = some (.aaload, 1)) (hk : zsh a = 104) (hF : zar a j c = some r) (ev : ∀ q, zsh q = 100 → c q = some r → Ev K M (pc + 1, L, .ref q :: st, zmk lg s) g o h' g') : Ev K M (pc, L, .int j :: .ref a :: st, zmk lg s) g o h' g' := by
  unfold zar at hF
  split at hF
  · cases hF
  · next hb =>
    obtain ⟨q1, q2⟩ := zrg_4 hk (j := j.toNatClampNeg) (by omega)
    refine Ev_n ?_ (ev _ q2 hF)
    unfold am_n
    simp only [hi]
    have e1 : am_p .aaload 1 pc L (.int j :: .ref a :: st) = none := rfl
    have e2 : am_hA M.2.1 .aaload 1 pc L (.int j :: .ref a :: st) (zmk lg s) = none := rfl
    simp only [e1, e2, am_hB, zget_r (Or.inr hk), hk, hb, q1]
    rfl
theorem Ez_len {a : Nat} (hi : M.1 pc = some (.arraylength, 1)) (hk : zsh a = 100) (ev : Ev K M (pc + 1, L, .int (nI (zca a)) :: st, zmk lg s) g o h' g') : Ev K M (pc, L, .ref a :: st, zmk lg s) g o h' g' := Ev_len hi (zget_a hk) ev
theorem Ez_ldc {ix : Nat} {x : Int32} {h : List va_E} (hi : M.1 pc = some (.ldc ix, 2)) (hc : M.2.2.1 ix = some (.int x)) (ev : Ev K M (pc + 2, L, .int x :: st, h) g o h' g') : Ev K M (pc, L, st, h) g o h' g' := by
  refine Ev_n ?_ ev
  unfold am_n
  simp only [hi]
  have e1 : am_p (.ldc ix) 2 pc L st = none := rfl
  have e2 : am_hA M.2.1 (.ldc ix) 2 pc L st h = none := rfl
  have e3 : am_hB (.ldc ix) 2 pc L st h = none := rfl
  simp only [e1, e2, e3, hc]
theorem Ez_ldc2_w {ix : Nat} {x : Int64} {h : List va_E} (hi : M.1 pc = some (.ldc2_w ix, 3)) (hc : M.2.2.1 ix = some (.long x)) (ev : Ev K M (pc + 3, L, .long x :: st, h) g o h' g') : Ev K M (pc, L, st, h) g o h' g' := by
  refine Ev_n ?_ ev
  unfold am_n
  simp only [hi]
  have e1 : am_p (.ldc2_w ix) 3 pc L st = none := rfl
  have e2 : am_hA M.2.1 (.ldc2_w ix) 3 pc L st h = none := rfl
  have e3 : am_hB (.ldc2_w ix) 3 pc L st h = none := rfl
  simp only [e1, e2, e3, hc]
theorem Ez_ldc_w {ix : Nat} {x : Int32} {h : List va_E} (hi : M.1 pc = some (.ldc_w ix, 3)) (hc : M.2.2.1 ix = some (.int x)) (ev : Ev K M (pc + 3, L, .int x :: st, h) g o h' g') : Ev K M (pc, L, st, h) g o h' g' := by
  refine Ev_n ?_ ev
  unfold am_n
  simp only [hi]
  have e1 : am_p (.ldc_w ix) 3 pc L st = none := rfl
  have e2 : am_hA M.2.1 (.ldc_w ix) 3 pc L st h = none := rfl
  have e3 : am_hB (.ldc_w ix) 3 pc L st h = none := rfl
  simp only [e1, e2, e3, hc]
theorem Ez_if {b : Prop} [Decidable b] {c1 c2 : am_cfg} {i : Instr} {n : Nat} {h : List va_E} {A B : Option R} (hi : M.1 pc = some (i, n)) (hp : am_p i n pc L st = if b then some c1 else some c2) (hF : (if b then A else B) = some r) (e1 : b → A = some r → Ev K M (c1.1, c1.2.1, c1.2.2, h) g o h' g') (e2 : ¬ b → B = some r → Ev K M (c2.1, c2.2.1, c2.2.2, h) g o h' g') : Ev K M (pc, L, st, h) g o h' g' :=
  Ev_b hi hp (fun hb => e1 hb (by rw [if_pos hb] at hF; exact hF)) (fun hb => e2 hb (by rw [if_neg hb] at hF; exact hF))
theorem Ez_if0 {b : Prop} [Decidable b] {S : am_S} {A B : Option R} (hF : (if b then A else B) = some r) (e1 : b → A = some r → Ev K M S g o h' g') (e2 : ¬ b → B = some r → Ev K M S g o h' g') : Ev K M S g o h' g' := by
  by_cases hb : b
  · exact e1 hb (by rw [if_pos hb] at hF; exact hF)
  · exact e2 hb (by rw [if_neg hb] at hF; exact hF)
theorem Ez_ri {x v : Int32} {s' : zS} (hi : M.1 pc = some (.ireturn, 1)) (hr : M.2.2.2.2.2 = some .int) (hF : some (x, s) = some (v, s')) : Ev K M (pc, L, [.int x], zmk lg s) g (.inl (some (.int v))) (zmk lg s') g := by
  cases hF
  refine Ev_r ?_
  unfold am_ret
  simp only [hi, hr]
theorem Ez_rb {x v : Int32} {s' : zS} (hi : M.1 pc = some (.ireturn, 1)) (hr : M.2.2.2.2.2 = some .boolean) (hF : zrb x s = some (v, s')) : Ev K M (pc, L, [.int x], zmk lg s) g (.inl (some (.int v))) (zmk lg s') g := by
  unfold zrb at hF
  split at hF
  · next hx =>
    cases hF
    refine Ev_r ?_
    unfold am_ret
    simp only [hi, hr, hx, if_true]
  · cases hF
theorem Ez_rv {s' : zS} (hi : M.1 pc = some (.return_, 1)) (hr : M.2.2.2.2.2 = none) (hF : some s = some s') : Ev K M (pc, L, [], zmk lg s) g (.inl none) (zmk lg s') g := by
  cases hF
  refine Ev_r ?_
  unfold am_ret
  simp only [hi, hr]
theorem Ez_ci {ix kd y k ci : Nat} {As st' : List Value} {F : Option (Int32 × zS)} {c : Int32 → zS → Option R} (hs : am_site M.1 M.2.2.2.1 (pc, L, st, zmk lg s) = some (ix, kd, y, k, ci)) (hk : k ≤ st.length) (hw : ((st.drop k).map fun v => v.category).sum ≤ 8) (ha : (st.take k).reverse = As) (hd : st.drop k = st') (hc : ∀ v s1, F = some (v, s1) → Ct K y As (zmk lg s) (.inl (some (.int v))) (zmk lg s1) 0) (hF : zbi F c = some r) (ev : ∀ v s1, c v s1 = some r → Ev K M (pc + 3, L, .int v :: st', zmk lg s1) g o h' g') : Ev K M (pc, L, st, zmk lg s) g o h' g' := by
  subst ha
  subst hd
  unfold zbi at hF
  split at hF
  · cases hF
  · next v s1 => exact Ev_call hs hk hw (hc v s1 rfl) (ev _ _ hF)
theorem Ez_cv {ix kd y k ci : Nat} {As st' : List Value} {F : Option zS} {c : zS → Option R} (hs : am_site M.1 M.2.2.2.1 (pc, L, st, zmk lg s) = some (ix, kd, y, k, ci)) (hk : k ≤ st.length) (hw : ((st.drop k).map fun v => v.category).sum ≤ 8) (ha : (st.take k).reverse = As) (hd : st.drop k = st') (hc : ∀ s1, F = some s1 → Ct K y As (zmk lg s) (.inl none) (zmk lg s1) 0) (hF : zbv F c = some r) (ev : ∀ s1, c s1 = some r → Ev K M (pc + 3, L, st', zmk lg s1) g o h' g') : Ev K M (pc, L, st, zmk lg s) g o h' g' := by
  subst ha
  subst hd
  unfold zbv at hF
  split at hF
  · cases hF
  · next s1 => exact Ev_call hs hk hw (hc s1 rfl) (ev _ hF)
theorem Ez_sw {d : Int} {ps : Array (Int × Int)} {n t : Nat} {x : Int32} {h : List va_E} (hi : M.1 pc = some (.lookupswitch d ps, n)) (ha : (ps.toList.zip (ps.toList.drop 1)).all (fun (a, next) => a.1 < next.1) = true) (ht : am_tgt pc d = t) (ht2 : (pc : Int) + d = (t : Int)) (hx : ∀ q ∈ ps.toList, q.1 ≠ x.toInt) (ev : Ev K M (t, L, st, h) g o h' g') : Ev K M (pc, L, .int x :: st, h) g o h' g' := by
  refine Ev_n ?_ ev
  unfold am_n
  simp only [hi]
  have e1 : am_p (.lookupswitch d ps) n pc L (.int x :: st) = am_pE (.lookupswitch d ps) n pc L (.int x :: st) := rfl
  have e2 : am_pE (.lookupswitch d ps) n pc L (.int x :: st) = some (t, L, st) := by
    unfold am_pE
    simp only [zoff hx, ht, ht2, ha, and_self, if_true]
  simp only [e1, e2]
/-! Methods that throw, or hand a Paper on. -/
theorem Ez_thr {E : String} {s' : zS} (hr : am_thr M.1 M.2.2.2.2.1 (pc, L, [], zmk lg s) = some E) (hF : some ((.inr E : am_O), s, 1) = some (o, s', g')) : Ev K M (pc, L, [], zmk lg s) 0 o (zmk lg s') g' := by
  cases hF
  exact Ev_thr hr
theorem Ez_xri {x : Int32} {s' : zS} (hi : M.1 pc = some (.ireturn, 1)) (hr : M.2.2.2.2.2 = some .int) (hF : some ((.inl (some (.int x)) : am_O), s, 0) = some (o, s', g')) : Ev K M (pc, L, [.int x], zmk lg s) 0 o (zmk lg s') g' := by
  cases hF
  refine Ev_r ?_
  unfold am_ret
  simp only [hi, hr]
theorem Ez_xrr {q : Nat} {n : String} {s' : zS} (hi : M.1 pc = some (.areturn, 1)) (hr : M.2.2.2.2.2 = some (.object n)) (hF : some ((.inl (some (.ref q)) : am_O), s, 0) = some (o, s', g')) : Ev K M (pc, L, [.ref q], zmk lg s) 0 o (zmk lg s') g' := by
  cases hF
  refine Ev_r ?_
  unfold am_ret
  simp only [hi, hr]
theorem Ez_xi {ix kd y k ci : Nat} {As st' : List Value} {s' : zS} {F : Option (am_O × zS × Nat)} {c : Int32 → zS → Option (am_O × zS × Nat)} (hs : am_site M.1 M.2.2.2.1 (pc, L, st, zmk lg s) = some (ix, kd, y, k, ci)) (hk : k ≤ st.length) (hw : ((st.drop k).map fun v => v.category).sum ≤ 8) (ha : (st.take k).reverse = As) (hd : st.drop k = st') (hc : ∀ o s1 g1, F = some (o, s1, g1) → Ct K y As (zmk lg s) o (zmk lg s1) g1) (hF : zxi F c = some (o, s', g')) (ev : ∀ v s1, c v s1 = some (o, s', g') → Ev K M (pc + 3, L, .int v :: st', zmk lg s1) 0 o (zmk lg s') g') : Ev K M (pc, L, st, zmk lg s) 0 o (zmk lg s') g' := by
  subst ha
  subst hd
  unfold zxi at hF
  split at hF
  · next v s1 => exact Ev_call hs hk hw (hc _ _ _ rfl) (ev _ _ hF)
  · next E s1 g1 =>
    cases hF
    have e1 := Ev_callx (g := 0) hs hk hw (hc _ _ _ rfl)
    rw [Nat.zero_add] at e1
    exact e1
  · cases hF
theorem Ez_xr {ix kd y k ci t : Nat} {As st' : List Value} {s' : zS} {F : Option (am_O × zS × Nat)} {c : Nat → zS → Option (am_O × zS × Nat)} (hs : am_site M.1 M.2.2.2.1 (pc, L, st, zmk lg s) = some (ix, kd, y, k, ci)) (hk : k ≤ st.length) (hw : ((st.drop k).map fun v => v.category).sum ≤ 8) (ha : (st.take k).reverse = As) (hd : st.drop k = st') (hc : ∀ o s1 g1, F = some (o, s1, g1) → Ct K y As (zmk lg s) o (zmk lg s1) g1) (hF : zxr t F c = some (o, s', g')) (ev : ∀ q s1, zsh q = t → c q s1 = some (o, s', g') → Ev K M (pc + 3, L, .ref q :: st', zmk lg s1) 0 o (zmk lg s') g') : Ev K M (pc, L, st, zmk lg s) 0 o (zmk lg s') g' := by
  subst ha
  subst hd
  unfold zxr at hF
  split at hF
  · next q s1 =>
    split at hF
    · next hq => exact Ev_call hs hk hw (hc _ _ _ rfl) (ev _ _ hq hF)
    · cases hF
  · next E s1 g1 =>
    cases hF
    have e1 := Ev_callx (g := 0) hs hk hw (hc _ _ _ rfl)
    rw [Nat.zero_add] at e1
    exact e1
  · cases hF
end EZ

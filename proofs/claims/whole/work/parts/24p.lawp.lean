/-! The law's walk from its entry, out of what the calls ask of class and model. -/
theorem lq_no {p : Program} {s : State} {m : MethodId} {meth : Method} {c : Code} {b L : Nat} {xs : Nat → Int32} (C0 : lw_At p s m meth c b L xs) : ∀ q ∈ hx_pairs, sx_na q.1 q.2 s := by
  obtain ⟨-, -, -, -, -, -, -, -, -, hg⟩ := C0
  have hs := flat_of_before _ hg
  have h1 : (Cond.not (.castable (hx_E 1) (hx_E 0))).before #[Value.ref b] s = true := hs _ (by decide +kernel)
  have h2 : (Cond.not (.castable (hx_E 0) (hx_E 2))).before #[Value.ref b] s = true := hs _ (by decide +kernel)
  have h3 : (Cond.not (.castable (hx_E 2) (hx_E 0))).before #[Value.ref b] s = true := hs _ (by decide +kernel)
  have h4 : (Cond.not (.castable (hx_E 3) (hx_E 0))).before #[Value.ref b] s = true := hs _ (by decide +kernel)
  have h5 : (Cond.not (.castable (hx_E 3) (hx_E 2))).before #[Value.ref b] s = true := hs _ (by decide +kernel)
  exact List.forall_mem_cons.mpr ⟨sx_na_of h1, List.forall_mem_cons.mpr ⟨sx_na_of h2, List.forall_mem_cons.mpr ⟨sx_na_of h3, List.forall_mem_cons.mpr ⟨sx_na_of h4, List.forall_mem_cons.mpr ⟨sx_na_of h5, fun _ h => absurd h List.not_mem_nil⟩⟩⟩⟩⟩
/-- class and model answer alike, call by call, scripts of at most N ints -/
def lq_All (N : Nat) : Prop := ∀ K : cx_K, Kok K → hx_no K → ∃ P : Nat → List va_E → Prop, P 0 hp_0 ∧ ∀ n h, 4 * n + 4 ≤ N → P n h → lx_Ops K h (P (n + 1))
theorem lq_start {N : Nat} (hN : N ≤ 2048) (hA : lq_All N) {p : Program} {e : Env} {s : State} {m : MethodId} {below : List Frame} {meth : Method} {c : Code} (l : Launch) (hl : l.stackTraces = false) {b L : Nat} {xs : Nat → Int32} (hL : L ≤ N) (C0 : lw_At p s m meth c b L xs) : W p l e room_1 s m #[Value.ref b] below meth c s.heap [] 0 0 (lw_Z below #[Value.ref b] s) (entryFrame m ([Value.ref b] : List Value).toArray 7) := by
  have hts : ∀ w ∈ lw_tbl, w.before #[Value.ref b] s = true := by
    obtain ⟨-, -, -, -, -, h, -⟩ := C0
    exact h
  obtain ⟨D, ca, hcx, hK, hX⟩ := sx_world (b := b) hl hts (sx_at C0)
  have hno : hx_no (lx_K l s b D ca) := fun U hU q hq => sx_na_mv hU.1.alike (lq_no C0 q hq)
  obtain ⟨P, hP0, hP⟩ := hA (lx_K l s b D ca) hcx hno
  have hC : lx_C p l s m meth c b L xs D ca := ⟨C0, hcx, hK, hX⟩
  refine lx_begin hC ?_
  exact lp_loop hC (Nat.le_trans hL hN) (fun n h h4 hp => hP n h (Nat.le_trans h4 hL) hp) 600 0 none none hp_0 0 (by omega) (by omega) (Nat.le_refl _) hP0
theorem lq_flags {l : Launch} (h : l.flags = flags0) : l.stackTraces = false := by
  unfold Launch.stackTraces
  rw [h]
  decide +kernel

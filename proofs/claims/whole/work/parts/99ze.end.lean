/-! The String constants at the law's entry, and the claim. -/
set_option maxRecDepth 100000
def js_F : List Cond := flatC (Jvm.Cond.and given_1 narrow_1)
theorem js_m1 : ∀ i, i < 11 → Cond.exactly (js_tm i) "java/lang/String" ∈ js_F := by decide +kernel
theorem js_m2 : ∀ i, i < 11 → Cond.eq (.field (js_tm i) "java/lang/String" "coder" "B") (.int 0) ∈ js_F := by decide +kernel
theorem js_m3 : ∀ i, i < 11 → Cond.arrayOf (js_va i) .byte ∈ js_F := by decide +kernel
theorem js_m4 : ∀ i, i < 11 → Cond.eq (.length (js_va i)) (.int (Int32.ofNat (js_len.getD i 0))) ∈ js_F := by decide +kernel
theorem js_m5 : ∀ i, i < 11 → ∀ j, j < js_len.getD i 0 → Cond.eq (.elem (js_va i) (.int (Int32.ofNat j))) (.int ((js_b.getD i []).getD j 0)) ∈ js_F := by decide +kernel
theorem js_m6 : ∀ i, i < 11 → ∀ j, j < 11 → i ≠ j → (Cond.not (Cond.eq (js_tm i) (js_tm j)) ∈ js_F ∨ Cond.not (Cond.eq (js_tm j) (js_tm i)) ∈ js_F) := by decide +kernel
theorem js_m7 : Cond.eq (.static "java/lang/String" "COMPACT_STRINGS" "Z") (.int 1) ∈ js_F := by decide +kernel
theorem js_m8 : Cond.isRef (.static "jdk/internal/util/Preconditions" "SIOOBE_FORMATTER" "Ljava/util/function/BiFunction;") ∈ js_F := by decide +kernel
theorem js_world {p : Program} {l : Launch} {s : State} {m : MethodId} {meth : Method} {c : Code} {b L : Nat} {xs : Nat → Int32} {D : va_G} {ca : Nat → ClassId} (C0 : lw_At p s m meth c b L xs) : hx_sT (lx_K l s b D ca) := by
  obtain ⟨-, -, -, -, -, hts, -, -, -, hg⟩ := C0
  have hs : ∀ w ∈ js_F, w.before #[Value.ref b] s = true := flat_of_before _ hg
  have hA : ∀ a : Nat, a < s.heap.size → ¬ sx_A s a := fun a ha q => by unfold sx_A at q; omega
  obtain ⟨adK, adV, hS, hev⟩ := vk_Sof (N := 11) (tm := js_tm) (len := js_len) (byt := js_b) (A := sx_A s) js_lt (fun i hi => hs _ (js_m1 i hi)) (fun i hi => hs _ (js_m2 i hi)) (fun i hi => hs _ (js_m3 i hi)) (fun i hi => hs _ (js_m4 i hi)) (fun i hi j hj => hs _ (js_m5 i hi j hj)) (fun i j hi hj hn => by
    rcases js_m6 i hi j hj hn with q | q
    · exact Or.inl (hs _ q)
    · exact Or.inr (hs _ q)) hA
  have hZ1 : va_Z "java/lang/String" "COMPACT_STRINGS" "Z" (.int 1) (sx_A s) s s.heap := va_Zof (hts _ (List.mem_of_getElem? (i := 1097) (by decide +kernel))) (hts _ (List.mem_of_getElem? (i := 137) (by decide +kernel))) (va_eqi (hs _ js_m7)) hA
  have hZ2 : va_Zq "jdk/internal/util/Preconditions" "SIOOBE_FORMATTER" "Ljava/util/function/BiFunction;" (sx_A s) s s.heap := va_Zqof (hts _ (List.mem_of_getElem? (i := 1113) (by decide +kernel))) (hts _ (List.mem_of_getElem? (i := 139) (by decide +kernel))) (hs _ js_m8) hA
  have hR : ∀ i, i < 11 → vk_R "PaperParcels$Emitter" (js_ix.getD i 0) (js_tx.getD i "") (adK i) s := fun i hi => vk_R.of (hts _ (List.mem_of_getElem? (js_in1 i hi))) (hev i hi)
  have go : ∀ (w : Value) (t : Nat), (w = .null ∨ w = .ref 4000000) → va_Z "jdk/internal/util/Preconditions" "SIOOBE_FORMATTER" "Ljava/util/function/BiFunction;" (am_v (fun _ => t) w) (sx_A s) s s.heap → hx_sT (lx_K l s b D ca) := by
    intro w t hw hZ
    refine ⟨fun k => if k < 2000000 then sx_ad s b k else if k < 3000000 then adK (k - 2000000) else if k < 4000000 then adV (k - 3000000) else t, fun k hk => ?_, fun U hU => ?_⟩
    · show (if k < 2000000 then _ else _) = sx_ad s b k
      rw [if_pos (by omega)]
    · obtain ⟨hW, hsz, hh⟩ := hU
      have e1 : ∀ i, i < 11 → adK i = (if 2000000 + i < 2000000 then sx_ad s b (2000000 + i) else if 2000000 + i < 3000000 then adK (2000000 + i - 2000000) else if 2000000 + i < 4000000 then adV (2000000 + i - 3000000) else t) := by
        intro i hi
        rw [if_neg (by omega), if_pos (by omega), Nat.add_sub_cancel_left]
      have e2 : ∀ i, i < 11 → adV i = (if 3000000 + i < 2000000 then sx_ad s b (3000000 + i) else if 3000000 + i < 3000000 then adK (3000000 + i - 2000000) else if 3000000 + i < 4000000 then adV (3000000 + i - 3000000) else t) := by
        intro i hi
        rw [if_neg (by omega), if_neg (by omega), if_pos (by omega), Nat.add_sub_cancel_left]
      refine ⟨fun i hi => ?_, ?_, ?_, w, hw, ?_⟩
      · have := vk_R.warm hW (hR i hi)
        rw [e1 i hi] at this
        exact this
      · exact vk_S_congr (fun i hi => ⟨e1 i hi, e2 i hi⟩) ((vk_S.moved hW.alike hS).kept (fun a ha _ => hh a ha))
      · exact (va_Z.moved hW.alike hZ1).kept (fun a ha _ => hh a ha)
      · have := (va_Z.moved hW.alike hZ).kept (fun a ha _ => hh a ha)
        rcases hw with rfl | rfl
        · exact this
        · exact this
  rcases hZ2 with h | ⟨t, h⟩
  · exact go .null 0 (Or.inl rfl) h
  · exact go (.ref 4000000) t (Or.inr rfl) h
theorem lq_start2 {N : Nat} (hN : N ≤ 2048) (hA : lq_All2 N) {p : Program} {e : Env} {s : State} {m : MethodId} {below : List Frame} {meth : Method} {c : Code} (l : Launch) (hl : l.stackTraces = false) {b L : Nat} {xs : Nat → Int32} (hL : L ≤ N) (C0 : lw_At p s m meth c b L xs) : W p l e room_1 s m #[Value.ref b] below meth c s.heap [] 0 0 (lw_Z below #[Value.ref b] s) (entryFrame m ([Value.ref b] : List Value).toArray 7) := by
  have hts : ∀ w ∈ lw_tbl, w.before #[Value.ref b] s = true := by
    obtain ⟨-, -, -, -, -, h, -⟩ := C0
    exact h
  obtain ⟨D, ca, hcx, hK, hX⟩ := sx_world (b := b) hl hts (sx_at C0)
  have hno : hx_no (lx_K l s b D ca) := fun U hU q hq => sx_na_mv hU.1.alike (lq_no C0 q hq)
  obtain ⟨P, hP0, hP⟩ := hA (lx_K l s b D ca) hcx hno (js_world C0)
  have hC : lx_C p l s m meth c b L xs D ca := ⟨C0, hcx, hK, hX⟩
  refine lx_begin hC ?_
  exact lp_loop hC (Nat.le_trans hL hN) (fun n h h4 hp => hP n h (Nat.le_trans h4 hL) hp) 600 0 none none hp_0 0 (by omega) (by omega) (Nat.le_refl _) hP0
set_option maxHeartbeats 4000000 in
theorem lw_walk2 (hA : lq_All2 2048) (l : Launch) (hl : l.stackTraces = false) (b : Addr) (xs : List Int32) : MetFree l x (headSpec (Jvm.Cond.code x code maxLocals ret :: tables_1) room_1) (lw_P b xs) (fun _ _ _ _ _ => True) lw_Q := by
  refine MetFree.of_bodyS (code := code) (maxLocals := maxLocals) (ret := ret) (by decide) ?_ ?_
  · intro args s m h hn
    obtain ⟨meth, c, h1, h2, h3, h4, h5, h6, -, -⟩ := Cond.code_spec hn (atoms_spec (ws := Jvm.Cond.code x code maxLocals ret :: tables_1) h _ List.mem_cons_self)
    exact ⟨meth, c, h1, h2, h3, h4, h5, h6⟩
  · intro p e s m args below meth c s₁ B hml0 hP _
    obtain ⟨rfl, hx, hbd, hgv⟩ := hP
    obtain ⟨scr, harrAt, hlist, hof, hsmall⟩ := hx
    obtain ⟨hcb, hkn, -, -⟩ := State.arrayAt?_spec harrAt
    have hown : s.vm.findClass R_law = some m.cls := findClass_of_methodNamed B.named
    have hts0 : ∀ c ∈ (Jvm.Cond.code x code maxLocals ret :: tables_1), c.before #[Value.ref b] s = true := atoms_spec (ws := Jvm.Cond.code x code maxLocals ret :: tables_1) B.pre
    have hts : ∀ w ∈ lw_tbl, w.before #[Value.ref b] s = true := k2_hts_sels lw_privs (fun w hw => hts0 w (List.mem_cons_of_mem _ hw)) lw_privs_ok
    have hml : c.maxLocals = 7 := B.maxLocals_eq (hts0 _ List.mem_cons_self)
    have X₀ : Stand p l e room_1 s m #[Value.ref b] below meth c s₁ [] 0 0 := Stand.of_body B
    have hh0 : s₁.heap = s.heap := by rw [B.state]; rfl
    have hsz : scr.slots.size = xs.length := by rw [← Array.length_toList, hlist, List.length_map]
    have hval : ∀ j : Nat, j < xs.length → scr.slots[j]? = some (.int (xs.getD j 0)) := fun j hj => by
      rw [← Array.getElem?_toList, hlist]
      simp [hj]
    have hbl : b < s.heap.size := (Array.getElem?_eq_some_iff.mp hcb).1
    have hX : va_X b xs.length (fun j => xs.getD j 0) s s.heap := ⟨scr, hcb, hof, hkn, hsz, hval⟩
    have K : W p l e room_1 s m #[Value.ref b] below meth c s₁.heap [] 0 0 (lw_Z below #[Value.ref b] s) (entryFrame m ([Value.ref b] : List Value).toArray 7) := by
      rw [hh0]
      exact lq_start2 (Nat.le_refl _) hA l hl hbd ⟨B.exec, B.bytes, B.returns, hml, hown, hts, hX, hbl, B.notSynchronized, hgv⟩
    obtain ⟨t, a1, o, b1, b2, b3⟩ := K s₁ rfl X₀
    exact ⟨t, o, a1, b1, b2, b3⟩
theorem lw_comes2 (hA : lq_All2 2048) (l : Launch) (hl : l.stackTraces = false) : Comes l x (Jvm.Cond.code x code maxLocals ret :: tables_1) room_1 (fun tb e args s => Calls_1 tb e args s ∧ rest_1 tb e args s ∧ Pre_1 tb e args s)
    (fun _ _ args s o t => lw_Q args s o t) := by
  intro p e ha hc hk s m args below hf hfit hheap happ hpre
  obtain ⟨b, xs, hP⟩ := lw_pre_spec hpre.2.2 hpre.2.1
  obtain ⟨k, o, h1, h2, h3, hQ⟩ := lw_walk2 hA l hl b xs p e ha hc hk s m args below hf ((Spec.applies_iff_loose hf).mp happ).1 hP trivial
  exact ⟨k, o, h1, h2, h3, hQ⟩
theorem lw_limb2 (hA : lq_All2 2048) (L : Cond) (hL : ∀ (args : Array Value) (s t : State), L.after args s (.returned (some (.int 1))) t = true) :
    ArmFor flags0 classFile x code maxLocals ret World_1 tables_1 room_1 Calls_1 rest_1 Pre_1
      (fun tb e a s o t => postC L tb e a s o t ∧ Framed s o t (fieldLocs frame_1_writes a s ++ arrayLocs frame_1_arrays a s ++ staticLocs frame_1_statics s) 601024 7293034) := by
  intro l hfl _ _ p e ha hc hk s m args below hf hfit hheap happ hpre
  obtain ⟨k, o, h1, h2, h3, rfl, hF⟩ := lw_comes2 hA l (lq_flags hfl) p e ha hc hk s m args below hf hfit hheap happ hpre
  exact ⟨k, _, h1, h2, h3, hL args s _, lw_frame hF⟩
theorem lw_claim2 (hA : lq_All2 2048) : Claimed_1_1 ∧ Claimed_1_2 := ⟨lw_limb2 hA limb_1_1 (fun args s t => by simp [limb_1_1, Cond.after, Cond.holds, Cond.value]), lw_limb2 hA limb_1_2 (fun args s t => Cond.after_iff.mpr (by
  first | (rw [show limb_1_2 = Cond.eq .result (.int 1) from rfl, Cond.eq_ints (x := 1) (y := 1) rfl rfl]; simp; done) | (simp [limb_1_2, Cond.value, Term.eval]; done)))⟩

theorem i_vc : Claimed_1_1 ∧ Claimed_1_2 := lw_claim2 lq_2048

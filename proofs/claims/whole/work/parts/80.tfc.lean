/-! read, the text's faults on the class's side. -/
set_option maxRecDepth 100000
set_option linter.unusedVariables false
theorem z33 {x : Int32} {s : zS} : zf33 28 x s = some (if x = -1 then 0 else 1, zw s 28 1 x) := by
  unfold zf33
  rw [zpf_e]
  by_cases g : x = -1
  · rw [if_pos g, if_pos g]
    rfl
  · rw [if_neg g, if_neg g]
    rfl
/-- what is left of findFault when the elements are told -/
noncomputable def zrest (s10 : zS) : Option (Int32 × zS) :=
  zbi (zf53 43 116 s10) fun v11 s12 =>
  zbi (zf33 28 v11 s12) fun v13 s14 =>
  if ¬ v13 = 0 then
    some (5, s14)
  else
    zbi (zf53 52 100 s14) fun v15 s16 =>
    zbi (zf52 v15 s16) fun v17 s18 =>
    zbi (zf33 28 v17 s18) fun v19 s20 =>
    if v19 = 0 then
      zbi (zf61 61 s20) fun v21 s22 =>
      zbi (zf33 28 v21 s22) fun v23 s24 =>
      if v23 = 0 then
        zbv (zf67 61 s24) fun s26 =>
        zbi (zf70 66 s26) fun v27 s28 =>
        if v27 = 0 then
          zf26_154 28 1 0 s28
        else
          zf26_154 28 1 (-1) s28
      else
        some (6, s24)
    else
      some (5, s20)
/-- a part's content: unpacked and checked -/
theorem zs34 {a d e : Nat} {b : Bool} {s : zS} {T : List Int32} (hA : zA a) (hT : zRow 1 s T) (hL : zLt T) (hp : zPt s a b d e) (he : e + 4 ≤ T.length) (hd : d ≤ e) (hT2 : T.length ≤ 480) (hx : ∀ k, k < 4 → zhx (T.getD (e + k) (-1)) = true) :
    (∀ f, zup T b e e d [] = .inl f → ∃ s', zf34 28 a 1 s = some (2, s') ∧ s' 28 1 = nI f) ∧
    (∀ C, zup T b e e d [] = .inr C → zLt C ∧ C.length ≤ 300 ∧ ((zcO T e (zcr 65535 C) = true → ∃ s', zf34 28 a 1 s = some (0, s') ∧ s' 28 1 = -1 ∧ zRow (a + 1) s' C) ∧ (zcO T e (zcr 65535 C) = false → ∃ s', zf34 28 a 1 s = some (3, s') ∧ s' 28 1 = nI e))) := by
  obtain ⟨w1, w2, w3, w4, w5, w6, w7, w8, w9, w10⟩ := zA_e hA
  have ha28 : a ≠ 28 ∧ a + 1 ≠ 28 ∧ a + 2 ≠ 28 := by rcases hA with rfl | rfl <;> decide
  obtain ⟨u1, u2⟩ := zs35 hA (by omega) (by omega) hT hp
  have fr35 : ∀ v s' q, zf35 a 1 s = some (v, s') → q ≠ a + 1 → q ≠ a + 2 → s' q = s q := by
    intro v s' q h1 h2 h3
    refine zf35_fr (q := q) ?_ h1
    have g1 : (q == a + 1) = false := by simpa using h2
    have g2 : (q == a + 2) = false := by simpa using h3
    rcases hA with rfl | rfl
    · simp [zW35, zW36, zW15, zW13, show zrf 37 1 = 38 from rfl, show zrf 38 0 = 39 from rfl]
      omega
    · simp [zW35, zW36, zW15, zW13, show zrf 40 1 = 41 from rfl, show zrf 41 0 = 42 from rfl]
      omega
  have ne : ∀ f : Nat, f < 2000 → ¬ nI f = -1 := fun f hf => zn_nm (by omega)
  refine ⟨fun f hf => ?_, fun C hCu => ?_⟩
  · obtain ⟨s1, v1⟩ := u1 f hf
    have hf2 : f < 2000 := by
      have lt : ∀ m at' C0 f, zup T b e m at' C0 = .inl f → f < e := by
        intro m
        induction m with
        | zero => intro at' C0 f h; cases h
        | succ m ih =>
          intro at' C0 f h
          rw [zup] at h
          split at h
          · cases h
          · split at h
            · split at h
              · cases h; omega
              · split at h
                · exact ih _ _ _ h
                · cases h; omega
            · split at h
              · exact ih _ _ _ h
              · cases h; omega
      have := lt _ _ _ _ hf
      omega
    refine ⟨zw s1 28 1 (nI f), ?_, zw_s⟩
    unfold zf34
    rw [v1, zbi_e, z33, zbi_e, if_neg (ne f hf2)]
    exact if_neg (by decide)
  · obtain ⟨s1, v1, v2⟩ := u2 C hCu
    obtain ⟨l1, l2⟩ := zup_lt (b := b) hL (by omega : e ≤ T.length) e d [] C (fun c hc => absurd hc List.not_mem_nil) hCu
    refine ⟨l1, l2 (Nat.zero_le _), ?_⟩
    have f1 := fr35 (-1) s1
    have hT1 : zRow 1 s1 T := zRow_fr (f1 1 v1 (by omega) (by omega)) (f1 2 v1 (by omega) (by omega)) hT
    obtain ⟨s2, hs2⟩ : ∃ s2, s2 = zw s1 28 1 (-1) := ⟨_, rfl⟩
    have f2 : ∀ q, q ≠ 28 → s2 q = s1 q := fun q hq => by rw [hs2, zw_ne hq]
    have hT2' : zRow 1 s2 T := zRow_fr (f2 1 (by decide)) (f2 2 (by decide)) hT1
    have hC2 : zRow (a + 1) s2 C := zRow_fr (f2 _ ha28.2.1) (f2 _ (by rw [w2]; exact ha28.2.2)) v2
    have he2 : s2 a 4 = nI e := by rw [f2 a ha28.1, f1 a v1 (by omega) (by omega)]; exact hp.2.2
    have e37 := zs37 hA hT2' hC2 l1 he2 (by omega) hx
    have e0 : zf34 28 a 1 s = zbi (zf37 a 1 s2) fun v5 s6 => zbi (zf33 28 v5 s6) fun v7 s8 => if v7 = 0 then some (0, s8) else some (3, s8) := by
      unfold zf34
      rw [v1, zbi_e, z33, zbi_e, if_pos rfl, ← hs2, if_pos rfl]
    rw [e0, e37]
    refine ⟨fun g => ?_, fun g => ?_⟩
    · rw [if_pos g, zbi_e, z33, zbi_e, if_pos rfl, if_pos rfl]
      refine ⟨_, rfl, zw_s, ?_⟩
      exact zRow_w hC2 (Or.inl ha28.2.1) (by rw [w2]; exact ha28.2.2)
    · rw [if_neg (by rw [g]; decide), zbi_e, z33, zbi_e, if_neg (ne e (by omega)), if_neg (by decide)]
      exact ⟨_, rfl, zw_s⟩

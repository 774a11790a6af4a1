/-! The class's Builder, all of it. -/
set_option maxRecDepth 100000
set_option linter.unusedVariables false
def zDk (D : List zN) : Prop := ∀ d ∈ D, d.1 < 100 ∧ ∀ x, d.2.2.1 = some x → x < 2000
theorem zDk_app {D : List zN} {d : zN} (h : zDk D) (h1 : d.1 < 100) (h2 : ∀ x, d.2.2.1 = some x → x < 2000) : zDk (D ++ [d]) := by
  intro x hx
  rcases List.mem_append.mp hx with hx | hx
  · exact h x hx
  · rw [List.mem_singleton.mp hx]
    exact ⟨h1, h2⟩
theorem zDk_rn {D : List zN} {ab : Option Nat} {l : Nat} {c : Int32} (h : zDk D) (hl : l < 2000) : zDk (zrn D ab l c) := by
  rcases List.eq_nil_or_concat D with rfl | ⟨D', d, rfl⟩
  · exact zDk_app (D := []) (d := (2, ab, some l, [c])) h (show 2 < 100 by decide) (fun x q => by cases q; exact hl)
  · rw [List.concat_eq_append] at h ⊢
    rw [zrn_e]
    split
    · have hd := h d (List.mem_append_right _ List.mem_cons_self)
      exact zDk_app (fun x hx => h x (List.mem_append_left _ hx)) hd.1 hd.2
    · exact zDk_app h (show 2 < 100 by decide) (fun x q => by cases q; exact hl)
theorem zkc_lt (k : Int32) : zkc k ≤ 4 := by
  unfold zkc
  split
  · decide
  · split
    · decide
    · split <;> decide
theorem z70_l {C : List Int32} {E : List zE} {O : List (Nat × Nat)} {C' : List Int32} {F : List zE} {O' : List (Nat × Nat)} {S : Nat → Option Nat} (hl : C'.length ≤ 300) (hg : zgA C E) (hg' : zgA C' F) (hb : zSb E S) (hK : zKp F) (hi : zinc F) (hoo : zoo C' F O') (hO : ∀ q ∈ O', zkd F q.2 = 112 ∨ zkd F q.2 = 120) (hA : ∀ q ∈ O', zAo F F.length q) (hbg : ∀ e, e < F.length → (F.getD e (0, 0, 0, [])).2.1 < 1000) :
    ∀ m n p nx (s : zS) D NM, p + m = C'.length → m < n → zCs s C E O C' F O' → zSe s C E S → zPc 29 s D → zBu s (fun e => zpk (zLo C E S C' F e)) F NM nx → nx ≤ F.length → (∀ e, e < nx → (F.getD e (0, 0, 0, [])).2.1 < p) → (∀ e, nx ≤ e → e < F.length → p ≤ (F.getD e (0, 0, 0, [])).2.1) → (zlt D).length ≤ p → (0 < nx → D ≠ []) → zDk D →
    ∃ s', ((zbl (fun e => zpk (zLo C E S C' F e)) C' F O' m p (D, NM)).1.length ≤ 40 → zf70_16 66 n (nI nx) (nI p) s = some (1, s') ∧ zPc 29 s' (zbl (fun e => zpk (zLo C E S C' F e)) C' F O' m p (D, NM)).1) ∧ (¬ (zbl (fun e => zpk (zLo C E S C' F e)) C' F O' m p (D, NM)).1.length ≤ 40 → zf70_16 66 n (nI nx) (nI p) s = some (0, s')) ∧ zFB s s' := by
  have hLb : ∀ e, zpk (zLo C E S C' F e) < 2000 := fun e => zLg_lt (zLo_g hg hb e)
  intro m
  induction m with
  | zero =>
    intro n p nx s D NM hp hn hC hE hP hB h1 h2 h3 h4 h5 h6
    obtain ⟨n, rfl⟩ : ∃ n', n = n' + 1 := ⟨n - 1, by omega⟩
    have hcap : D.length ≤ 40 := hP.2.1
    refine ⟨s, fun _ => ⟨?_, hP⟩, fun q => absurd hcap q, fun _ _ => rfl⟩
    rw [zf70_16, show zrf (zrf 66 0) 0 = 41 from rfl, zgf_e, hC.2.1.1, if_pos ((zn_le (by omega) (by omega)).mpr (by omega))]
    rfl
  | succ m ih =>
    intro n p nx s D NM hp hn hC hE hP hB h1 h2 h3 h4 h5 h6
    obtain ⟨n, rfl⟩ : ∃ n', n = n' + 1 := ⟨n - 1, by omega⟩
    have h30 := hC.2.2.2.2.1.1
    have hcap : D.length ≤ 40 := hP.2.1
    have fr : ∀ {s1 : zS}, zFB s s1 → zCs s1 C E O C' F O' ∧ zSe s1 C E S := by
      intro s1 hf
      refine ⟨zCs_f hC (fun q a b => hf q (by omega)), fun k hk => ?_⟩
      rw [hf 63 (by omega), hf 64 (by omega), hf 65 (by omega)]
      exact hE k hk
    have e1 : zf70_16 66 (n + 1) (nI nx) (nI p) s = zgf s 52 6 (fun v2 => if v2 ≤ nI nx then zf70_68 66 (zf70_16 66 n) (nI nx) (nI p) 1 s else zal s 54 (nI nx) (fun v3 => if ¬ v3 = nI p then zf70_68 66 (zf70_16 66 n) (nI nx) (nI p) 1 s else zbi (zf72 66 (nI nx) s) (fun v4 s5 => zf70_111 66 (zf70_16 66 n) (nI nx + 1) (nI p) v4 s5))) := by
      rw [zf70_16, show zrf (zrf 66 0) 0 = 41 from rfl, zgf_e, hC.2.1.1, if_neg (fun q => by have := (zn_le (by omega) (by omega)).mp q; omega)]
      rfl
    rw [e1, zgf_e, hC.2.2.2.1.1]
    rw [zbl]
    -- no element begins here
    have other : zea F p = none → ∃ s', ((zbl (fun e => zpk (zLo C E S C' F e)) C' F O' m (p + 1) (zsp (fun e => zpk (zLo C E S C' F e)) C' F O' p (D, NM))).1.length ≤ 40 → zf70_68 66 (zf70_16 66 n) (nI nx) (nI p) 1 s = some (1, s') ∧ zPc 29 s' (zbl (fun e => zpk (zLo C E S C' F e)) C' F O' m (p + 1) (zsp (fun e => zpk (zLo C E S C' F e)) C' F O' p (D, NM))).1) ∧ (¬ (zbl (fun e => zpk (zLo C E S C' F e)) C' F O' m (p + 1) (zsp (fun e => zpk (zLo C E S C' F e)) C' F O' p (D, NM))).1.length ≤ 40 → zf70_68 66 (zf70_16 66 n) (nI nx) (nI p) 1 s = some (0, s')) ∧ zFB s s' := by
      intro hz
      have g3 : ∀ e, nx ≤ e → e < F.length → p + 1 ≤ (F.getD e (0, 0, 0, [])).2.1 := fun e a b => by
        have := h3 e a b
        have := zea_n hz e b
        omega
      have g2 : ∀ e, e < nx → (F.getD e (0, 0, 0, [])).2.1 < p + 1 := fun e a => by have := h2 e a; omega
      have sp : zsp (fun e => zpk (zLo C E S C' F e)) C' F O' p (D, NM) = match zoO O' p with
        | some o => (zrn D (NM (zpO F o)) (zpk (zLo C E S C' F o)) (C'.getD p (-1)), NM)
        | none => (D, NM) := by
        unfold zsp
        rw [hz]
        rfl
      unfold zf70_68
      rw [show zrf (zrf 66 0) 10 = 60 from rfl, zal_n (by show p < 300; omega), zal_n (by show p < 300; omega)]
      have eo : s 60 p = zoi (zoO O' p) := by rw [← zow_O]; exact hC.2.2.2.2.2 p (by omega)
      rw [eo, sp]
      cases ho : zoO O' p with
      | none =>
        dsimp only
        rw [if_pos (show zoi none = -1 from rfl)]
        unfold zf70_111
        rw [if_pos (show ¬ (1 : Int32) = 0 by decide), zn_a1]
        exact ih n (p + 1) nx s D NM (by omega) (by omega) hC hE hP hB h1 g2 g3 (by omega) h5 h6
      | some o =>
        dsimp only
        have hm := zoO_m ho
        obtain ⟨u1, u2, u3⟩ := hoo _ hm
        obtain ⟨w1, w2, w3⟩ := hA _ hm
        have hk := hO _ hm
        dsimp only at u1 u2 u3 w1 w2 w3 hk
        have onx : o < nx := Nat.lt_of_not_le (fun q => by have := h3 o q u2; omega)
        obtain ⟨y1, y2⟩ := zpO_k hK h30 o u2 hk
        have hpa : s 66 5 = zoi (NM (zpO F o)) := by
          refine hB.2 (zpO F o) (by omega) y1 (fun x a b => Classical.byContradiction fun q => ?_)
          have := w3 x a (by omega) q
          have := h2 x b
          omega
        have hlo : s 67 o = nI (zpk (zLo C E S C' F o)) := (hB.1 o onx).1 hk
        obtain ⟨s1, a1, a2, a3⟩ := z76 (ab := NM (zpO F o)) (l := zpk (zLo C E S C' F o)) (c := C'.getD p (-1)) hP (h5 (by omega)) h6 (hLb o) hpa (by omega)
        obtain ⟨r1, r2, r3, r4⟩ := zrn_len (D := D) (ab := NM (zpO F o)) (l := zpk (zLo C E S C' F o)) (c := C'.getD p (-1))
        have mono := (zbl_len (LO := fun e => zpk (zLo C E S C' F e)) (C := C') (F := F) (O := O') m (p + 1) (zrn D (NM (zpO F o)) (zpk (zLo C E S C' F o)) (C'.getD p (-1)), NM)).1
        dsimp only at mono
        have FB1 : zFB s s1 := fun q hq => a3 q (by omega)
        rw [if_neg (show ¬ zoi (some o) = -1 from zn_nm (by omega)), show zoi (some o) = nI o from rfl, show zrf 66 3 = 67 from rfl, zal_n (by show o < 30; omega), hlo, show zrf (zrf 66 0) 0 = 41 from rfl, z18 hC.2.1 (by omega), zbi_e]
        by_cases g : (zrn D (NM (zpO F o)) (zpk (zLo C E S C' F o)) (C'.getD p (-1))).length ≤ 40
        · obtain ⟨b1, b2⟩ := a1 g
          obtain ⟨C1, E1⟩ := fr FB1
          have B1 : zBu s1 (fun e => zpk (zLo C E S C' F e)) F NM nx := by
            unfold zBu
            rw [a3 66 (by omega), a3 67 (by omega), a3 68 (by omega)]
            exact hB
          obtain ⟨s', c1, c2, c3⟩ := ih n (p + 1) nx s1 _ NM (by omega) (by omega) C1 E1 b2 B1 h1 g2 g3 (by omega) (fun _ => r4) (zDk_rn h6 (hLb o))
          rw [b1, zbi_e]
          unfold zf70_111
          rw [if_pos (show ¬ (1 : Int32) = 0 by decide), zn_a1]
          exact ⟨s', c1, c2, zFB_t FB1 c3⟩
        · refine ⟨s1, fun q => absurd (Nat.le_trans mono q) g, fun _ => ?_, FB1⟩
          rw [a2 g, zbi_e]
          exact if_neg (fun q => q rfl)
    by_cases gx : nx < F.length
    · obtain ⟨x1, x2, x3, x4, x5, x6⟩ := hC.2.2.2.1.2.2 nx gx
      have k2 : s 54 nx = nI (F.getD nx (0, 0, 0, [])).2.1 := x2
      rw [if_neg (fun q => by have := (zn_le (by omega) (by omega)).mp q; omega), zal_n (by show nx < 30; omega), k2]
      by_cases gp : (F.getD nx (0, 0, 0, [])).2.1 = p
      · have hz : zea F p = some nx := zea_i hi gx gp
        rw [gp, if_neg (show ¬ ¬ nI p = nI p from fun q => q rfl)]
        obtain ⟨s1, X, hX, a1, a2, a3⟩ := z72 hC hg hg' hb hE hK gx hP hB
        have sp : zsp (fun e => zpk (zLo C E S C' F e)) C' F O' p (D, NM) = X := by
          rw [hX]
          unfold zsp
          rw [hz]
        rw [sp]
        have mono := (zbl_len (LO := fun e => zpk (zLo C E S C' F e)) (C := C') (F := F) (O := O') m (p + 1) X).1
        by_cases g : X.1.length ≤ 40
        · obtain ⟨b1, b2, b3⟩ := a1 g
          obtain ⟨C1, E1⟩ := fr a3
          have spl := zsp_len (LO := fun e => zpk (zLo C E S C' F e)) (C := C') (F := F) (O := O') (p := p) (X := (D, NM))
          rw [sp] at spl
          obtain ⟨s', c1, c2, c3⟩ := ih n (p + 1) (nx + 1) s1 X.1 X.2 (by omega) (by omega) C1 E1 b2 b3 (by omega) (fun e he => by
            by_cases q : e = nx
            · rw [q, gp]; omega
            · have := h2 e (by omega); omega) (fun e a b => by have := hi nx e (by omega) b; omega) (by have := spl.2.1; dsimp only at this; omega) (fun _ => by
            by_cases q : 0 < nx
            · exact spl.2.2 (h5 q)
            · have q0 : nx = 0 := by omega
              have k0 : zkd F nx = 100 := by
                rcases hK nx gx with ⟨_, _, z⟩ | ⟨j, z, _⟩
                · exact z
                · omega
              rw [hX, k0, if_neg (by decide)]
              intro z
              simp at z) (by
            rw [hX]
            split
            · exact h6
            · refine zDk_app h6 (by have := zkc_lt (zkd F nx); dsimp only; omega) (fun x q => ?_)
              dsimp only at q
              split at q
              · cases q; exact hLb nx
              · cases q)
          rw [b1, zbi_e]
          unfold zf70_111
          rw [if_pos (show ¬ (1 : Int32) = 0 by decide), zn_a1, zn_a1]
          exact ⟨s', c1, c2, zFB_t a3 c3⟩
        · refine ⟨s1, fun q => absurd (Nat.le_trans mono q) g, fun _ => ?_, a3⟩
          rw [a2 g, zbi_e]
          exact if_neg (fun q => q rfl)
      · have hz : zea F p = none := by
          cases hz : zea F p with
          | none => rfl
          | some e =>
            obtain ⟨y1, y2⟩ := zea_s hz
            exfalso
            rcases Nat.lt_trichotomy e nx with q | q | q
            · have := h2 e q; omega
            · rw [q] at y2; exact gp y2
            · have := hi nx e q y1
              have := h3 nx (Nat.le_refl _) gx
              omega
        have hbl := hbg nx gx
        rw [if_pos (show ¬ nI (F.getD nx (0, 0, 0, [])).2.1 = nI p from fun q => gp ((zn_eq (by omega) (by omega)).mp q))]
        exact other hz
    · have hz : zea F p = none := by
        cases hz : zea F p with
        | none => rfl
        | some e =>
          obtain ⟨y1, y2⟩ := zea_s hz
          have := h2 e (by omega)
          omega
      rw [if_pos ((zn_le (by omega) (by omega)).mpr (by omega))]
      exact other hz
/-- build -/
theorem z70 {s : zS} {C : List Int32} {E : List zE} {O : List (Nat × Nat)} {C' : List Int32} {F : List zE} {O' : List (Nat × Nat)} {S : Nat → Option Nat} (h : zCs s C E O C' F O') (hE : zSe s C E S) (hl : C'.length ≤ 300) (hg : zgA C E) (hg' : zgA C' F) (hb : zSb E S) (hK : zKp F) (hi : zinc F) (hoo : zoo C' F O') (hO : ∀ q ∈ O', zkd F q.2 = 112 ∨ zkd F q.2 = 120) (hA : ∀ q ∈ O', zAo F F.length q) (hbg : ∀ e, e < F.length → (F.getD e (0, 0, 0, [])).2.1 < 1000) :
    ∃ s', ((zbl (fun e => zpk (zLo C E S C' F e)) C' F O' C'.length 0 ([], fun _ => none)).1.length ≤ 40 → zf70 66 s = some (1, s') ∧ zPc 29 s' (zbl (fun e => zpk (zLo C E S C' F e)) C' F O' C'.length 0 ([], fun _ => none)).1) ∧ (¬ (zbl (fun e => zpk (zLo C E S C' F e)) C' F O' C'.length 0 ([], fun _ => none)).1.length ≤ 40 → zf70 66 s = some (0, s')) ∧ zFB s s' := by
  obtain ⟨s1, a1, a2, a3⟩ := z71 (s := s) zQ29
  obtain ⟨s2, hs2⟩ : ∃ s2, s2 = zw s1 66 5 (-1) := ⟨_, rfl⟩
  have FB2 : zFB s s2 := fun q hq => by rw [hs2, zw_ne (by omega), a3 q (by omega)]
  have C2 : zCs s2 C E O C' F O' := zCs_f h (fun q a b => FB2 q (by omega))
  have E2 : zSe s2 C E S := fun k hk => by
    rw [FB2 63 (by omega), FB2 64 (by omega), FB2 65 (by omega)]
    exact hE k hk
  have P2 : zPc 29 s2 [] := zPc_f zQ29 a2 (fun q a b => by rw [hs2, zw_ne (by omega)])
  obtain ⟨s', c1, c2, c3⟩ := z70_l hl hg hg' hb hK hi hoo hO hA hbg C'.length zfz 0 0 s2 [] (fun _ => none) (Nat.zero_add _) (by rw [zfz_e]; omega) C2 E2 P2 ⟨fun e he => absurd he (Nat.not_lt_zero _), fun e he => absurd he (Nat.not_lt_zero _)⟩ (Nat.zero_le _) (fun e he => absurd he (Nat.not_lt_zero _)) (fun e _ _ => Nat.zero_le _) (Nat.zero_le _) (fun q => absurd q (Nat.lt_irrefl _)) (fun d hd => (by cases hd))
  have e0 : zf70 66 s = zf70_16 66 zfz (nI 0) (nI 0) s2 := by
    unfold zf70
    rw [show zrf 66 2 = 29 from rfl, a1, zbv_e, zpf_e, ← hs2]
    rfl
  rw [e0]
  exact ⟨s', c1, c2, zFB_t FB2 c3⟩

/-! Math.min (by the library's contract) and Arrays.fill. -/
theorem zmin_met {l : Launch} {ws : List Cond} {rm : Room} {D : va_G} {cl : List vw_C} {tys : List (ClassId × FieldType)} {ad : Nat → Nat} {ca : Nat → ClassId} {A : Nat → Prop} {XX : State → Prop} {h : List va_E} (a b : Int32) (hw : Cond.code Lib.Math.min.name Lib.Math.min.code 2 (some .int) ∈ ws) :
    ax_Met l Lib.Math.min.name ws rm (am_Pc D cl tys ad ca A XX [.int a, .int b] h) (am_Qx D cl ad ca A (.inl (some (.int (if b < a then b else a)))) h) 0 0 A := by
  intro p e ha hc hk s m args below hf happ hP _
  obtain ⟨r1, r2, r3, r4, r5, r6, r7, r8⟩ := (Spec.appliesLoose_iff hf).mp happ
  obtain ⟨q0, q1, q2, q3, q4⟩ := hP
  have q0' : args = #[.int a, .int b] := q0
  subst q0'
  have hcode : (Cond.code Lib.Math.min.name Lib.Math.min.code 2 (some .int)).before #[.int a, .int b] s = true := atoms_spec (ws := ws) r8 _ hw
  have hroom : s.hasRoom e.platform Lib.Math.min.spec.room = true := by
    have r7' : s.hasRoom e.platform rm = true := r7
    have z1 : Lib.Math.min.spec.room.frames = 0 := rfl
    have z2 : Lib.Math.min.spec.room.cells = 0 := rfl
    have z3 : Lib.Math.min.spec.room.slots = 0 := rfl
    have z4 : Lib.Math.min.spec.room.locals = 0 := rfl
    simp only [State.hasRoom, Bool.and_eq_true, decide_eq_true_eq] at r7' ⊢
    rw [z1, z2, z3, z4]
    obtain ⟨⟨⟨⟨a1, a2, a3, a4, a5, a6⟩, a7⟩, a8⟩, a9⟩ := r7'
    exact ⟨⟨⟨⟨by omega, by omega, by omega, by omega, by omega, a6⟩, by omega⟩, by omega⟩, a9⟩
  have hpre : Lib.Math.min.spec.pre.before #[.int a, .int b] s = true := by
    simp only [Lib.Math.min.spec, Cond.before_and, Bool.and_eq_true]
    exact ⟨hcode, rfl, rfl, rfl⟩
  have hM : MeetsLoose l Lib.Math.min.name Lib.Math.min.spec := Meets.loose_of_no_refs (Lib.Math.min.meets l) fun args' s' h => by
    simp only [Lib.Math.min.spec, Cond.before_and, Bool.and_eq_true] at h
    obtain ⟨x, y, rfl⟩ := Cond.two_ints h.2.1 h.2.2.1 h.2.2.2
    intro r hr
    simp at hr
  obtain ⟨n, o, w1, w2, w3, w4, w5⟩ := hM p e ha hc hk s m _ below hf ((Spec.appliesLoose_iff hf).mpr ⟨r1, r2, r3, r4, r5, r6, hroom, hpre⟩)
  refine ⟨n, o, w1, w2, w3, ?_⟩
  generalize stepsAlone p.tables e n s = t at w2 w3 w4 w5 ⊢
  have w6 : t = s.setFrames t.frames := State.sameBut_nil.mp w5
  have hh : t.heap = s.heap := by rw [w6]; rfl
  have hv : t.vm = s.vm := by rw [w6]; rfl
  have ho : o = .returned (some (.int (if b < a then b else a))) := by
    simp only [Lib.Math.min.spec, Cond.after_and, Bool.and_eq_true] at w4
    cases o with
    | threw y => simp [Cond.after, Cond.holds, Cond.value] at w4
    | returned v =>
      by_cases h1 : b < a
      · rw [if_pos h1]
        rcases v with _ | w
        · simp [Cond.after, Cond.holds, Cond.value, Term.eval, h1] at w4
        · cases w <;> simp [Cond.after, Cond.holds, Cond.value, Term.eval, h1] at w4
          rename_i r
          by_cases hr : r = b <;> simp [hr] at w4 ⊢
      · rw [if_neg h1]
        rcases v with _ | w
        · simp [Cond.after, Cond.holds, Cond.value, Term.eval, h1] at w4
        · cases w <;> simp [Cond.after, Cond.holds, Cond.value, Term.eval, h1] at w4
          simp [w4]
  refine ⟨⟨ho, ?_, ?_, ?_⟩, ?_, [], ?_, fun q hq => absurd hq List.not_mem_nil⟩
  · rw [hh]
    exact q1
  · rw [hh]
    exact Nat.le_refl _
  · intro q _ _
    rw [hh]
  · rw [hv]
    exact State.WarmedH.refl s
  · have e1 : ({ t with vm := s.vm } : State) = t := by rw [← hv]
    rw [e1]
    exact State.sameBut.sameButNew (show s.sameBut t [] from w5) 0 0
def nd_i41 : List (Nat × Instr × Nat) := [(0, .iconst 0, 1), (1, .istore_n 2, 1), (2, .aload_n 0, 1), (3, .arraylength, 1), (4, .istore_n 3, 1), (5, .iload_n 2, 1), (6, .iload_n 3, 1), (7, .if_icmp .ge 13, 3), (10, .aload_n 0, 1), (11, .iload_n 2, 1), (12, .iload_n 1, 1), (13, .iastore, 1), (14, .iinc 2 1, 3), (17, .goto (-12), 3), (20, .return_, 1)]
theorem nd_i41_ok : am_ic prog_26_method_103_code nd_i41 = true := by decide +kernel
def nd_s41 : List nm_S := []
theorem nd_ok41 : am_ok nm_Ts nm_Tn nd_cl nd_mt nd_fr nd_lo 41 (am_in nd_i41) (am_fl []) (am_ct []) (am_sl nd_ml nd_s41) := nm_ok (x := 41) (ini := false) rfl (by decide +kernel) nd_cok nd_i41_ok (by decide) rfl rfl rfl rfl

/-! Math.min and Arrays.fill. -/
def nd_i31 : List (Nat × Instr × Nat) := [(0, .iload_n 0, 1), (1, .iload_n 1, 1), (2, .if_icmp .gt 7, 3), (5, .iload_n 0, 1), (6, .goto 4, 3), (9, .iload_n 1, 1), (10, .ireturn, 1)]
theorem nd_i31_ok : am_ic prog_19_method_69_code nd_i31 = true := by decide +kernel
def nd_s31 : List nm_S := []
theorem nd_ok31 : am_ok nm_Ts nm_Tn nd_cl nd_mt nd_fr nd_lo 31 (am_in nd_i31) (am_fl []) (am_ct []) (am_sl nd_ml nd_s31) := nm_ok (x := 31) (ini := false) rfl (by decide +kernel) nd_cok nd_i31_ok (by decide) rfl rfl rfl rfl
def nd_i41 : List (Nat × Instr × Nat) := [(0, .iconst 0, 1), (1, .istore_n 2, 1), (2, .aload_n 0, 1), (3, .arraylength, 1), (4, .istore_n 3, 1), (5, .iload_n 2, 1), (6, .iload_n 3, 1), (7, .if_icmp .ge 13, 3), (10, .aload_n 0, 1), (11, .iload_n 2, 1), (12, .iload_n 1, 1), (13, .iastore, 1), (14, .iinc 2 1, 3), (17, .goto (-12), 3), (20, .return_, 1)]
theorem nd_i41_ok : am_ic prog_26_method_103_code nd_i41 = true := by decide +kernel
def nd_s41 : List nm_S := []
theorem nd_ok41 : am_ok nm_Ts nm_Tn nd_cl nd_mt nd_fr nd_lo 41 (am_in nd_i41) (am_fl []) (am_ct []) (am_sl nd_ml nd_s41) := nm_ok (x := 41) (ini := false) rfl (by decide +kernel) nd_cok nd_i41_ok (by decide) rfl rfl rfl rfl

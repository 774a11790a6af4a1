-- PaperParcels$Paper.clear()V
def nd_i71 : List (Nat × Instr × Nat) := [(0, .aload_n 0, 1), (1, .iconst 0, 1), (2, .putfield 36, 3), (5, .aload_n 0, 1), (6, .getfield 32, 3), (9, .invokevirtual 40, 3), (12, .return_, 1)]
theorem nd_i71_ok : am_ic prog_5_method_2_code nd_i71 = true := by decide +kernel
def nd_s71 : List nm_S := [(40, 15, false, 821)]
theorem nd_s71_ok : nd_s71.all (nm_schk nd_ct nd_ml "PaperParcels$Paper") = true := by decide +kernel
theorem nd_ok71 : am_ok nm_Ts nm_Tn nd_cl nd_mt nd_fr nd_lo 71 (am_in nd_i71) (am_fl nd_f2) (am_ct nd_k2) (am_sl nd_ml nd_s71) := nm_ok (x := 71) (ini := false) rfl (by decide +kernel) nd_cok nd_i71_ok (by decide) nd_f2_ok nd_k2_ok nd_s71_ok (by decide +kernel)
-- PaperParcels$Paper.add(III)Z
def nd_i75 : List (Nat × Instr × Nat) := [(0, .aload_n 0, 1), (1, .getfield 36, 3), (4, .aload_n 0, 1), (5, .getfield 9, 3), (8, .arraylength, 1), (9, .if_icmp .lt 5, 3), (12, .iconst 0, 1), (13, .ireturn, 1), (14, .aload_n 0, 1), (15, .getfield 9, 3), (18, .aload_n 0, 1), (19, .getfield 36, 3), (22, .iload_n 1, 1), (23, .iastore, 1), (24, .aload_n 0, 1), (25, .getfield 15, 3), (28, .aload_n 0, 1), (29, .getfield 36, 3), (32, .iload_n 2, 1), (33, .iastore, 1), (34, .aload_n 0, 1), (35, .getfield 18, 3), (38, .aload_n 0, 1), (39, .getfield 36, 3), (42, .iload_n 3, 1), (43, .iastore, 1), (44, .aload_n 0, 1), (45, .getfield 21, 3), (48, .aload_n 0, 1), (49, .getfield 36, 3), (52, .aload_n 0, 1), (53, .getfield 32, 3), (56, .getfield 43, 3), (59, .iastore, 1), (60, .aload_n 0, 1), (61, .getfield 24, 3), (64, .aload_n 0, 1), (65, .getfield 36, 3), (68, .iconst 0, 1), (69, .iastore, 1), (70, .aload_n 0, 1), (71, .dup, 1), (72, .getfield 36, 3), (75, .iconst 1, 1), (76, .iadd, 1), (77, .putfield 36, 3), (80, .iconst 1, 1), (81, .ireturn, 1)]
theorem nd_i75_ok : am_ic prog_5_method_3_code nd_i75 = true := by decide +kernel
def nd_s75 : List nm_S := []
theorem nd_s75_ok : nd_s75.all (nm_schk nd_ct nd_ml "PaperParcels$Paper") = true := by decide +kernel
theorem nd_ok75 : am_ok nm_Ts nm_Tn nd_cl nd_mt nd_fr nd_lo 75 (am_in nd_i75) (am_fl nd_f2) (am_ct nd_k2) (am_sl nd_ml nd_s75) := nm_ok (x := 75) (ini := false) rfl (by decide +kernel) nd_cok nd_i75_ok (by decide) nd_f2_ok nd_k2_ok nd_s75_ok (by decide +kernel)
-- PaperParcels$Paper.endsInRun(I)Z
def nd_i77 : List (Nat × Instr × Nat) := [(0, .aload_n 0, 1), (1, .getfield 36, 3), (4, .ifCond .le 37, 3), (7, .aload_n 0, 1), (8, .getfield 9, 3), (11, .aload_n 0, 1), (12, .getfield 36, 3), (15, .iconst 1, 1), (16, .isub, 1), (17, .iaload, 1), (18, .iconst 2, 1), (19, .if_icmp .ne 22, 3), (22, .aload_n 0, 1), (23, .getfield 18, 3), (26, .aload_n 0, 1), (27, .getfield 36, 3), (30, .iconst 1, 1), (31, .isub, 1), (32, .iaload, 1), (33, .iload_n 1, 1), (34, .if_icmp .ne 7, 3), (37, .iconst 1, 1), (38, .goto 4, 3), (41, .iconst 0, 1), (42, .ireturn, 1)]
theorem nd_i77_ok : am_ic prog_5_method_8_code nd_i77 = true := by decide +kernel
def nd_s77 : List nm_S := []
theorem nd_s77_ok : nd_s77.all (nm_schk nd_ct nd_ml "PaperParcels$Paper") = true := by decide +kernel
theorem nd_ok77 : am_ok nm_Ts nm_Tn nd_cl nd_mt nd_fr nd_lo 77 (am_in nd_i77) (am_fl nd_f2) (am_ct nd_k2) (am_sl nd_ml nd_s77) := nm_ok (x := 77) (ini := false) rfl (by decide +kernel) nd_cok nd_i77_ok (by decide) nd_f2_ok nd_k2_ok nd_s77_ok (by decide +kernel)
-- PaperParcels$Paper.addSign(I)V
def nd_i78 : List (Nat × Instr × Nat) := [(0, .aload_n 0, 1), (1, .getfield 36, 3), (4, .ifCond .le 41, 3), (7, .aload_n 0, 1), (8, .getfield 32, 3), (11, .iload_n 1, 1), (12, .invokevirtual 46, 3), (15, .aload_n 0, 1), (16, .getfield 24, 3), (19, .aload_n 0, 1), (20, .getfield 36, 3), (23, .iconst 1, 1), (24, .isub, 1), (25, .aload_n 0, 1), (26, .getfield 32, 3), (29, .getfield 43, 3), (32, .aload_n 0, 1), (33, .getfield 21, 3), (36, .aload_n 0, 1), (37, .getfield 36, 3), (40, .iconst 1, 1), (41, .isub, 1), (42, .iaload, 1), (43, .isub, 1), (44, .iastore, 1), (45, .return_, 1)]
theorem nd_i78_ok : am_ic prog_5_method_4_code nd_i78 = true := by decide +kernel
def nd_s78 : List nm_S := [(46, 13, false, 850)]
theorem nd_s78_ok : nd_s78.all (nm_schk nd_ct nd_ml "PaperParcels$Paper") = true := by decide +kernel
theorem nd_ok78 : am_ok nm_Ts nm_Tn nd_cl nd_mt nd_fr nd_lo 78 (am_in nd_i78) (am_fl nd_f2) (am_ct nd_k2) (am_sl nd_ml nd_s78) := nm_ok (x := 78) (ini := false) rfl (by decide +kernel) nd_cok nd_i78_ok (by decide) nd_f2_ok nd_k2_ok nd_s78_ok (by decide +kernel)
-- PaperParcels$Paper.copyFrom(LPaperParcels$Paper;)V
def nd_i79 : List (Nat × Instr × Nat) := [(0, .aload_n 0, 1), (1, .invokevirtual 57, 3), (4, .iconst 0, 1), (5, .istore_n 2, 1), (6, .iload_n 2, 1), (7, .aload_n 1, 1), (8, .getfield 36, 3), (11, .if_icmp .ge 21, 3), (14, .aload_n 0, 1), (15, .aload_n 1, 1), (16, .iload_n 2, 1), (17, .aload_n 1, 1), (18, .getfield 15, 3), (21, .iload_n 2, 1), (22, .iaload, 1), (23, .invokevirtual 58, 3), (26, .iinc 2 1, 3), (29, .goto (-23), 3), (32, .return_, 1)]
theorem nd_i79_ok : am_ic prog_5_method_6_code nd_i79 = true := by decide +kernel
def nd_s79 : List nm_S := [(57, 71, false, 855), (58, 80, false, 856)]
theorem nd_s79_ok : nd_s79.all (nm_schk nd_ct nd_ml "PaperParcels$Paper") = true := by decide +kernel
theorem nd_ok79 : am_ok nm_Ts nm_Tn nd_cl nd_mt nd_fr nd_lo 79 (am_in nd_i79) (am_fl nd_f2) (am_ct nd_k2) (am_sl nd_ml nd_s79) := nm_ok (x := 79) (ini := false) rfl (by decide +kernel) nd_cok nd_i79_ok (by decide) nd_f2_ok nd_k2_ok nd_s79_ok (by decide +kernel)
-- PaperParcels$Paper.addCopy(LPaperParcels$Paper;II)V
def nd_i80 : List (Nat × Instr × Nat) := [(0, .aload_n 0, 1), (1, .aload_n 1, 1), (2, .getfield 9, 3), (5, .iload_n 2, 1), (6, .iaload, 1), (7, .iload_n 3, 1), (8, .aload_n 1, 1), (9, .getfield 18, 3), (12, .iload_n 2, 1), (13, .iaload, 1), (14, .invokevirtual 49, 3), (17, .ifCond .eq 76, 3), (20, .iconst 0, 1), (21, .istore 4, 2), (23, .iload 4, 2), (25, .aload_n 1, 1), (26, .getfield 24, 3), (29, .iload_n 2, 1), (30, .iaload, 1), (31, .if_icmp .ge 32, 3), (34, .aload_n 0, 1), (35, .getfield 32, 3), (38, .aload_n 1, 1), (39, .getfield 32, 3), (42, .aload_n 1, 1), (43, .getfield 21, 3), (46, .iload_n 2, 1), (47, .iaload, 1), (48, .iload 4, 2), (50, .iadd, 1), (51, .invokevirtual 53, 3), (54, .invokevirtual 46, 3), (57, .iinc 4 1, 3), (60, .goto (-37), 3), (63, .aload_n 0, 1), (64, .getfield 24, 3), (67, .aload_n 0, 1), (68, .getfield 36, 3), (71, .iconst 1, 1), (72, .isub, 1), (73, .aload_n 0, 1), (74, .getfield 32, 3), (77, .getfield 43, 3), (80, .aload_n 0, 1), (81, .getfield 21, 3), (84, .aload_n 0, 1), (85, .getfield 36, 3), (88, .iconst 1, 1), (89, .isub, 1), (90, .iaload, 1), (91, .isub, 1), (92, .iastore, 1), (93, .return_, 1)]
theorem nd_i80_ok : am_ic prog_5_method_5_code nd_i80 = true := by decide +kernel
def nd_s80 : List nm_S := [(49, 75, false, 860), (53, 18, false, 861), (46, 13, false, 850)]
theorem nd_s80_ok : nd_s80.all (nm_schk nd_ct nd_ml "PaperParcels$Paper") = true := by decide +kernel
theorem nd_ok80 : am_ok nm_Ts nm_Tn nd_cl nd_mt nd_fr nd_lo 80 (am_in nd_i80) (am_fl nd_f2) (am_ct nd_k2) (am_sl nd_ml nd_s80) := nm_ok (x := 80) (ini := false) rfl (by decide +kernel) nd_cok nd_i80_ok (by decide) nd_f2_ok nd_k2_ok nd_s80_ok (by decide +kernel)
-- PaperParcels$Paper.signAt(II)I
def nd_i91 : List (Nat × Instr × Nat) := [(0, .iload_n 2, 1), (1, .ifCond .lt 31, 3), (4, .iload_n 2, 1), (5, .aload_n 0, 1), (6, .getfield 24, 3), (9, .iload_n 1, 1), (10, .iaload, 1), (11, .if_icmp .ge 21, 3), (14, .aload_n 0, 1), (15, .getfield 32, 3), (18, .aload_n 0, 1), (19, .getfield 21, 3), (22, .iload_n 1, 1), (23, .iaload, 1), (24, .iload_n 2, 1), (25, .iadd, 1), (26, .invokevirtual 53, 3), (29, .goto 4, 3), (32, .iconst (-1), 1), (33, .ireturn, 1)]
theorem nd_i91_ok : am_ic prog_5_method_7_code nd_i91 = true := by decide +kernel
def nd_s91 : List nm_S := [(53, 18, false, 861)]
theorem nd_s91_ok : nd_s91.all (nm_schk nd_ct nd_ml "PaperParcels$Paper") = true := by decide +kernel
theorem nd_ok91 : am_ok nm_Ts nm_Tn nd_cl nd_mt nd_fr nd_lo 91 (am_in nd_i91) (am_fl nd_f2) (am_ct nd_k2) (am_sl nd_ml nd_s91) := nm_ok (x := 91) (ini := false) rfl (by decide +kernel) nd_cok nd_i91_ok (by decide) nd_f2_ok nd_k2_ok nd_s91_ok (by decide +kernel)
-- PaperParcels$Paper.isEmptyNode(I)Z
def nd_i139 : List (Nat × Instr × Nat) := [(0, .iload_n 1, 1), (1, .iconst 1, 1), (2, .iadd, 1), (3, .aload_n 0, 1), (4, .getfield 36, 3), (7, .if_icmp .ge 15, 3), (10, .aload_n 0, 1), (11, .getfield 15, 3), (14, .iload_n 1, 1), (15, .iconst 1, 1), (16, .iadd, 1), (17, .iaload, 1), (18, .iload_n 1, 1), (19, .if_icmp .eq 7, 3), (22, .iconst 1, 1), (23, .goto 4, 3), (26, .iconst 0, 1), (27, .ireturn, 1)]
theorem nd_i139_ok : am_ic prog_5_method_9_code nd_i139 = true := by decide +kernel
def nd_s139 : List nm_S := []
theorem nd_s139_ok : nd_s139.all (nm_schk nd_ct nd_ml "PaperParcels$Paper") = true := by decide +kernel
theorem nd_ok139 : am_ok nm_Ts nm_Tn nd_cl nd_mt nd_fr nd_lo 139 (am_in nd_i139) (am_fl nd_f2) (am_ct nd_k2) (am_sl nd_ml nd_s139) := nm_ok (x := 139) (ini := false) rfl (by decide +kernel) nd_cok nd_i139_ok (by decide) nd_f2_ok nd_k2_ok nd_s139_ok (by decide +kernel)

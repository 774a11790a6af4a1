-- PaperParcels.write(J)Z
def nd_i12 : List (Nat × Instr × Nat) := [(0, .iconst 0, 1), (1, .istore_n 3, 1), (2, .iconst 0, 1), (3, .istore 4, 2), (5, .iload 4, 2), (7, .bipush 64, 2), (9, .if_icmp .ge 44, 3), (12, .lload_n 1, 1), (13, .iload 4, 2), (15, .lushr, 1), (16, .l2i, 1), (17, .sipush 255, 3), (20, .iand, 1), (21, .istore 5, 2), (23, .iload 5, 2), (25, .ifCond .eq 22, 3), (28, .iload 5, 2), (30, .bipush 32, 2), (32, .if_icmp .lt 10, 3), (35, .iload 5, 2), (37, .bipush 126, 2), (39, .if_icmp .le 5, 3), (42, .iconst 0, 1), (43, .ireturn, 1), (44, .iinc 3 1, 3), (47, .iinc 4 8, 3), (50, .goto (-45), 3), (53, .aload_n 0, 1), (54, .getfield 14, 3), (57, .getfield 50, 3), (60, .iload_n 3, 1), (61, .iadd, 1), (62, .sipush 480, 3), (65, .if_icmp .le 5, 3), (68, .iconst 0, 1), (69, .ireturn, 1), (70, .iconst 0, 1), (71, .istore 4, 2), (73, .iload 4, 2), (75, .bipush 64, 2), (77, .if_icmp .ge 34, 3), (80, .lload_n 1, 1), (81, .iload 4, 2), (83, .lushr, 1), (84, .l2i, 1), (85, .sipush 255, 3), (88, .iand, 1), (89, .istore 5, 2), (91, .iload 5, 2), (93, .ifCond .eq 12, 3), (96, .aload_n 0, 1), (97, .getfield 14, 3), (100, .iload 5, 2), (102, .invokevirtual 54, 3), (105, .iinc 4 8, 3), (108, .goto (-35), 3), (111, .iconst 1, 1), (112, .ireturn, 1)]
theorem nd_i12_ok : am_ic prog_1_method_2_code nd_i12 = true := by decide +kernel
def nd_s12 : List nm_S := [(54, 13, false, 532)]
theorem nd_s12_ok : nd_s12.all (nm_schk nd_ct nd_ml "PaperParcels") = true := by decide +kernel
theorem nd_ok12 : am_ok nm_Ts nm_Tn nd_cl nd_mt nd_fr nd_lo 12 (am_in nd_i12) (am_fl nd_f0) (am_ct nd_k0) (am_sl nd_ml nd_s12) := nm_ok (x := 12) (ini := false) rfl (by decide +kernel) nd_cok nd_i12_ok (by decide) nd_f0_ok nd_k0_ok nd_s12_ok (by decide +kernel)
-- PaperParcels.wipe()I
def nd_i14 : List (Nat × Instr × Nat) := [(0, .aload_n 0, 1), (1, .getfield 14, 3), (4, .getfield 50, 3), (7, .istore_n 1, 1), (8, .aload_n 0, 1), (9, .getfield 14, 3), (12, .invokevirtual 57, 3), (15, .iload_n 1, 1), (16, .ireturn, 1)]
theorem nd_i14_ok : am_ic prog_1_method_3_code nd_i14 = true := by decide +kernel
def nd_s14 : List nm_S := [(57, 15, false, 540)]
theorem nd_s14_ok : nd_s14.all (nm_schk nd_ct nd_ml "PaperParcels") = true := by decide +kernel
theorem nd_ok14 : am_ok nm_Ts nm_Tn nd_cl nd_mt nd_fr nd_lo 14 (am_in nd_i14) (am_fl nd_f0) (am_ct nd_k0) (am_sl nd_ml nd_s14) := nm_ok (x := 14) (ini := false) rfl (by decide +kernel) nd_cok nd_i14_ok (by decide) nd_f0_ok nd_k0_ok nd_s14_ok (by decide +kernel)
-- PaperParcels.length()I
def nd_i16 : List (Nat × Instr × Nat) := [(0, .aload_n 0, 1), (1, .getfield 14, 3), (4, .getfield 50, 3), (7, .ireturn, 1)]
theorem nd_i16_ok : am_ic prog_1_method_4_code nd_i16 = true := by decide +kernel
def nd_s16 : List nm_S := []
theorem nd_s16_ok : nd_s16.all (nm_schk nd_ct nd_ml "PaperParcels") = true := by decide +kernel
theorem nd_ok16 : am_ok nm_Ts nm_Tn nd_cl nd_mt nd_fr nd_lo 16 (am_in nd_i16) (am_fl nd_f0) (am_ct nd_k0) (am_sl nd_ml nd_s16) := nm_ok (x := 16) (ini := false) rfl (by decide +kernel) nd_cok nd_i16_ok (by decide) nd_f0_ok nd_k0_ok nd_s16_ok (by decide +kernel)
-- PaperParcels.character(I)I
def nd_i17 : List (Nat × Instr × Nat) := [(0, .aload_n 0, 1), (1, .getfield 14, 3), (4, .iload_n 1, 1), (5, .invokevirtual 60, 3), (8, .ireturn, 1)]
theorem nd_i17_ok : am_ic prog_1_method_5_code nd_i17 = true := by decide +kernel
def nd_s17 : List nm_S := [(60, 18, false, 552)]
theorem nd_s17_ok : nd_s17.all (nm_schk nd_ct nd_ml "PaperParcels") = true := by decide +kernel
theorem nd_ok17 : am_ok nm_Ts nm_Tn nd_cl nd_mt nd_fr nd_lo 17 (am_in nd_i17) (am_fl nd_f0) (am_ct nd_k0) (am_sl nd_ml nd_s17) := nm_ok (x := 17) (ini := false) rfl (by decide +kernel) nd_cok nd_i17_ok (by decide) nd_f0_ok nd_k0_ok nd_s17_ok (by decide +kernel)
-- PaperParcels.place()I
def nd_i19 : List (Nat × Instr × Nat) := [(0, .aload_n 0, 1), (1, .getfield 30, 3), (4, .getfield 82, 3), (7, .ireturn, 1)]
theorem nd_i19_ok : am_ic prog_1_method_7_code nd_i19 = true := by decide +kernel
def nd_s19 : List nm_S := []
theorem nd_s19_ok : nd_s19.all (nm_schk nd_ct nd_ml "PaperParcels") = true := by decide +kernel
theorem nd_ok19 : am_ok nm_Ts nm_Tn nd_cl nd_mt nd_fr nd_lo 19 (am_in nd_i19) (am_fl nd_f0) (am_ct nd_k0) (am_sl nd_ml nd_s19) := nm_ok (x := 19) (ini := false) rfl (by decide +kernel) nd_cok nd_i19_ok (by decide) nd_f0_ok nd_k0_ok nd_s19_ok (by decide +kernel)
-- PaperParcels.steps()I
def nd_i20 : List (Nat × Instr × Nat) := [(0, .aload_n 0, 1), (1, .getfield 39, 3), (4, .getfield 123, 3), (7, .ireturn, 1)]
theorem nd_i20_ok : am_ic prog_1_method_15_code nd_i20 = true := by decide +kernel
def nd_s20 : List nm_S := []
theorem nd_s20_ok : nd_s20.all (nm_schk nd_ct nd_ml "PaperParcels") = true := by decide +kernel
theorem nd_ok20 : am_ok nm_Ts nm_Tn nd_cl nd_mt nd_fr nd_lo 20 (am_in nd_i20) (am_fl nd_f0) (am_ct nd_k0) (am_sl nd_ml nd_s20) := nm_ok (x := 20) (ini := false) rfl (by decide +kernel) nd_cok nd_i20_ok (by decide) nd_f0_ok nd_k0_ok nd_s20_ok (by decide +kernel)
-- PaperParcels.read(I)I
def nd_i21 : List (Nat × Instr × Nat) := [(0, .iload_n 1, 1), (1, .ifCond .eq 16, 3), (4, .iload_n 1, 1), (5, .iconst 1, 1), (6, .if_icmp .eq 11, 3), (9, .new 64, 3), (12, .dup, 1), (13, .invokespecial 66, 3), (16, .athrow, 1), (17, .aload_n 0, 1), (18, .getfield 30, 3), (21, .aload_n 0, 1), (22, .getfield 14, 3), (25, .invokevirtual 67, 3), (28, .istore_n 2, 1), (29, .iload_n 2, 1), (30, .ifCond .ne 26, 3), (33, .aload_n 0, 1), (34, .getfield 20, 3), (37, .iload_n 1, 1), (38, .aaload, 1), (39, .aload_n 0, 1), (40, .getfield 30, 3), (43, .getfield 71, 3), (46, .invokevirtual 75, 3), (49, .aload_n 0, 1), (50, .getfield 39, 3), (53, .invokevirtual 79, 3), (56, .iload_n 2, 1), (57, .ireturn, 1)]
theorem nd_i21_ok : am_ic prog_1_method_6_code nd_i21 = true := by decide +kernel
def nd_s21 : List nm_S := [(66, 23, false, 614), (67, 26, false, 636), (75, 79, false, 851), (79, 81, false, 862)]
theorem nd_s21_ok : nd_s21.all (nm_schk nd_ct nd_ml "PaperParcels") = true := by decide +kernel
theorem nd_ok21 : am_ok nm_Ts nm_Tn nd_cl nd_mt nd_fr nd_lo 21 (am_in nd_i21) (am_fl nd_f0) (am_ct nd_k0) (am_sl nd_ml nd_s21) := nm_ok (x := 21) (ini := false) rfl (by decide +kernel) nd_cok nd_i21_ok (by decide) nd_f0_ok nd_k0_ok nd_s21_ok (by decide +kernel)
-- PaperParcels.isDigit(I)Z
def nd_i29 : List (Nat × Instr × Nat) := [(0, .iload_n 0, 1), (1, .bipush 48, 2), (3, .if_icmp .lt 13, 3), (6, .iload_n 0, 1), (7, .bipush 57, 2), (9, .if_icmp .gt 7, 3), (12, .iconst 1, 1), (13, .goto 4, 3), (16, .iconst 0, 1), (17, .ireturn, 1)]
theorem nd_i29_ok : am_ic prog_1_method_22_code nd_i29 = true := by decide +kernel
def nd_s29 : List nm_S := []
theorem nd_s29_ok : nd_s29.all (nm_schk nd_ct nd_ml "PaperParcels") = true := by decide +kernel
theorem nd_ok29 : am_ok nm_Ts nm_Tn nd_cl nd_mt nd_fr nd_lo 29 (am_in nd_i29) (am_fl nd_f0) (am_ct nd_k0) (am_sl nd_ml nd_s29) := nm_ok (x := 29) (ini := false) rfl (by decide +kernel) nd_cok nd_i29_ok (by decide) nd_f0_ok nd_k0_ok nd_s29_ok (by decide +kernel)
-- PaperParcels.hexDigit(I)I
def nd_i39 : List (Nat × Instr × Nat) := [(0, .iload_n 0, 1), (1, .bipush 10, 2), (3, .if_icmp .ge 10, 3), (6, .bipush 48, 2), (8, .iload_n 0, 1), (9, .iadd, 1), (10, .goto 10, 3), (13, .bipush 97, 2), (15, .iload_n 0, 1), (16, .iadd, 1), (17, .bipush 10, 2), (19, .isub, 1), (20, .ireturn, 1)]
theorem nd_i39_ok : am_ic prog_1_method_25_code nd_i39 = true := by decide +kernel
def nd_s39 : List nm_S := []
theorem nd_s39_ok : nd_s39.all (nm_schk nd_ct nd_ml "PaperParcels") = true := by decide +kernel
theorem nd_ok39 : am_ok nm_Ts nm_Tn nd_cl nd_mt nd_fr nd_lo 39 (am_in nd_i39) (am_fl nd_f0) (am_ct nd_k0) (am_sl nd_ml nd_s39) := nm_ok (x := 39) (ini := false) rfl (by decide +kernel) nd_cok nd_i39_ok (by decide) nd_f0_ok nd_k0_ok nd_s39_ok (by decide +kernel)
-- PaperParcels.isSmall(I)Z
def nd_i43 : List (Nat × Instr × Nat) := [(0, .iload_n 0, 1), (1, .bipush 97, 2), (3, .if_icmp .lt 13, 3), (6, .iload_n 0, 1), (7, .bipush 122, 2), (9, .if_icmp .gt 7, 3), (12, .iconst 1, 1), (13, .goto 4, 3), (16, .iconst 0, 1), (17, .ireturn, 1)]
theorem nd_i43_ok : am_ic prog_1_method_23_code nd_i43 = true := by decide +kernel
def nd_s43 : List nm_S := []
theorem nd_s43_ok : nd_s43.all (nm_schk nd_ct nd_ml "PaperParcels") = true := by decide +kernel
theorem nd_ok43 : am_ok nm_Ts nm_Tn nd_cl nd_mt nd_fr nd_lo 43 (am_in nd_i43) (am_fl nd_f0) (am_ct nd_k0) (am_sl nd_ml nd_s43) := nm_ok (x := 43) (ini := false) rfl (by decide +kernel) nd_cok nd_i43_ok (by decide) nd_f0_ok nd_k0_ok nd_s43_ok (by decide +kernel)
-- PaperParcels.isCapital(I)Z
def nd_i49 : List (Nat × Instr × Nat) := [(0, .iload_n 0, 1), (1, .bipush 65, 2), (3, .if_icmp .lt 13, 3), (6, .iload_n 0, 1), (7, .bipush 90, 2), (9, .if_icmp .gt 7, 3), (12, .iconst 1, 1), (13, .goto 4, 3), (16, .iconst 0, 1), (17, .ireturn, 1)]
theorem nd_i49_ok : am_ic prog_1_method_24_code nd_i49 = true := by decide +kernel
def nd_s49 : List nm_S := []
theorem nd_s49_ok : nd_s49.all (nm_schk nd_ct nd_ml "PaperParcels") = true := by decide +kernel
theorem nd_ok49 : am_ok nm_Ts nm_Tn nd_cl nd_mt nd_fr nd_lo 49 (am_in nd_i49) (am_fl nd_f0) (am_ct nd_k0) (am_sl nd_ml nd_s49) := nm_ok (x := 49) (ini := false) rfl (by decide +kernel) nd_cok nd_i49_ok (by decide) nd_f0_ok nd_k0_ok nd_s49_ok (by decide +kernel)
-- PaperParcels.numberOfLook(II)I
def nd_i74 : List (Nat × Instr × Nat) := [(0, .iload_n 1, 1), (1, .ifCond .ne 9, 3), (4, .iload_n 0, 1), (5, .sipush 1000, 3), (8, .idiv, 1), (9, .ireturn, 1), (10, .iload_n 1, 1), (11, .iconst 1, 1), (12, .if_icmp .ne 13, 3), (15, .iload_n 0, 1), (16, .bipush 10, 2), (18, .idiv, 1), (19, .bipush 100, 2), (21, .irem, 1), (22, .goto 7, 3), (25, .iload_n 0, 1), (26, .bipush 10, 2), (28, .irem, 1), (29, .ireturn, 1)]
theorem nd_i74_ok : am_ic prog_1_method_21_code nd_i74 = true := by decide +kernel
def nd_s74 : List nm_S := []
theorem nd_s74_ok : nd_s74.all (nm_schk nd_ct nd_ml "PaperParcels") = true := by decide +kernel
theorem nd_ok74 : am_ok nm_Ts nm_Tn nd_cl nd_mt nd_fr nd_lo 74 (am_in nd_i74) (am_fl nd_f0) (am_ct nd_k0) (am_sl nd_ml nd_s74) := nm_ok (x := 74) (ini := false) rfl (by decide +kernel) nd_cok nd_i74_ok (by decide) nd_f0_ok nd_k0_ok nd_s74_ok (by decide +kernel)
-- PaperParcels.nodes(I)I
def nd_i82 : List (Nat × Instr × Nat) := [(0, .aload_n 0, 1), (1, .iload_n 1, 1), (2, .invokevirtual 85, 3), (5, .getfield 89, 3), (8, .ireturn, 1)]
theorem nd_i82_ok : am_ic prog_1_method_8_code nd_i82 = true := by decide +kernel
def nd_s82 : List nm_S := [(85, 83, false, 873)]
theorem nd_s82_ok : nd_s82.all (nm_schk nd_ct nd_ml "PaperParcels") = true := by decide +kernel
theorem nd_ok82 : am_ok nm_Ts nm_Tn nd_cl nd_mt nd_fr nd_lo 82 (am_in nd_i82) (am_fl nd_f0) (am_ct nd_k0) (am_sl nd_ml nd_s82) := nm_ok (x := 82) (ini := false) rfl (by decide +kernel) nd_cok nd_i82_ok (by decide) nd_f0_ok nd_k0_ok nd_s82_ok (by decide +kernel)
-- PaperParcels.inSlot(I)LPaperParcels$Paper;
def nd_i83 : List (Nat × Instr × Nat) := [(0, .iload_n 1, 1), (1, .ifCond .lt 8, 3), (4, .iload_n 1, 1), (5, .iconst 3, 1), (6, .if_icmp .lt 11, 3), (9, .new 64, 3), (12, .dup, 1), (13, .invokespecial 66, 3), (16, .athrow, 1), (17, .aload_n 0, 1), (18, .getfield 20, 3), (21, .iload_n 1, 1), (22, .aaload, 1), (23, .areturn, 1)]
theorem nd_i83_ok : am_ic prog_1_method_19_code nd_i83 = true := by decide +kernel
def nd_s83 : List nm_S := [(66, 23, false, 614)]
theorem nd_s83_ok : nd_s83.all (nm_schk nd_ct nd_ml "PaperParcels") = true := by decide +kernel
theorem nd_ok83 : am_ok nm_Ts nm_Tn nd_cl nd_mt nd_fr nd_lo 83 (am_in nd_i83) (am_fl nd_f0) (am_ct nd_k0) (am_sl nd_ml nd_s83) := nm_ok (x := 83) (ini := false) rfl (by decide +kernel) nd_cok nd_i83_ok (by decide) nd_f0_ok nd_k0_ok nd_s83_ok (by decide +kernel)
-- PaperParcels.kind(II)I
def nd_i84 : List (Nat × Instr × Nat) := [(0, .aload_n 0, 1), (1, .iload_n 1, 1), (2, .invokevirtual 85, 3), (5, .iload_n 2, 1), (6, .invokestatic 92, 3), (9, .getfield 96, 3), (12, .iload_n 2, 1), (13, .iaload, 1), (14, .ireturn, 1)]
theorem nd_i84_ok : am_ic prog_1_method_9_code nd_i84 = true := by decide +kernel
def nd_s84 : List nm_S := [(85, 83, false, 873), (92, 85, false, 885)]
theorem nd_s84_ok : nd_s84.all (nm_schk nd_ct nd_ml "PaperParcels") = true := by decide +kernel
theorem nd_ok84 : am_ok nm_Ts nm_Tn nd_cl nd_mt nd_fr nd_lo 84 (am_in nd_i84) (am_fl nd_f0) (am_ct nd_k0) (am_sl nd_ml nd_s84) := nm_ok (x := 84) (ini := false) rfl (by decide +kernel) nd_cok nd_i84_ok (by decide) nd_f0_ok nd_k0_ok nd_s84_ok (by decide +kernel)
-- PaperParcels.withNode(LPaperParcels$Paper;I)LPaperParcels$Paper;
def nd_i85 : List (Nat × Instr × Nat) := [(0, .iload_n 1, 1), (1, .ifCond .lt 11, 3), (4, .iload_n 1, 1), (5, .aload_n 0, 1), (6, .getfield 89, 3), (9, .if_icmp .lt 11, 3), (12, .new 124, 3), (15, .dup, 1), (16, .invokespecial 126, 3), (19, .athrow, 1), (20, .aload_n 0, 1), (21, .areturn, 1)]
theorem nd_i85_ok : am_ic prog_1_method_20_code nd_i85 = true := by decide +kernel
def nd_s85 : List nm_S := [(126, 86, false, 897)]
theorem nd_s85_ok : nd_s85.all (nm_schk nd_ct nd_ml "PaperParcels") = true := by decide +kernel
theorem nd_ok85 : am_ok nm_Ts nm_Tn nd_cl nd_mt nd_fr nd_lo 85 (am_in nd_i85) (am_fl nd_f0) (am_ct nd_k0) (am_sl nd_ml nd_s85) := nm_ok (x := 85) (ini := false) rfl (by decide +kernel) nd_cok nd_i85_ok (by decide) nd_f0_ok nd_k0_ok nd_s85_ok (by decide +kernel)
-- PaperParcels.above(II)I
def nd_i87 : List (Nat × Instr × Nat) := [(0, .aload_n 0, 1), (1, .iload_n 1, 1), (2, .invokevirtual 85, 3), (5, .iload_n 2, 1), (6, .invokestatic 92, 3), (9, .getfield 100, 3), (12, .iload_n 2, 1), (13, .iaload, 1), (14, .ireturn, 1)]
theorem nd_i87_ok : am_ic prog_1_method_10_code nd_i87 = true := by decide +kernel
def nd_s87 : List nm_S := [(85, 83, false, 873), (92, 85, false, 885)]
theorem nd_s87_ok : nd_s87.all (nm_schk nd_ct nd_ml "PaperParcels") = true := by decide +kernel
theorem nd_ok87 : am_ok nm_Ts nm_Tn nd_cl nd_mt nd_fr nd_lo 87 (am_in nd_i87) (am_fl nd_f0) (am_ct nd_k0) (am_sl nd_ml nd_s87) := nm_ok (x := 87) (ini := false) rfl (by decide +kernel) nd_cok nd_i87_ok (by decide) nd_f0_ok nd_k0_ok nd_s87_ok (by decide +kernel)
-- PaperParcels.look(III)I
def nd_i88 : List (Nat × Instr × Nat) := [(0, .aload_n 0, 1), (1, .iload_n 1, 1), (2, .invokevirtual 85, 3), (5, .astore 4, 2), (7, .iload_n 3, 1), (8, .ifCond .lt 8, 3), (11, .iload_n 3, 1), (12, .iconst 2, 1), (13, .if_icmp .le 11, 3), (16, .new 64, 3), (19, .dup, 1), (20, .invokespecial 66, 3), (23, .athrow, 1), (24, .aload 4, 2), (26, .iload_n 2, 1), (27, .invokestatic 92, 3), (30, .getfield 103, 3), (33, .iload_n 2, 1), (34, .iaload, 1), (35, .istore 5, 2), (37, .iload 5, 2), (39, .iconst (-1), 1), (40, .if_icmp .ne 7, 3), (43, .iconst (-1), 1), (44, .goto 9, 3), (47, .iload 5, 2), (49, .iload_n 3, 1), (50, .invokestatic 106, 3), (53, .ireturn, 1)]
theorem nd_i88_ok : am_ic prog_1_method_11_code nd_i88 = true := by decide +kernel
def nd_s88 : List nm_S := [(85, 83, false, 873), (66, 23, false, 614), (92, 85, false, 885), (106, 74, false, 917)]
theorem nd_s88_ok : nd_s88.all (nm_schk nd_ct nd_ml "PaperParcels") = true := by decide +kernel
theorem nd_ok88 : am_ok nm_Ts nm_Tn nd_cl nd_mt nd_fr nd_lo 88 (am_in nd_i88) (am_fl nd_f0) (am_ct nd_k0) (am_sl nd_ml nd_s88) := nm_ok (x := 88) (ini := false) rfl (by decide +kernel) nd_cok nd_i88_ok (by decide) nd_f0_ok nd_k0_ok nd_s88_ok (by decide +kernel)
-- PaperParcels.letters(II)I
def nd_i89 : List (Nat × Instr × Nat) := [(0, .aload_n 0, 1), (1, .iload_n 1, 1), (2, .invokevirtual 85, 3), (5, .iload_n 2, 1), (6, .invokestatic 92, 3), (9, .getfield 110, 3), (12, .iload_n 2, 1), (13, .iaload, 1), (14, .ireturn, 1)]
theorem nd_i89_ok : am_ic prog_1_method_12_code nd_i89 = true := by decide +kernel
def nd_s89 : List nm_S := [(85, 83, false, 873), (92, 85, false, 885)]
theorem nd_s89_ok : nd_s89.all (nm_schk nd_ct nd_ml "PaperParcels") = true := by decide +kernel
theorem nd_ok89 : am_ok nm_Ts nm_Tn nd_cl nd_mt nd_fr nd_lo 89 (am_in nd_i89) (am_fl nd_f0) (am_ct nd_k0) (am_sl nd_ml nd_s89) := nm_ok (x := 89) (ini := false) rfl (by decide +kernel) nd_cok nd_i89_ok (by decide) nd_f0_ok nd_k0_ok nd_s89_ok (by decide +kernel)
-- PaperParcels.letter(III)I
def nd_i90 : List (Nat × Instr × Nat) := [(0, .aload_n 0, 1), (1, .iload_n 1, 1), (2, .invokevirtual 85, 3), (5, .iload_n 2, 1), (6, .invokestatic 92, 3), (9, .iload_n 2, 1), (10, .iload_n 3, 1), (11, .invokevirtual 113, 3), (14, .ireturn, 1)]
theorem nd_i90_ok : am_ic prog_1_method_13_code nd_i90 = true := by decide +kernel
def nd_s90 : List nm_S := [(85, 83, false, 873), (92, 85, false, 885), (113, 91, false, 932)]
theorem nd_s90_ok : nd_s90.all (nm_schk nd_ct nd_ml "PaperParcels") = true := by decide +kernel
theorem nd_ok90 : am_ok nm_Ts nm_Tn nd_cl nd_mt nd_fr nd_lo 90 (am_in nd_i90) (am_fl nd_f0) (am_ct nd_k0) (am_sl nd_ml nd_s90) := nm_ok (x := 90) (ini := false) rfl (by decide +kernel) nd_cok nd_i90_ok (by decide) nd_f0_ok nd_k0_ok nd_s90_ok (by decide +kernel)
-- PaperParcels.compare()I
def nd_i92 : List (Nat × Instr × Nat) := [(0, .aload_n 0, 1), (1, .getfield 20, 3), (4, .iconst 0, 1), (5, .aaload, 1), (6, .getfield 89, 3), (9, .ifCond .eq 15, 3), (12, .aload_n 0, 1), (13, .getfield 20, 3), (16, .iconst 1, 1), (17, .aaload, 1), (18, .getfield 89, 3), (21, .ifCond .ne 11, 3), (24, .new 116, 3), (27, .dup, 1), (28, .invokespecial 118, 3), (31, .athrow, 1), (32, .aload_n 0, 1), (33, .getfield 39, 3), (36, .invokevirtual 119, 3), (39, .ireturn, 1)]
theorem nd_i92_ok : am_ic prog_1_method_14_code nd_i92 = true := by decide +kernel
def nd_s92 : List nm_S := [(118, 93, false, 953), (119, 94, false, 959)]
theorem nd_s92_ok : nd_s92.all (nm_schk nd_ct nd_ml "PaperParcels") = true := by decide +kernel
theorem nd_ok92 : am_ok nm_Ts nm_Tn nd_cl nd_mt nd_fr nd_lo 92 (am_in nd_i92) (am_fl nd_f0) (am_ct nd_k0) (am_sl nd_ml nd_s92) := nm_ok (x := 92) (ini := false) rfl (by decide +kernel) nd_cok nd_i92_ok (by decide) nd_f0_ok nd_k0_ok nd_s92_ok (by decide +kernel)
-- PaperParcels.step(IZ)I
def nd_i107 : List (Nat × Instr × Nat) := [(0, .iload_n 1, 1), (1, .ifCond .lt 14, 3), (4, .iload_n 1, 1), (5, .aload_n 0, 1), (6, .getfield 39, 3), (9, .getfield 123, 3), (12, .if_icmp .lt 11, 3), (15, .new 124, 3), (18, .dup, 1), (19, .invokespecial 126, 3), (22, .athrow, 1), (23, .iload_n 2, 1), (24, .ifCond .eq 15, 3), (27, .aload_n 0, 1), (28, .getfield 39, 3), (31, .getfield 127, 3), (34, .iload_n 1, 1), (35, .iaload, 1), (36, .goto 12, 3), (39, .aload_n 0, 1), (40, .getfield 39, 3), (43, .getfield 130, 3), (46, .iload_n 1, 1), (47, .iaload, 1), (48, .ireturn, 1)]
theorem nd_i107_ok : am_ic prog_1_method_16_code nd_i107 = true := by decide +kernel
def nd_s107 : List nm_S := [(126, 86, false, 897)]
theorem nd_s107_ok : nd_s107.all (nm_schk nd_ct nd_ml "PaperParcels") = true := by decide +kernel
theorem nd_ok107 : am_ok nm_Ts nm_Tn nd_cl nd_mt nd_fr nd_lo 107 (am_in nd_i107) (am_fl nd_f0) (am_ct nd_k0) (am_sl nd_ml nd_s107) := nm_ok (x := 107) (ini := false) rfl (by decide +kernel) nd_cok nd_i107_ok (by decide) nd_f0_ok nd_k0_ok nd_s107_ok (by decide +kernel)
-- PaperParcels.apply(I)I
def nd_i108 : List (Nat × Instr × Nat) := [(0, .aload_n 0, 1), (1, .getfield 39, 3), (4, .getfield 133, 3), (7, .ifCond .ne 11, 3), (10, .new 116, 3), (13, .dup, 1), (14, .invokespecial 118, 3), (17, .athrow, 1), (18, .iload_n 1, 1), (19, .ifCond .lt 14, 3), (22, .iload_n 1, 1), (23, .aload_n 0, 1), (24, .getfield 39, 3), (27, .getfield 123, 3), (30, .if_icmp .le 11, 3), (33, .new 64, 3), (36, .dup, 1), (37, .invokespecial 66, 3), (40, .athrow, 1), (41, .aload_n 0, 1), (42, .getfield 39, 3), (45, .iload_n 1, 1), (46, .invokevirtual 137, 3), (49, .aload_n 0, 1), (50, .getfield 20, 3), (53, .iconst 2, 1), (54, .aaload, 1), (55, .getfield 89, 3), (58, .ireturn, 1)]
theorem nd_i108_ok : am_ic prog_1_method_17_code nd_i108 = true := by decide +kernel
def nd_s108 : List nm_S := [(118, 93, false, 953), (66, 23, false, 614), (137, 109, false, 1028)]
theorem nd_s108_ok : nd_s108.all (nm_schk nd_ct nd_ml "PaperParcels") = true := by decide +kernel
theorem nd_ok108 : am_ok nm_Ts nm_Tn nd_cl nd_mt nd_fr nd_lo 108 (am_in nd_i108) (am_fl nd_f0) (am_ct nd_k0) (am_sl nd_ml nd_s108) := nm_ok (x := 108) (ini := false) rfl (by decide +kernel) nd_cok nd_i108_ok (by decide) nd_f0_ok nd_k0_ok nd_s108_ok (by decide +kernel)
-- PaperParcels.emit(II)I
def nd_i115 : List (Nat × Instr × Nat) := [(0, .aload_n 0, 1), (1, .iload_n 1, 1), (2, .invokevirtual 85, 3), (5, .astore_n 3, 1), (6, .iload_n 2, 1), (7, .ifCond .eq 16, 3), (10, .iload_n 2, 1), (11, .iconst 1, 1), (12, .if_icmp .eq 11, 3), (15, .new 64, 3), (18, .dup, 1), (19, .invokespecial 66, 3), (22, .athrow, 1), (23, .aload_n 3, 1), (24, .getfield 89, 3), (27, .ifCond .ne 11, 3), (30, .new 116, 3), (33, .dup, 1), (34, .invokespecial 118, 3), (37, .athrow, 1), (38, .aload_n 0, 1), (39, .getfield 46, 3), (42, .aload_n 3, 1), (43, .iload_n 2, 1), (44, .invokevirtual 140, 3), (47, .ifCond .ne 11, 3), (50, .new 144, 3), (53, .dup, 1), (54, .invokespecial 146, 3), (57, .athrow, 1), (58, .aload_n 0, 1), (59, .getfield 14, 3), (62, .invokevirtual 57, 3), (65, .aload_n 0, 1), (66, .getfield 14, 3), (69, .aload_n 0, 1), (70, .getfield 46, 3), (73, .getfield 147, 3), (76, .invokevirtual 150, 3), (79, .aload_n 0, 1), (80, .getfield 14, 3), (83, .getfield 50, 3), (86, .ireturn, 1)]
theorem nd_i115_ok : am_ic prog_1_method_18_code nd_i115 = true := by decide +kernel
def nd_s115 : List nm_S := [(85, 83, false, 873), (66, 23, false, 614), (118, 93, false, 953), (140, 116, false, 1063), (146, 145, false, 1209), (57, 15, false, 540), (150, 144, false, 1216)]
theorem nd_s115_ok : nd_s115.all (nm_schk nd_ct nd_ml "PaperParcels") = true := by decide +kernel
theorem nd_ok115 : am_ok nm_Ts nm_Tn nd_cl nd_mt nd_fr nd_lo 115 (am_in nd_i115) (am_fl nd_f0) (am_ct nd_k0) (am_sl nd_ml nd_s115) := nm_ok (x := 115) (ini := false) rfl (by decide +kernel) nd_cok nd_i115_ok (by decide) nd_f0_ok nd_k0_ok nd_s115_ok (by decide +kernel)

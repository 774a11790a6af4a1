-- PaperParcels$Row.put(I)V
def nd_i13 : List (Nat × Instr × Nat) := [(0, .aload_n 0, 1), (1, .getfield 15, 3), (4, .aload_n 0, 1), (5, .getfield 9, 3), (8, .arraylength, 1), (9, .if_icmp .ge 26, 3), (12, .aload_n 0, 1), (13, .getfield 9, 3), (16, .aload_n 0, 1), (17, .getfield 15, 3), (20, .iload_n 1, 1), (21, .iastore, 1), (22, .aload_n 0, 1), (23, .dup, 1), (24, .getfield 15, 3), (27, .iconst 1, 1), (28, .iadd, 1), (29, .putfield 15, 3), (32, .goto 8, 3), (35, .aload_n 0, 1), (36, .iconst 1, 1), (37, .putfield 19, 3), (40, .return_, 1)]
theorem nd_i13_ok : am_ic prog_8_method_3_code nd_i13 = true := by decide +kernel
def nd_s13 : List nm_S := []
theorem nd_s13_ok : nd_s13.all (nm_schk nd_ct nd_ml "PaperParcels$Row") = true := by decide +kernel
theorem nd_ok13 : am_ok nm_Ts nm_Tn nd_cl nd_mt nd_fr nd_lo 13 (am_in nd_i13) (am_fl nd_f1) (am_ct nd_k1) (am_sl nd_ml nd_s13) := nm_ok (x := 13) (ini := false) rfl (by decide +kernel) nd_cok nd_i13_ok (by decide) nd_f1_ok nd_k1_ok nd_s13_ok (by decide +kernel)
-- PaperParcels$Row.clear()V
def nd_i15 : List (Nat × Instr × Nat) := [(0, .aload_n 0, 1), (1, .iconst 0, 1), (2, .putfield 15, 3), (5, .aload_n 0, 1), (6, .iconst 0, 1), (7, .putfield 19, 3), (10, .return_, 1)]
theorem nd_i15_ok : am_ic prog_8_method_2_code nd_i15 = true := by decide +kernel
def nd_s15 : List nm_S := []
theorem nd_s15_ok : nd_s15.all (nm_schk nd_ct nd_ml "PaperParcels$Row") = true := by decide +kernel
theorem nd_ok15 : am_ok nm_Ts nm_Tn nd_cl nd_mt nd_fr nd_lo 15 (am_in nd_i15) (am_fl nd_f1) (am_ct nd_k1) (am_sl nd_ml nd_s15) := nm_ok (x := 15) (ini := false) rfl (by decide +kernel) nd_cok nd_i15_ok (by decide) nd_f1_ok nd_k1_ok nd_s15_ok (by decide +kernel)
-- PaperParcels$Row.at(I)I
def nd_i18 : List (Nat × Instr × Nat) := [(0, .iload_n 1, 1), (1, .ifCond .lt 20, 3), (4, .iload_n 1, 1), (5, .aload_n 0, 1), (6, .getfield 15, 3), (9, .if_icmp .ge 12, 3), (12, .aload_n 0, 1), (13, .getfield 9, 3), (16, .iload_n 1, 1), (17, .iaload, 1), (18, .goto 4, 3), (21, .iconst (-1), 1), (22, .ireturn, 1)]
theorem nd_i18_ok : am_ic prog_8_method_6_code nd_i18 = true := by decide +kernel
def nd_s18 : List nm_S := []
theorem nd_s18_ok : nd_s18.all (nm_schk nd_ct nd_ml "PaperParcels$Row") = true := by decide +kernel
theorem nd_ok18 : am_ok nm_Ts nm_Tn nd_cl nd_mt nd_fr nd_lo 18 (am_in nd_i18) (am_fl nd_f1) (am_ct nd_k1) (am_sl nd_ml nd_s18) := nm_ok (x := 18) (ini := false) rfl (by decide +kernel) nd_cok nd_i18_ok (by decide) nd_f1_ok nd_k1_ok nd_s18_ok (by decide +kernel)
-- PaperParcels$Row.checkSum()I
def nd_i38 : List (Nat × Instr × Nat) := [(0, .ldc 37, 2), (2, .istore_n 1, 1), (3, .iconst 0, 1), (4, .istore_n 2, 1), (5, .iload_n 2, 1), (6, .aload_n 0, 1), (7, .getfield 15, 3), (10, .if_icmp .ge 67, 3), (13, .iload_n 1, 1), (14, .aload_n 0, 1), (15, .getfield 9, 3), (18, .iload_n 2, 1), (19, .iaload, 1), (20, .bipush 8, 2), (22, .ishl, 1), (23, .ixor, 1), (24, .istore_n 1, 1), (25, .iconst 0, 1), (26, .istore_n 3, 1), (27, .iload_n 3, 1), (28, .bipush 8, 2), (30, .if_icmp .ge 41, 3), (33, .iload_n 1, 1), (34, .ldc 38, 2), (36, .iand, 1), (37, .ifCond .eq 7, 3), (40, .iconst 1, 1), (41, .goto 4, 3), (44, .iconst 0, 1), (45, .istore 4, 2), (47, .iload_n 1, 1), (48, .iconst 1, 1), (49, .ishl, 1), (50, .ldc 37, 2), (52, .iand, 1), (53, .istore_n 1, 1), (54, .iload 4, 2), (56, .ifCond .eq 9, 3), (59, .iload_n 1, 1), (60, .sipush 4129, 3), (63, .ixor, 1), (64, .istore_n 1, 1), (65, .iinc 3 1, 3), (68, .goto (-41), 3), (71, .iinc 2 1, 3), (74, .goto (-69), 3), (77, .iload_n 1, 1), (78, .ireturn, 1)]
theorem nd_i38_ok : am_ic prog_8_method_7_code nd_i38 = true := by decide +kernel
def nd_s38 : List nm_S := []
theorem nd_s38_ok : nd_s38.all (nm_schk nd_ct nd_ml "PaperParcels$Row") = true := by decide +kernel
theorem nd_ok38 : am_ok nm_Ts nm_Tn nd_cl nd_mt nd_fr nd_lo 38 (am_in nd_i38) (am_fl nd_f1) (am_ct nd_k1) (am_sl nd_ml nd_s38) := nm_ok (x := 38) (ini := false) rfl (by decide +kernel) nd_cok nd_i38_ok (by decide) nd_f1_ok nd_k1_ok nd_s38_ok (by decide +kernel)
-- PaperParcels$Row.putText(Ljava/lang/String;)V
def nd_i121 : List (Nat × Instr × Nat) := [(0, .iconst 0, 1), (1, .istore_n 2, 1), (2, .iload_n 2, 1), (3, .aload_n 1, 1), (4, .invokevirtual 23, 3), (7, .if_icmp .ge 18, 3), (10, .aload_n 0, 1), (11, .aload_n 1, 1), (12, .iload_n 2, 1), (13, .invokevirtual 29, 3), (16, .invokevirtual 33, 3), (19, .iinc 2 1, 3), (22, .goto (-20), 3), (25, .return_, 1)]
theorem nd_i121_ok : am_ic prog_8_method_4_code nd_i121 = true := by decide +kernel
def nd_s121 : List nm_S := [(33, 13, false, 1136)]
theorem nd_s121_ok : nd_s121.all (nm_schk nd_ct nd_ml "PaperParcels$Row") = true := by decide +kernel
theorem nd_ok121 : am_ok nm_Ts nm_Tn nd_cl nd_mt nd_fr nd_lo 121 (am_in nd_i121) (am_fl nd_f1) (am_ct nd_k1) (am_sl nd_ml nd_s121) := nm_ok (x := 121) (ini := false) rfl (by decide +kernel) nd_cok nd_i121_ok (by decide) nd_f1_ok nd_k1_ok nd_s121_ok (by decide +kernel)
-- PaperParcels$Row.putAll(LPaperParcels$Row;)V
def nd_i144 : List (Nat × Instr × Nat) := [(0, .iconst 0, 1), (1, .istore_n 2, 1), (2, .iload_n 2, 1), (3, .aload_n 1, 1), (4, .getfield 15, 3), (7, .if_icmp .ge 19, 3), (10, .aload_n 0, 1), (11, .aload_n 1, 1), (12, .getfield 9, 3), (15, .iload_n 2, 1), (16, .iaload, 1), (17, .invokevirtual 33, 3), (20, .iinc 2 1, 3), (23, .goto (-21), 3), (26, .return_, 1)]
theorem nd_i144_ok : am_ic prog_8_method_5_code nd_i144 = true := by decide +kernel
def nd_s144 : List nm_S := [(33, 13, false, 1136)]
theorem nd_s144_ok : nd_s144.all (nm_schk nd_ct nd_ml "PaperParcels$Row") = true := by decide +kernel
theorem nd_ok144 : am_ok nm_Ts nm_Tn nd_cl nd_mt nd_fr nd_lo 144 (am_in nd_i144) (am_fl nd_f1) (am_ct nd_k1) (am_sl nd_ml nd_s144) := nm_ok (x := 144) (ini := false) rfl (by decide +kernel) nd_cok nd_i144_ok (by decide) nd_f1_ok nd_k1_ok nd_s144_ok (by decide +kernel)

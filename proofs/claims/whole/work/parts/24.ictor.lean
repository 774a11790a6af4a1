-- PaperParcels.<init>()V
def nd_i0 : List (Nat × Instr × Nat) := [(0, .aload_n 0, 1), (1, .invokespecial 3, 3), (4, .aload_n 0, 1), (5, .new 9, 3), (8, .dup, 1), (9, .sipush 480, 3), (12, .invokespecial 11, 3), (15, .putfield 14, 3), (18, .aload_n 0, 1), (19, .iconst 3, 1), (20, .anewarray 18, 3), (23, .putfield 20, 3), (26, .aload_n 0, 1), (27, .getfield 20, 3), (30, .iconst 0, 1), (31, .new 18, 3), (34, .dup, 1), (35, .bipush 40, 2), (37, .sipush 300, 3), (40, .invokespecial 24, 3), (43, .aastore, 1), (44, .aload_n 0, 1), (45, .getfield 20, 3), (48, .iconst 1, 1), (49, .new 18, 3), (52, .dup, 1), (53, .bipush 40, 2), (55, .sipush 300, 3), (58, .invokespecial 24, 3), (61, .aastore, 1), (62, .aload_n 0, 1), (63, .getfield 20, 3), (66, .iconst 2, 1), (67, .new 18, 3), (70, .dup, 1), (71, .bipush 80, 2), (73, .sipush 600, 3), (76, .invokespecial 24, 3), (79, .aastore, 1), (80, .aload_n 0, 1), (81, .new 27, 3), (84, .dup, 1), (85, .invokespecial 29, 3), (88, .putfield 30, 3), (91, .aload_n 0, 1), (92, .new 34, 3), (95, .dup, 1), (96, .aload_n 0, 1), (97, .getfield 20, 3), (100, .iconst 0, 1), (101, .aaload, 1), (102, .aload_n 0, 1), (103, .getfield 20, 3), (106, .iconst 1, 1), (107, .aaload, 1), (108, .aload_n 0, 1), (109, .getfield 20, 3), (112, .iconst 2, 1), (113, .aaload, 1), (114, .invokespecial 36, 3), (117, .putfield 39, 3), (120, .aload_n 0, 1), (121, .new 43, 3), (124, .dup, 1), (125, .invokespecial 45, 3), (128, .putfield 46, 3), (131, .return_, 1)]
theorem nd_i0_ok : am_ic prog_1_method_1_code nd_i0 = true := by decide +kernel
def nd_s0 : List nm_S := [(11, 2, false, 152), (24, 3, false, 179), (29, 4, false, 228), (36, 9, false, 404), (45, 11, false, 486)]
theorem nd_s0_ok : nd_s0.all (nm_schk nd_ct nd_ml "PaperParcels") = true := by decide +kernel
theorem nd_ok0 : am_ok nm_Ts nm_Tn nd_cl nd_mt nd_fr nd_lo 0 (am_in nd_i0) (am_fl nd_fi0) (am_ct nd_k0) (am_sl nd_ml nd_s0) := nm_ok (x := 0) (ini := true) rfl (by decide +kernel) nd_cok nd_i0_ok (by exact fun _ => rfl) nd_fi0_ok nd_k0_ok nd_s0_ok (by decide +kernel)
def nd_n0 : List nm_N := [(9, 1, [.null, .int 0, .int 0], 150, 151, 117), (18, 2, [.null, .null, .null, .null, .null, .null, .int 0], 176, 178, 118), (27, 3, [.null, .int 0, .null, .null, .null, .null, .null, .null], 226, 227, 119), (34, 8, [.int 0, .int 0, .null, .null, .null, .null, .null, .null, .null, .null, .null, .null, .null, .int 0], 402, 403, 124), (43, 10, [.null, .null, .null, .null, .null, .int 0], 484, 485, 126)]
def nd_a0 : List (Nat × Nat) := [(18, 176)]
def nd_m0 : List (Nat × Nat) := []
def nd_o0 : List (Nat × Nat) := [(3, 147)]
theorem nd_okA0 : am_okA "PaperParcels" "PaperParcels$Paper" nm_Ts nm_Tn nd_cl (nd_fr 0) (nd_lo 0) (am_nl nd_n0) (am_pl nd_a0) (am_pl nd_m0) (am_pl nd_o0) := nd_okA (by decide +kernel) (by decide +kernel) (by decide +kernel) (by decide +kernel) (by decide +kernel) (by decide +kernel)
-- PaperParcels$Row.<init>(I)V
def nd_i2 : List (Nat × Instr × Nat) := [(0, .aload_n 0, 1), (1, .invokespecial 3, 3), (4, .aload_n 0, 1), (5, .iload_n 1, 1), (6, .newarray .int, 2), (8, .putfield 9, 3), (11, .return_, 1)]
theorem nd_i2_ok : am_ic prog_8_method_1_code nd_i2 = true := by decide +kernel
def nd_s2 : List nm_S := []
theorem nd_s2_ok : nd_s2.all (nm_schk nd_ct nd_ml "PaperParcels$Row") = true := by decide +kernel
theorem nd_ok2 : am_ok nm_Ts nm_Tn nd_cl nd_mt nd_fr nd_lo 2 (am_in nd_i2) (am_fl nd_fi1) (am_ct nd_k1) (am_sl nd_ml nd_s2) := nm_ok (x := 2) (ini := true) rfl (by decide +kernel) nd_cok nd_i2_ok (by exact fun _ => rfl) nd_fi1_ok nd_k1_ok nd_s2_ok (by decide +kernel)
def nd_n2 : List nm_N := []
def nd_a2 : List (Nat × Nat) := []
def nd_m2 : List (Nat × Nat) := []
def nd_o2 : List (Nat × Nat) := [(3, 155)]
theorem nd_okA2 : am_okA "PaperParcels$Row" "PaperParcels$Paper" nm_Ts nm_Tn nd_cl (nd_fr 2) (nd_lo 2) (am_nl nd_n2) (am_pl nd_a2) (am_pl nd_m2) (am_pl nd_o2) := nd_okA (by decide +kernel) (by decide +kernel) (by decide +kernel) (by decide +kernel) (by decide +kernel) (by decide +kernel)
-- PaperParcels$Paper.<init>(II)V
def nd_i3 : List (Nat × Instr × Nat) := [(0, .aload_n 0, 1), (1, .invokespecial 3, 3), (4, .aload_n 0, 1), (5, .iload_n 1, 1), (6, .newarray .int, 2), (8, .putfield 9, 3), (11, .aload_n 0, 1), (12, .iload_n 1, 1), (13, .newarray .int, 2), (15, .putfield 15, 3), (18, .aload_n 0, 1), (19, .iload_n 1, 1), (20, .newarray .int, 2), (22, .putfield 18, 3), (25, .aload_n 0, 1), (26, .iload_n 1, 1), (27, .newarray .int, 2), (29, .putfield 21, 3), (32, .aload_n 0, 1), (33, .iload_n 1, 1), (34, .newarray .int, 2), (36, .putfield 24, 3), (39, .aload_n 0, 1), (40, .new 27, 3), (43, .dup, 1), (44, .iload_n 2, 1), (45, .invokespecial 29, 3), (48, .putfield 32, 3), (51, .return_, 1)]
theorem nd_i3_ok : am_ic prog_5_method_1_code nd_i3 = true := by decide +kernel
def nd_s3 : List nm_S := [(29, 2, false, 184)]
theorem nd_s3_ok : nd_s3.all (nm_schk nd_ct nd_ml "PaperParcels$Paper") = true := by decide +kernel
theorem nd_ok3 : am_ok nm_Ts nm_Tn nd_cl nd_mt nd_fr nd_lo 3 (am_in nd_i3) (am_fl nd_fi2) (am_ct nd_k2) (am_sl nd_ml nd_s3) := nm_ok (x := 3) (ini := true) rfl (by decide +kernel) nd_cok nd_i3_ok (by exact fun _ => rfl) nd_fi2_ok nd_k2_ok nd_s3_ok (by decide +kernel)
def nd_n3 : List nm_N := [(27, 1, [.null, .int 0, .int 0], 183, 151, 117)]
def nd_a3 : List (Nat × Nat) := []
def nd_m3 : List (Nat × Nat) := []
def nd_o3 : List (Nat × Nat) := [(3, 182)]
theorem nd_okA3 : am_okA "PaperParcels$Paper" "PaperParcels$Paper" nm_Ts nm_Tn nd_cl (nd_fr 3) (nd_lo 3) (am_nl nd_n3) (am_pl nd_a3) (am_pl nd_m3) (am_pl nd_o3) := nd_okA (by decide +kernel) (by decide +kernel) (by decide +kernel) (by decide +kernel) (by decide +kernel) (by decide +kernel)
-- PaperParcels$Reader.<init>()V
def nd_i4 : List (Nat × Instr × Nat) := [(0, .aload_n 0, 1), (1, .invokespecial 3, 3), (4, .aload_n 0, 1), (5, .new 9, 3), (8, .dup, 1), (9, .bipush 40, 2), (11, .sipush 300, 3), (14, .invokespecial 11, 3), (17, .putfield 14, 3), (20, .aload_n 0, 1), (21, .iconst (-1), 1), (22, .putfield 20, 3), (25, .aload_n 0, 1), (26, .new 24, 3), (29, .dup, 1), (30, .bipush 83, 2), (32, .invokespecial 26, 3), (35, .putfield 29, 3), (38, .aload_n 0, 1), (39, .new 24, 3), (42, .dup, 1), (43, .bipush 67, 2), (45, .invokespecial 26, 3), (48, .putfield 33, 3), (51, .aload_n 0, 1), (52, .new 36, 3), (55, .dup, 1), (56, .aload_n 0, 1), (57, .getfield 29, 3), (60, .getfield 38, 3), (63, .invokespecial 42, 3), (66, .putfield 45, 3), (69, .aload_n 0, 1), (70, .new 36, 3), (73, .dup, 1), (74, .aload_n 0, 1), (75, .getfield 33, 3), (78, .getfield 38, 3), (81, .invokespecial 42, 3), (84, .putfield 49, 3), (87, .aload_n 0, 1), (88, .new 52, 3), (91, .dup, 1), (92, .aload_n 0, 1), (93, .getfield 45, 3), (96, .aload_n 0, 1), (97, .getfield 49, 3), (100, .invokespecial 54, 3), (103, .putfield 57, 3), (106, .aload_n 0, 1), (107, .new 61, 3), (110, .dup, 1), (111, .aload_n 0, 1), (112, .getfield 49, 3), (115, .aload_n 0, 1), (116, .getfield 57, 3), (119, .aload_n 0, 1), (120, .getfield 14, 3), (123, .invokespecial 63, 3), (126, .putfield 66, 3), (129, .return_, 1)]
theorem nd_i4_ok : am_ic prog_7_method_1_code nd_i4 = true := by decide +kernel
def nd_s4 : List nm_S := [(11, 3, false, 233), (26, 5, false, 236), (42, 6, false, 261), (54, 7, false, 327), (63, 8, false, 352)]
theorem nd_s4_ok : nd_s4.all (nm_schk nd_ct nd_ml "PaperParcels$Reader") = true := by decide +kernel
theorem nd_ok4 : am_ok nm_Ts nm_Tn nd_cl nd_mt nd_fr nd_lo 4 (am_in nd_i4) (am_fl nd_fi3) (am_ct nd_k3) (am_sl nd_ml nd_s4) := nm_ok (x := 4) (ini := true) rfl (by decide +kernel) nd_cok nd_i4_ok (by exact fun _ => rfl) nd_fi3_ok nd_k3_ok nd_s4_ok (by decide +kernel)
def nd_n4 : List nm_N := [(9, 2, [.null, .null, .null, .null, .null, .null, .int 0], 232, 178, 118), (24, 4, [.int 0, .null, .int 0, .int 0, .int 0], 234, 235, 120), (36, 5, [.null, .null, .null, .null, .null, .null, .int 0, .null, .null, .int 0, .null, .int 0, .int 0, .int 0], 259, 260, 121), (52, 6, [.null, .null, .null, .null, .null, .null], 325, 326, 122), (61, 7, [.null, .null, .null, .null, .null, .int 0], 350, 351, 123)]
def nd_a4 : List (Nat × Nat) := []
def nd_m4 : List (Nat × Nat) := []
def nd_o4 : List (Nat × Nat) := [(3, 231)]
theorem nd_okA4 : am_okA "PaperParcels$Reader" "PaperParcels$Paper" nm_Ts nm_Tn nd_cl (nd_fr 4) (nd_lo 4) (am_nl nd_n4) (am_pl nd_a4) (am_pl nd_m4) (am_pl nd_o4) := nd_okA (by decide +kernel) (by decide +kernel) (by decide +kernel) (by decide +kernel) (by decide +kernel) (by decide +kernel)
-- PaperParcels$Part.<init>(I)V
def nd_i5 : List (Nat × Instr × Nat) := [(0, .aload_n 0, 1), (1, .invokespecial 3, 3), (4, .aload_n 0, 1), (5, .iload_n 1, 1), (6, .putfield 9, 3), (9, .aload_n 0, 1), (10, .new 15, 3), (13, .dup, 1), (14, .sipush 300, 3), (17, .invokespecial 17, 3), (20, .putfield 20, 3), (23, .return_, 1)]
theorem nd_i5_ok : am_ic prog_6_method_1_code nd_i5 = true := by decide +kernel
def nd_s5 : List nm_S := [(17, 2, false, 241)]
theorem nd_s5_ok : nd_s5.all (nm_schk nd_ct nd_ml "PaperParcels$Part") = true := by decide +kernel
theorem nd_ok5 : am_ok nm_Ts nm_Tn nd_cl nd_mt nd_fr nd_lo 5 (am_in nd_i5) (am_fl nd_fi4) (am_ct nd_k4) (am_sl nd_ml nd_s5) := nm_ok (x := 5) (ini := true) rfl (by decide +kernel) nd_cok nd_i5_ok (by exact fun _ => rfl) nd_fi4_ok nd_k4_ok nd_s5_ok (by decide +kernel)
def nd_n5 : List nm_N := [(15, 1, [.null, .int 0, .int 0], 240, 151, 117)]
def nd_a5 : List (Nat × Nat) := []
def nd_m5 : List (Nat × Nat) := []
def nd_o5 : List (Nat × Nat) := [(3, 239)]
theorem nd_okA5 : am_okA "PaperParcels$Part" "PaperParcels$Paper" nm_Ts nm_Tn nd_cl (nd_fr 5) (nd_lo 5) (am_nl nd_n5) (am_pl nd_a5) (am_pl nd_m5) (am_pl nd_o5) := nd_okA (by decide +kernel) (by decide +kernel) (by decide +kernel) (by decide +kernel) (by decide +kernel) (by decide +kernel)
-- PaperParcels$Elements.<init>(LPaperParcels$Row;)V
def nd_i6 : List (Nat × Instr × Nat) := [(0, .aload_n 0, 1), (1, .invokespecial 3, 3), (4, .aload_n 0, 1), (5, .aload_n 1, 1), (6, .putfield 9, 3), (9, .aload_n 0, 1), (10, .bipush 30, 2), (12, .newarray .int, 2), (14, .putfield 15, 3), (17, .aload_n 0, 1), (18, .bipush 30, 2), (20, .newarray .int, 2), (22, .putfield 19, 3), (25, .aload_n 0, 1), (26, .bipush 30, 2), (28, .newarray .int, 2), (30, .putfield 22, 3), (33, .aload_n 0, 1), (34, .bipush 30, 2), (36, .newarray .int, 2), (38, .putfield 25, 3), (41, .aload_n 0, 1), (42, .bipush 30, 2), (44, .newarray .int, 2), (46, .putfield 28, 3), (49, .aload_n 0, 1), (50, .bipush 60, 2), (52, .newarray .int, 2), (54, .putfield 31, 3), (57, .aload_n 0, 1), (58, .bipush 60, 2), (60, .newarray .int, 2), (62, .putfield 34, 3), (65, .aload_n 0, 1), (66, .sipush 300, 3), (69, .newarray .int, 2), (71, .putfield 37, 3), (74, .return_, 1)]
theorem nd_i6_ok : am_ic prog_3_method_1_code nd_i6 = true := by decide +kernel
def nd_s6 : List nm_S := []
theorem nd_s6_ok : nd_s6.all (nm_schk nd_ct nd_ml "PaperParcels$Elements") = true := by decide +kernel
theorem nd_ok6 : am_ok nm_Ts nm_Tn nd_cl nd_mt nd_fr nd_lo 6 (am_in nd_i6) (am_fl nd_fi5) (am_ct nd_k5) (am_sl nd_ml nd_s6) := nm_ok (x := 6) (ini := true) rfl (by decide +kernel) nd_cok nd_i6_ok (by exact fun _ => rfl) nd_fi5_ok nd_k5_ok nd_s6_ok (by decide +kernel)
def nd_n6 : List nm_N := []
def nd_a6 : List (Nat × Nat) := []
def nd_m6 : List (Nat × Nat) := []
def nd_o6 : List (Nat × Nat) := [(3, 264)]
theorem nd_okA6 : am_okA "PaperParcels$Elements" "PaperParcels$Paper" nm_Ts nm_Tn nd_cl (nd_fr 6) (nd_lo 6) (am_nl nd_n6) (am_pl nd_a6) (am_pl nd_m6) (am_pl nd_o6) := nd_okA (by decide +kernel) (by decide +kernel) (by decide +kernel) (by decide +kernel) (by decide +kernel) (by decide +kernel)
-- PaperParcels$Styles.<init>(LPaperParcels$Elements;LPaperParcels$Elements;)V
def nd_i7 : List (Nat × Instr × Nat) := [(0, .aload_n 0, 1), (1, .invokespecial 3, 3), (4, .aload_n 0, 1), (5, .aload_n 1, 1), (6, .putfield 9, 3), (9, .aload_n 0, 1), (10, .aload_n 2, 1), (11, .putfield 15, 3), (14, .aload_n 0, 1), (15, .bipush 26, 2), (17, .newarray .int, 2), (19, .putfield 18, 3), (22, .aload_n 0, 1), (23, .bipush 26, 2), (25, .newarray .int, 2), (27, .putfield 22, 3), (30, .aload_n 0, 1), (31, .bipush 26, 2), (33, .newarray .int, 2), (35, .putfield 25, 3), (38, .aload_n 0, 1), (39, .bipush 26, 2), (41, .newarray .int, 2), (43, .putfield 28, 3), (46, .return_, 1)]
theorem nd_i7_ok : am_ic prog_11_method_1_code nd_i7 = true := by decide +kernel
def nd_s7 : List nm_S := []
theorem nd_s7_ok : nd_s7.all (nm_schk nd_ct nd_ml "PaperParcels$Styles") = true := by decide +kernel
theorem nd_ok7 : am_ok nm_Ts nm_Tn nd_cl nd_mt nd_fr nd_lo 7 (am_in nd_i7) (am_fl nd_fi6) (am_ct nd_k6) (am_sl nd_ml nd_s7) := nm_ok (x := 7) (ini := true) rfl (by decide +kernel) nd_cok nd_i7_ok (by exact fun _ => rfl) nd_fi6_ok nd_k6_ok nd_s7_ok (by decide +kernel)
def nd_n7 : List nm_N := []
def nd_a7 : List (Nat × Nat) := []
def nd_m7 : List (Nat × Nat) := []
def nd_o7 : List (Nat × Nat) := [(3, 330)]
theorem nd_okA7 : am_okA "PaperParcels$Styles" "PaperParcels$Paper" nm_Ts nm_Tn nd_cl (nd_fr 7) (nd_lo 7) (am_nl nd_n7) (am_pl nd_a7) (am_pl nd_m7) (am_pl nd_o7) := nd_okA (by decide +kernel) (by decide +kernel) (by decide +kernel) (by decide +kernel) (by decide +kernel) (by decide +kernel)
-- PaperParcels$Builder.<init>(LPaperParcels$Elements;LPaperParcels$Styles;LPaperParcels$Paper;)V
def nd_i8 : List (Nat × Instr × Nat) := [(0, .aload_n 0, 1), (1, .invokespecial 3, 3), (4, .aload_n 0, 1), (5, .aload_n 1, 1), (6, .putfield 9, 3), (9, .aload_n 0, 1), (10, .aload_n 2, 1), (11, .putfield 15, 3), (14, .aload_n 0, 1), (15, .aload_n 3, 1), (16, .putfield 19, 3), (19, .aload_n 0, 1), (20, .bipush 30, 2), (22, .newarray .int, 2), (24, .putfield 23, 3), (27, .aload_n 0, 1), (28, .bipush 30, 2), (30, .newarray .int, 2), (32, .putfield 27, 3), (35, .return_, 1)]
theorem nd_i8_ok : am_ic prog_2_method_1_code nd_i8 = true := by decide +kernel
def nd_s8 : List nm_S := []
theorem nd_s8_ok : nd_s8.all (nm_schk nd_ct nd_ml "PaperParcels$Builder") = true := by decide +kernel
theorem nd_ok8 : am_ok nm_Ts nm_Tn nd_cl nd_mt nd_fr nd_lo 8 (am_in nd_i8) (am_fl nd_fi7) (am_ct nd_k7) (am_sl nd_ml nd_s8) := nm_ok (x := 8) (ini := true) rfl (by decide +kernel) nd_cok nd_i8_ok (by exact fun _ => rfl) nd_fi7_ok nd_k7_ok nd_s8_ok (by decide +kernel)
def nd_n8 : List nm_N := []
def nd_a8 : List (Nat × Nat) := []
def nd_m8 : List (Nat × Nat) := []
def nd_o8 : List (Nat × Nat) := [(3, 355)]
theorem nd_okA8 : am_okA "PaperParcels$Builder" "PaperParcels$Paper" nm_Ts nm_Tn nd_cl (nd_fr 8) (nd_lo 8) (am_nl nd_n8) (am_pl nd_a8) (am_pl nd_m8) (am_pl nd_o8) := nd_okA (by decide +kernel) (by decide +kernel) (by decide +kernel) (by decide +kernel) (by decide +kernel) (by decide +kernel)
-- PaperParcels$Script.<init>(LPaperParcels$Paper;LPaperParcels$Paper;LPaperParcels$Paper;)V
def nd_i9 : List (Nat × Instr × Nat) := [(0, .aload_n 0, 1), (1, .invokespecial 3, 3), (4, .aload_n 0, 1), (5, .new 9, 3), (8, .dup, 1), (9, .aload_n 1, 1), (10, .invokespecial 11, 3), (13, .putfield 14, 3), (16, .aload_n 0, 1), (17, .new 9, 3), (20, .dup, 1), (21, .aload_n 2, 1), (22, .invokespecial 11, 3), (25, .putfield 20, 3), (28, .aload_n 0, 1), (29, .aload_n 3, 1), (30, .putfield 23, 3), (33, .aload_n 0, 1), (34, .bipush 80, 2), (36, .newarray .int, 2), (38, .putfield 27, 3), (41, .aload_n 0, 1), (42, .bipush 80, 2), (44, .newarray .int, 2), (46, .putfield 31, 3), (49, .aload_n 0, 1), (50, .bipush 80, 2), (52, .newarray .int, 2), (54, .putfield 34, 3), (57, .aload_n 0, 1), (58, .bipush 80, 2), (60, .newarray .int, 2), (62, .putfield 37, 3), (65, .aload_n 0, 1), (66, .bipush 40, 2), (68, .bipush 40, 2), (70, .multianewarray 40 2, 4), (74, .putfield 42, 3), (77, .aload_n 0, 1), (78, .bipush 41, 2), (80, .bipush 41, 2), (82, .multianewarray 40 2, 4), (86, .putfield 45, 3), (89, .aload_n 0, 1), (90, .bipush 40, 2), (92, .newarray .int, 2), (94, .putfield 48, 3), (97, .aload_n 0, 1), (98, .bipush 40, 2), (100, .newarray .int, 2), (102, .putfield 51, 3), (105, .return_, 1)]
theorem nd_i9_ok : am_ic prog_10_method_1_code nd_i9 = true := by decide +kernel
def nd_s9 : List nm_S := [(11, 10, false, 410)]
theorem nd_s9_ok : nd_s9.all (nm_schk nd_ct nd_ml "PaperParcels$Script") = true := by decide +kernel
theorem nd_ok9 : am_ok nm_Ts nm_Tn nd_cl nd_mt nd_fr nd_lo 9 (am_in nd_i9) (am_fl nd_fi8) (am_ct nd_k8) (am_sl nd_ml nd_s9) := nm_ok (x := 9) (ini := true) rfl (by decide +kernel) nd_cok nd_i9_ok (by exact fun _ => rfl) nd_fi8_ok nd_k8_ok nd_s9_ok (by decide +kernel)
def nd_n9 : List nm_N := [(9, 9, [.null, .null, .null, .null, .null], 408, 409, 125)]
def nd_a9 : List (Nat × Nat) := []
def nd_m9 : List (Nat × Nat) := [(40, 435)]
def nd_o9 : List (Nat × Nat) := [(3, 407)]
theorem nd_okA9 : am_okA "PaperParcels$Script" "PaperParcels$Paper" nm_Ts nm_Tn nd_cl (nd_fr 9) (nd_lo 9) (am_nl nd_n9) (am_pl nd_a9) (am_pl nd_m9) (am_pl nd_o9) := nd_okA (by decide +kernel) (by decide +kernel) (by decide +kernel) (by decide +kernel) (by decide +kernel) (by decide +kernel)
-- PaperParcels$Tree.<init>(LPaperParcels$Paper;)V
def nd_i10 : List (Nat × Instr × Nat) := [(0, .aload_n 0, 1), (1, .invokespecial 3, 3), (4, .aload_n 0, 1), (5, .aload_n 1, 1), (6, .putfield 9, 3), (9, .aload_n 0, 1), (10, .bipush 40, 2), (12, .newarray .int, 2), (14, .putfield 15, 3), (17, .aload_n 0, 1), (18, .bipush 40, 2), (20, .newarray .int, 2), (22, .putfield 19, 3), (25, .aload_n 0, 1), (26, .bipush 40, 2), (28, .newarray .int, 2), (30, .putfield 22, 3), (33, .aload_n 0, 1), (34, .bipush 41, 2), (36, .newarray .int, 2), (38, .putfield 25, 3), (41, .return_, 1)]
theorem nd_i10_ok : am_ic prog_12_method_1_code nd_i10 = true := by decide +kernel
def nd_s10 : List nm_S := []
theorem nd_s10_ok : nd_s10.all (nm_schk nd_ct nd_ml "PaperParcels$Tree") = true := by decide +kernel
theorem nd_ok10 : am_ok nm_Ts nm_Tn nd_cl nd_mt nd_fr nd_lo 10 (am_in nd_i10) (am_fl nd_fi9) (am_ct nd_k9) (am_sl nd_ml nd_s10) := nm_ok (x := 10) (ini := true) rfl (by decide +kernel) nd_cok nd_i10_ok (by exact fun _ => rfl) nd_fi9_ok nd_k9_ok nd_s10_ok (by decide +kernel)
def nd_n10 : List nm_N := []
def nd_a10 : List (Nat × Nat) := []
def nd_m10 : List (Nat × Nat) := []
def nd_o10 : List (Nat × Nat) := [(3, 413)]
theorem nd_okA10 : am_okA "PaperParcels$Tree" "PaperParcels$Paper" nm_Ts nm_Tn nd_cl (nd_fr 10) (nd_lo 10) (am_nl nd_n10) (am_pl nd_a10) (am_pl nd_m10) (am_pl nd_o10) := nd_okA (by decide +kernel) (by decide +kernel) (by decide +kernel) (by decide +kernel) (by decide +kernel) (by decide +kernel)
-- PaperParcels$Emitter.<init>()V
def nd_i11 : List (Nat × Instr × Nat) := [(0, .aload_n 0, 1), (1, .invokespecial 3, 3), (4, .aload_n 0, 1), (5, .new 9, 3), (8, .dup, 1), (9, .sipush 480, 3), (12, .invokespecial 11, 3), (15, .putfield 14, 3), (18, .aload_n 0, 1), (19, .new 9, 3), (22, .dup, 1), (23, .sipush 300, 3), (26, .invokespecial 11, 3), (29, .putfield 20, 3), (32, .aload_n 0, 1), (33, .new 9, 3), (36, .dup, 1), (37, .sipush 300, 3), (40, .invokespecial 11, 3), (43, .putfield 23, 3), (46, .aload_n 0, 1), (47, .new 9, 3), (50, .dup, 1), (51, .sipush 300, 3), (54, .invokespecial 11, 3), (57, .putfield 26, 3), (60, .aload_n 0, 1), (61, .bipush 26, 2), (63, .newarray .int, 2), (65, .putfield 29, 3), (68, .return_, 1)]
theorem nd_i11_ok : am_ic prog_4_method_1_code nd_i11 = true := by decide +kernel
def nd_s11 : List nm_S := [(11, 2, false, 491)]
theorem nd_s11_ok : nd_s11.all (nm_schk nd_ct nd_ml "PaperParcels$Emitter") = true := by decide +kernel
theorem nd_ok11 : am_ok nm_Ts nm_Tn nd_cl nd_mt nd_fr nd_lo 11 (am_in nd_i11) (am_fl nd_fi10) (am_ct nd_k10) (am_sl nd_ml nd_s11) := nm_ok (x := 11) (ini := true) rfl (by decide +kernel) nd_cok nd_i11_ok (by exact fun _ => rfl) nd_fi10_ok nd_k10_ok nd_s11_ok (by decide +kernel)
def nd_n11 : List nm_N := [(9, 1, [.null, .int 0, .int 0], 490, 151, 117)]
def nd_a11 : List (Nat × Nat) := []
def nd_m11 : List (Nat × Nat) := []
def nd_o11 : List (Nat × Nat) := [(3, 489)]
theorem nd_okA11 : am_okA "PaperParcels$Emitter" "PaperParcels$Paper" nm_Ts nm_Tn nd_cl (nd_fr 11) (nd_lo 11) (am_nl nd_n11) (am_pl nd_a11) (am_pl nd_m11) (am_pl nd_o11) := nd_okA (by decide +kernel) (by decide +kernel) (by decide +kernel) (by decide +kernel) (by decide +kernel) (by decide +kernel)
-- PaperParcelsModel.<init>()V
def nd_i146 : List (Nat × Instr × Nat) := [(0, .aload_n 0, 1), (1, .invokespecial 1, 3), (4, .aload_n 0, 1), (5, .sipush 480, 3), (8, .newarray .int, 2), (10, .putfield 7, 3), (13, .aload_n 0, 1), (14, .iconst (-1), 1), (15, .putfield 13, 3), (18, .aload_n 0, 1), (19, .iconst 2, 1), (20, .newarray .int, 2), (22, .putfield 17, 3), (25, .aload_n 0, 1), (26, .iconst 2, 1), (27, .newarray .int, 2), (29, .putfield 20, 3), (32, .aload_n 0, 1), (33, .iconst 2, 1), (34, .newarray .int, 2), (36, .putfield 23, 3), (39, .aload_n 0, 1), (40, .sipush 600, 3), (43, .newarray .int, 2), (45, .putfield 26, 3), (48, .aload_n 0, 1), (49, .iconst 2, 1), (50, .newarray .int, 2), (52, .putfield 29, 3), (55, .aload_n 0, 1), (56, .iconst 2, 1), (57, .newarray .int, 2), (59, .putfield 32, 3), (62, .aload_n 0, 1), (63, .bipush 60, 2), (65, .newarray .int, 2), (67, .putfield 35, 3), (70, .aload_n 0, 1), (71, .bipush 60, 2), (73, .newarray .int, 2), (75, .putfield 38, 3), (78, .aload_n 0, 1), (79, .bipush 60, 2), (81, .newarray .int, 2), (83, .putfield 41, 3), (86, .aload_n 0, 1), (87, .sipush 600, 3), (90, .newarray .int, 2), (92, .putfield 44, 3), (95, .aload_n 0, 1), (96, .bipush 8, 2), (98, .newarray .int, 2), (100, .putfield 47, 3), (103, .aload_n 0, 1), (104, .bipush 26, 2), (106, .newarray .boolean, 2), (108, .putfield 50, 3), (111, .aload_n 0, 1), (112, .bipush 26, 2), (114, .newarray .int, 2), (116, .putfield 54, 3), (119, .aload_n 0, 1), (120, .bipush 78, 2), (122, .newarray .int, 2), (124, .putfield 57, 3), (127, .aload_n 0, 1), (128, .iconst 4, 1), (129, .newarray .int, 2), (131, .putfield 60, 3), (134, .aload_n 0, 1), (135, .sipush 400, 3), (138, .newarray .int, 2), (140, .putfield 63, 3), (143, .aload_n 0, 1), (144, .sipush 400, 3), (147, .newarray .int, 2), (149, .putfield 66, 3), (152, .aload_n 0, 1), (153, .sipush 1200, 3), (156, .newarray .int, 2), (158, .putfield 69, 3), (161, .aload_n 0, 1), (162, .sipush 400, 3), (165, .newarray .int, 2), (167, .putfield 72, 3), (170, .aload_n 0, 1), (171, .sipush 400, 3), (174, .newarray .int, 2), (176, .putfield 75, 3), (179, .aload_n 0, 1), (180, .iconst 4, 1), (181, .newarray .int, 2), (183, .putfield 78, 3), (186, .aload_n 0, 1), (187, .sipush 2800, 3), (190, .newarray .int, 2), (192, .putfield 81, 3), (195, .aload_n 0, 1), (196, .bipush 30, 2), (198, .newarray .int, 2), (200, .putfield 84, 3), (203, .aload_n 0, 1), (204, .bipush 120, 2), (206, .newarray .int, 2), (208, .putfield 87, 3), (211, .aload_n 0, 1), (212, .bipush 120, 2), (214, .newarray .int, 2), (216, .putfield 90, 3), (219, .aload_n 0, 1), (220, .bipush 120, 2), (222, .newarray .int, 2), (224, .putfield 93, 3), (227, .aload_n 0, 1), (228, .bipush 120, 2), (230, .newarray .int, 2), (232, .putfield 96, 3), (235, .aload_n 0, 1), (236, .sipush 200, 3), (239, .newarray .int, 2), (241, .putfield 99, 3), (244, .aload_n 0, 1), (245, .sipush 1600, 3), (248, .newarray .int, 2), (250, .putfield 102, 3), (253, .aload_n 0, 1), (254, .bipush 40, 2), (256, .newarray .int, 2), (258, .putfield 105, 3), (261, .aload_n 0, 1), (262, .bipush 40, 2), (264, .newarray .int, 2), (266, .putfield 108, 3), (269, .aload_n 0, 1), (270, .sipush 1681, 3), (273, .newarray .int, 2), (275, .putfield 111, 3), (278, .aload_n 0, 1), (279, .bipush 16, 2), (281, .newarray .int, 2), (283, .putfield 114, 3), (286, .aload_n 0, 1), (287, .bipush 16, 2), (289, .newarray .int, 2), (291, .putfield 117, 3), (294, .aload_n 0, 1), (295, .bipush 16, 2), (297, .newarray .int, 2), (299, .putfield 120, 3), (302, .aload_n 0, 1), (303, .bipush 16, 2), (305, .newarray .int, 2), (307, .putfield 123, 3), (310, .aload_n 0, 1), (311, .bipush 40, 2), (313, .newarray .boolean, 2), (315, .putfield 126, 3), (318, .aload_n 0, 1), (319, .bipush 40, 2), (321, .newarray .int, 2), (323, .putfield 129, 3), (326, .aload_n 0, 1), (327, .bipush 40, 2), (329, .newarray .int, 2), (331, .putfield 132, 3), (334, .aload_n 0, 1), (335, .sipush 4800, 3), (338, .newarray .int, 2), (340, .putfield 135, 3), (343, .aload_n 0, 1), (344, .iconst 2, 1), (345, .newarray .int, 2), (347, .putfield 138, 3), (350, .aload_n 0, 1), (351, .sipush 600, 3), (354, .newarray .int, 2), (356, .putfield 141, 3), (359, .aload_n 0, 1), (360, .iconst 2, 1), (361, .newarray .int, 2), (363, .putfield 144, 3), (366, .aload_n 0, 1), (367, .sipush 240, 3), (370, .newarray .int, 2), (372, .putfield 147, 3), (375, .return_, 1)]
theorem nd_i146_ok : am_ic prog_14_method_1_code nd_i146 = true := by decide +kernel
def nd_s146 : List nm_S := []
theorem nd_s146_ok : nd_s146.all (nm_schk nd_ct nd_ml "PaperParcelsModel") = true := by decide +kernel
theorem nd_ok146 : am_ok nm_Ts nm_Tn nd_cl nd_mt nd_fr nd_lo 146 (am_in nd_i146) (am_fl nd_fi11) (am_ct nd_k11) (am_sl nd_ml nd_s146) := nm_ok (x := 146) (ini := true) rfl (by decide +kernel) nd_cok nd_i146_ok (by exact fun _ => rfl) nd_fi11_ok nd_k11_ok nd_s146_ok (by decide +kernel)
def nd_n146 : List nm_N := []
def nd_a146 : List (Nat × Nat) := []
def nd_m146 : List (Nat × Nat) := []
def nd_o146 : List (Nat × Nat) := [(1, 1222)]
theorem nd_okA146 : am_okA "PaperParcelsModel" "PaperParcels$Paper" nm_Ts nm_Tn nd_cl (nd_fr 146) (nd_lo 146) (am_nl nd_n146) (am_pl nd_a146) (am_pl nd_m146) (am_pl nd_o146) := nd_okA (by decide +kernel) (by decide +kernel) (by decide +kernel) (by decide +kernel) (by decide +kernel) (by decide +kernel)

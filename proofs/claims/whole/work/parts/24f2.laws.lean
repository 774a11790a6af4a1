/-! The law's own calls and things made (printed by wip/gen/law.py). -/
def lx_s0 : List nm_S := [(55, 0, false, 144), (58, 146, false, 1219), (61, 12, false, 528), (65, 148, false, 1400)]
theorem lx_s0_ok : lx_s0.all (nm_schk nd_ct nd_ml "PaperParcelsLaw") = true := by decide +kernel
def lx_s1 : List nm_S := [(66, 14, false, 536), (69, 149, false, 1405), (70, 16, false, 544), (73, 150, false, 1409)]
theorem lx_s1_ok : lx_s1.all (nm_schk nd_ct nd_ml "PaperParcelsLaw") = true := by decide +kernel
def lx_s2 : List nm_S := [(74, 17, false, 548), (77, 151, false, 1413), (83, 152, false, 1417), (84, 147, false, 1396)]
theorem lx_s2_ok : lx_s2.all (nm_schk nd_ct nd_ml "PaperParcelsLaw") = true := by decide +kernel
def lx_s3 : List nm_S := [(87, 19, false, 556), (90, 200, false, 1605), (93, 201, false, 1609), (97, 203, false, 1616)]
theorem lx_s3_ok : lx_s3.all (nm_schk nd_ct nd_ml "PaperParcelsLaw") = true := by decide +kernel
def lx_s4 : List nm_S := [(100, 205, false, 1624), (104, 206, false, 1628), (107, 208, false, 1636), (110, 209, false, 1640)]
theorem lx_s4_ok : lx_s4.all (nm_schk nd_ct nd_ml "PaperParcelsLaw") = true := by decide +kernel
def lx_s5 : List nm_S := [(114, 210, false, 1644), (115, 20, false, 560), (118, 220, false, 1685), (122, 221, false, 1689)]
theorem lx_s5_ok : lx_s5.all (nm_schk nd_ct nd_ml "PaperParcelsLaw") = true := by decide +kernel
def lx_s6 : List nm_S := [(125, 222, false, 1693), (128, 227, false, 1713)]
theorem lx_s6_ok : lx_s6.all (nm_schk nd_ct nd_ml "PaperParcelsLaw") = true := by decide +kernel
def lx_s : List nm_S := [(55, 0, false, 144), (58, 146, false, 1219), (61, 12, false, 528), (65, 148, false, 1400), (66, 14, false, 536), (69, 149, false, 1405), (70, 16, false, 544), (73, 150, false, 1409), (74, 17, false, 548), (77, 151, false, 1413), (83, 152, false, 1417), (84, 147, false, 1396), (87, 19, false, 556), (90, 200, false, 1605), (93, 201, false, 1609), (97, 203, false, 1616), (100, 205, false, 1624), (104, 206, false, 1628), (107, 208, false, 1636), (110, 209, false, 1640), (114, 210, false, 1644), (115, 20, false, 560), (118, 220, false, 1685), (122, 221, false, 1689), (125, 222, false, 1693), (128, 227, false, 1713)]
theorem lx_s_ok : lx_s.all (nm_schk nd_ct nd_ml "PaperParcelsLaw") = true := by
  have e : lx_s = lx_s0 ++ (lx_s1 ++ (lx_s2 ++ (lx_s3 ++ (lx_s4 ++ (lx_s5 ++ (lx_s6)))))) := rfl
  rw [e]
  simp only [List.all_append, lx_s0_ok, lx_s1_ok, lx_s2_ok, lx_s3_ok, lx_s4_ok, lx_s5_ok, lx_s6_ok, Bool.and_self]
theorem lx_s_rm : lx_s.all (fun z => decide (nd_fr z.2.1 + 1 ≤ 14 ∧ 8 + ((nd_mt z.2.1).2.2.1 + 11) + nd_lo z.2.1 ≤ 534)) = true := by decide +kernel
def lx_n : List nm_N := [(8, 0, [.null, .null, .null, .null, .null], 142, 143, 116), (56, 11, [.int 0, .null, .int 0, .int 0, .null, .null, .null, .null, .null, .null, .null, .null, .null, .null, .null, .int 0, .int 0, .int 0, .int 0, .null, .null, .null, .null, .null, .null, .null, .null, .null, .null, .null, .null, .int 0, .int 0, .null, .null, .null, .null, .null, .null, .null, .null, .int 0, .int 0, .null, .null, .null, .null, .null, .null, .null, .null, .null, .null, .null, .null, .null, .int 0], 1217, 1218, 127)]
theorem lx_n_ok : lx_n.all (nm_nchk nd_ct "PaperParcelsLaw") = true := by decide +kernel
def lx_k : List (Nat × Value × Nat) := [(59, .long 4294967295, 1783)]
theorem lx_k_ok : lx_k.all (nm_kchk "PaperParcelsLaw") = true := by decide +kernel

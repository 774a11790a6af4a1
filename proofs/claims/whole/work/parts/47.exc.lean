/-! The exceptions that the class throws: their tables (printed by wip/gen/exc.py). -/
def nx_in (as : List Cond) (ps : List Nat) : Bool := decide (as.length = ps.length) && (as.zip ps).all (fun q => (decide (lw_tbl[q.2]? = some q.1) && (goodWord q.1 || nm_isN q.1)) || decide (q.1 ∈ sx_tN))
theorem nx_in_ok {as : List Cond} {ps : List Nat} (h : nx_in as ps = true) : ∀ a ∈ as, a ∈ nm_Ts ∨ a ∈ nm_Tn := by
  unfold nx_in at h
  simp only [Bool.and_eq_true, decide_eq_true_eq] at h
  obtain ⟨hl, h⟩ := h
  intro a ha
  obtain ⟨i, hi, rfl⟩ := List.mem_iff_getElem.mp ha
  have hm : (as[i], ps[i]'(by omega)) ∈ as.zip ps := by
    refine List.mem_iff_getElem.mpr ⟨i, by simp; omega, ?_⟩
    simp
  have h1 := List.all_eq_true.mp h _ hm
  simp only [Bool.or_eq_true, Bool.and_eq_true, decide_eq_true_eq] at h1
  rcases h1 with ⟨h2, h3 | h3⟩ | h2
  · exact Or.inl (nm_in h2 h3)
  · exact Or.inr (nm_inN h2 h3)
  · refine Or.inr ?_
    unfold sx_tN at h2
    unfold nm_Tn
    rcases List.mem_cons.mp h2 with h3 | h3
    · rw [h3]; exact List.mem_cons_self
    · rcases List.mem_cons.mp h3 with h4 | h4
      · rw [h4]; exact List.mem_cons_of_mem _ List.mem_cons_self
      · cases h4
def nx_names : List String := ["java/lang/RuntimeException", "java/lang/Exception"]
theorem nx_a0 : ∀ a ∈ Bundle.ownAtoms0 "PaperParcels" 66 (hx_E 0) nx_names, a ∈ nm_Ts ∨ a ∈ nm_Tn := nx_in_ok (ps := [128, 594, 603, 608, 611, 613, 595, 596, 148, 149, 597, 602, 609, 625, 584, 626, 586, 627, 588, 598, 599, 600, 601, 590, 615, 616, 617, 618, 575, 618, 619, 620, 621, 577, 621, 622, 623, 595, 579, 614, 573, 574, 581, 582, 583, 585, 587, 589, 0, 0, 593, 592, 591]) (by decide +kernel)
theorem nx_c0 : Cond.classLink "PaperParcels" 64 (hx_E 0) ∈ nm_Ts ∧ Cond.initialized (hx_E 0) ∈ nm_Ts ∧ Cond.instantiable (hx_E 0) 6 ∈ nm_Ts := ⟨nm_in (i := 572) (by decide +kernel) rfl, nm_in (i := 131) (by decide +kernel) rfl, nm_in (i := 573) (by decide +kernel) rfl⟩
theorem nx_a1 : ∀ a ∈ Bundle.ownAtoms0 "PaperParcels" 126 (hx_E 1) nx_names, a ∈ nm_Ts ∨ a ∈ nm_Tn := nx_in_ok (ps := [128, 594, 603, 608, 611, 613, 595, 596, 148, 149, 597, 602, 609, 625, 584, 626, 586, 627, 588, 598, 599, 600, 601, 590, 898, 899, 900, 618, 575, 618, 619, 620, 621, 577, 621, 622, 623, 595, 579, 897, 889, 890, 891, 606, 892, 893, 894, 895, 0, 0, 593, 592, 896]) (by decide +kernel)
theorem nx_c1 : Cond.classLink "PaperParcels" 124 (hx_E 1) ∈ nm_Ts ∧ Cond.initialized (hx_E 1) ∈ nm_Ts ∧ Cond.instantiable (hx_E 1) 6 ∈ nm_Ts := ⟨nm_in (i := 888) (by decide +kernel) rfl, nm_in (i := 135) (by decide +kernel) rfl, nm_in (i := 889) (by decide +kernel) rfl⟩
theorem nx_a2 : ∀ a ∈ Bundle.ownAtoms0 "PaperParcels" 118 (hx_E 2) nx_names, a ∈ nm_Ts ∨ a ∈ nm_Tn := nx_in_ok (ps := [128, 594, 603, 608, 611, 613, 595, 596, 148, 149, 597, 602, 609, 625, 584, 626, 586, 627, 588, 598, 599, 600, 601, 590, 954, 955, 956, 618, 575, 618, 619, 620, 621, 577, 621, 622, 623, 595, 579, 953, 945, 946, 947, 605, 948, 949, 950, 951, 0, 0, 593, 592, 952]) (by decide +kernel)
theorem nx_c2 : Cond.classLink "PaperParcels" 116 (hx_E 2) ∈ nm_Ts ∧ Cond.initialized (hx_E 2) ∈ nm_Ts ∧ Cond.instantiable (hx_E 2) 6 ∈ nm_Ts := ⟨nm_in (i := 944) (by decide +kernel) rfl, nm_in (i := 136) (by decide +kernel) rfl, nm_in (i := 945) (by decide +kernel) rfl⟩
theorem nx_a3 : ∀ a ∈ Bundle.ownAtoms0 "PaperParcels" 146 (hx_E 3) nx_names, a ∈ nm_Ts ∨ a ∈ nm_Tn := nx_in_ok (ps := [128, 594, 603, 608, 611, 613, 595, 596, 148, 149, 597, 602, 609, 625, 584, 626, 586, 627, 588, 598, 599, 600, 601, 590, 1210, 1211, 1212, 618, 575, 618, 619, 620, 621, 577, 621, 622, 623, 595, 579, 1209, 1201, 1202, 1203, 607, 1204, 1205, 1206, 1207, 0, 0, 593, 592, 1208]) (by decide +kernel)
theorem nx_c3 : Cond.classLink "PaperParcels" 144 (hx_E 3) ∈ nm_Ts ∧ Cond.initialized (hx_E 3) ∈ nm_Ts ∧ Cond.instantiable (hx_E 3) 6 ∈ nm_Ts := ⟨nm_in (i := 1200) (by decide +kernel) rfl, nm_in (i := 141) (by decide +kernel) rfl, nm_in (i := 1201) (by decide +kernel) rfl⟩
/-- the exceptions by the places of 'new' and of their constructors -/
def nx_L : List ((Nat × Nat) × Nat) := [((64, 66), 0), ((124, 126), 1), ((116, 118), 2), ((144, 146), 3)]
def nx_exc (q : Nat × Nat) : Option String := ((nx_L.find? (fun z => z.1 == q)).map (fun z => z.2)).map hx_E
theorem nx_Xw {F G : Nat} (hF : 6 ≤ F) (hG : 89 ≤ G) : am_Xw "PaperParcels" nm_Ts nm_Tn F G nx_exc := by
  intro ik ic E hE
  unfold nx_exc at hE
  cases hf : nx_L.find? (fun z => z.1 == (ik, ic)) with
  | none => rw [hf] at hE; cases hE
  | some z =>
    rw [hf] at hE
    simp only [Option.map_some, Option.some.injEq] at hE
    subst hE
    have h1 := List.mem_of_find?_eq_some hf
    have h2 : z.1 = (ik, ic) := by simpa using List.find?_some hf
    have hn : ∀ n ∈ nx_names, Bundle.fit n = true := by decide +kernel
    have hlen : nx_names.length + 3 < F ∧ 8 + (13 * (nx_names.length + 1) + 42) ≤ G := ⟨by show 2 + 3 < F; omega, by show 8 + (13 * (2 + 1) + 42) ≤ G; omega⟩
    unfold nx_L at h1
    rcases List.mem_cons.mp h1 with rfl | h1
    · cases h2; exact ⟨nx_names, by decide +kernel, hn, nx_c0.1, nx_c0.2.1, nx_c0.2.2, nx_a0, hlen.1, hlen.2⟩
    rcases List.mem_cons.mp h1 with rfl | h1
    · cases h2; exact ⟨nx_names, by decide +kernel, hn, nx_c1.1, nx_c1.2.1, nx_c1.2.2, nx_a1, hlen.1, hlen.2⟩
    rcases List.mem_cons.mp h1 with rfl | h1
    · cases h2; exact ⟨nx_names, by decide +kernel, hn, nx_c2.1, nx_c2.2.1, nx_c2.2.2, nx_a2, hlen.1, hlen.2⟩
    rcases List.mem_cons.mp h1 with rfl | h1
    · cases h2; exact ⟨nx_names, by decide +kernel, hn, nx_c3.1, nx_c3.2.1, nx_c3.2.2, nx_a3, hlen.1, hlen.2⟩
    · cases h1

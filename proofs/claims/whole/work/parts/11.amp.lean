/-! The instructions that touch no cell: pc, locals, stack. -/
abbrev am_cfg : Type := Nat × List (Option Value) × List Value
def am_tgt (pc : Nat) (off : Int) : Nat := ((pc : Int) + off).toNat
def am_pA (i : Instr) (n pc : Nat) (L : List (Option Value)) (st : List Value) : Option am_cfg := match i, n with
  | .iconst k, 1 => some (pc + 1, L, .int (Int32.ofInt k) :: st)
  | .bipush k, 2 => some (pc + 2, L, .int (Int8.ofInt k).toInt32 :: st)
  | .sipush k, 3 => some (pc + 3, L, .int (Int16.ofInt k).toInt32 :: st)
  | .lconst k, 1 => some (pc + 1, L, .long (Int64.ofNat (k : Nat)) :: st)
  | .iload_n k, 1 => match L[(k : Nat)]? with
    | some (some (.int x)) => some (pc + 1, L, .int x :: st)
    | _ => none
  | .iload k, 2 => match L[k]? with
    | some (some (.int x)) => some (pc + 2, L, .int x :: st)
    | _ => none
  | .lload_n k, 1 => match L[(k : Nat)]? with
    | some (some (.long x)) => some (pc + 1, L, .long x :: st)
    | _ => none
  | .lload k, 2 => match L[k]? with
    | some (some (.long x)) => some (pc + 2, L, .long x :: st)
    | _ => none
  | .aload_n k, 1 => match L[(k : Nat)]? with
    | some (some (.ref x)) => some (pc + 1, L, .ref x :: st)
    | _ => none
  | .aload k, 2 => match L[k]? with
    | some (some (.ref x)) => some (pc + 2, L, .ref x :: st)
    | _ => none
  | _, _ => none
def am_pB (i : Instr) (n pc : Nat) (L : List (Option Value)) (st : List Value) : Option am_cfg := match i, n, st with
  | .istore_n k, 1, .int x :: t => (am_s1 L (k : Nat) (.int x)).map (fun L' => (pc + 1, L', t))
  | .istore k, 2, .int x :: t => (am_s1 L k (.int x)).map (fun L' => (pc + 2, L', t))
  | .astore_n k, 1, .ref x :: t => (am_s1 L (k : Nat) (.ref x)).map (fun L' => (pc + 1, L', t))
  | .astore k, 2, .ref x :: t => (am_s1 L k (.ref x)).map (fun L' => (pc + 2, L', t))
  | .lstore_n k, 1, .long x :: t => (am_s2 L (k : Nat) (.long x)).map (fun L' => (pc + 1, L', t))
  | .lstore k, 2, .long x :: t => (am_s2 L k (.long x)).map (fun L' => (pc + 2, L', t))
  | .iinc k d, 3, t => match L[k]? with
    | some (some (.int x)) => (am_s1 L k (.int (x + Int32.ofInt d))).map (fun L' => (pc + 3, L', t))
    | _ => none
  | _, _, _ => none
def am_pC (i : Instr) (n pc : Nat) (L : List (Option Value)) (st : List Value) : Option am_cfg := match i, n, st with
  | .iadd, 1, .int y :: .int x :: t => some (pc + 1, L, .int (x + y) :: t)
  | .isub, 1, .int y :: .int x :: t => some (pc + 1, L, .int (x - y) :: t)
  | .imul, 1, .int y :: .int x :: t => some (pc + 1, L, .int (x * y) :: t)
  | .iand, 1, .int y :: .int x :: t => some (pc + 1, L, .int (x &&& y) :: t)
  | .ior, 1, .int y :: .int x :: t => some (pc + 1, L, .int (x ||| y) :: t)
  | .ixor, 1, .int y :: .int x :: t => some (pc + 1, L, .int (x ^^^ y) :: t)
  | .ineg, 1, .int x :: t => some (pc + 1, L, .int (-x) :: t)
  | .ishl, 1, .int y :: .int x :: t => some (pc + 1, L, .int (x <<< (y &&& 31)) :: t)
  | .ishr, 1, .int y :: .int x :: t => some (pc + 1, L, .int (x >>> (y &&& 31)) :: t)
  | .iushr, 1, .int y :: .int x :: t => some (pc + 1, L, .int (x.toUInt32 >>> (y.toUInt32 &&& Int32.toUInt32 31)).toInt32 :: t)
  | .idiv, 1, .int y :: .int x :: t => if y = 0 then none else some (pc + 1, L, .int (x / y) :: t)
  | .irem, 1, .int y :: .int x :: t => if y = 0 then none else some (pc + 1, L, .int (x - x / y * y) :: t)
  | .i2l, 1, .int x :: t => some (pc + 1, L, .long x.toInt64 :: t)
  | .l2i, 1, .long x :: t => some (pc + 1, L, .int x.toInt32 :: t)
  | _, _, _ => none
def am_pD (i : Instr) (n pc : Nat) (L : List (Option Value)) (st : List Value) : Option am_cfg := match i, n, st with
  | .ladd, 1, .long y :: .long x :: t => some (pc + 1, L, .long (x + y) :: t)
  | .land, 1, .long y :: .long x :: t => some (pc + 1, L, .long (x &&& y) :: t)
  | .lor, 1, .long y :: .long x :: t => some (pc + 1, L, .long (x ||| y) :: t)
  | .lshl, 1, .int y :: .long x :: t => some (pc + 1, L, .long (x <<< (y.toInt64 &&& 63)) :: t)
  | .lshr, 1, .int y :: .long x :: t => some (pc + 1, L, .long (x >>> (y.toInt64 &&& 63)) :: t)
  | .lushr, 1, .int y :: .long x :: t => some (pc + 1, L, .long (x.toUInt64 >>> (y.toInt64.toUInt64 &&& Int64.toUInt64 63)).toInt64 :: t)
  | .lcmp, 1, .long y :: .long x :: t => some (pc + 1, L, .int (lg_cmp x y) :: t)
  | .dup, 1, a :: t => if a.category = 1 then some (pc + 1, L, a :: a :: t) else none
  | .pop, 1, a :: t => if a.category = 1 then some (pc + 1, L, t) else none
  | .dup_x1, 1, a :: b :: t => if a.category = 1 ∧ b.category = 1 then some (pc + 1, L, a :: b :: a :: t) else none
  | .dup_x2, 1, a :: b :: d :: t => if a.category = 1 ∧ b.category = 1 ∧ d.category = 1 then some (pc + 1, L, a :: b :: d :: a :: t) else none
  | .dup2, 1, a :: b :: t => if a.category = 1 ∧ b.category = 1 then some (pc + 1, L, a :: b :: a :: b :: t) else none
  | _, _, _ => none
/-- a jump -/
def am_go (pc : Nat) (off : Int) (L : List (Option Value)) (t : List Value) : Option am_cfg := if (pc : Int) + off = (am_tgt pc off : Int) then some (am_tgt pc off, L, t) else none
/-- a branch: its condition, where it leads -/
def am_br (b : Prop) [Decidable b] (pc : Nat) (off : Int) (L : List (Option Value)) (t : List Value) : Option am_cfg := if b then am_go pc off L t else (if (pc : Int) + off = (am_tgt pc off : Int) then some (pc + 3, L, t) else none)
def am_pE (i : Instr) (n pc : Nat) (L : List (Option Value)) (st : List Value) : Option am_cfg := match i, n, st with
  | .ifCond .eq off, 3, .int x :: t => am_br (x = 0) pc off L t
  | .ifCond .ne off, 3, .int x :: t => am_br (¬ x = 0) pc off L t
  | .ifCond .lt off, 3, .int x :: t => am_br (x < 0) pc off L t
  | .ifCond .ge off, 3, .int x :: t => am_br (0 ≤ x) pc off L t
  | .ifCond .gt off, 3, .int x :: t => am_br (0 < x) pc off L t
  | .ifCond .le off, 3, .int x :: t => am_br (x ≤ 0) pc off L t
  | .if_icmp .eq off, 3, .int y :: .int x :: t => am_br (x = y) pc off L t
  | .if_icmp .ne off, 3, .int y :: .int x :: t => am_br (¬ x = y) pc off L t
  | .if_icmp .lt off, 3, .int y :: .int x :: t => am_br (x < y) pc off L t
  | .if_icmp .ge off, 3, .int y :: .int x :: t => am_br (y ≤ x) pc off L t
  | .if_icmp .gt off, 3, .int y :: .int x :: t => am_br (y < x) pc off L t
  | .if_icmp .le off, 3, .int y :: .int x :: t => am_br (x ≤ y) pc off L t
  | .goto off, 3, t => if (pc : Int) + off = (am_tgt pc off : Int) then some (am_tgt pc off, L, t) else none
  | .tableswitch d lo hi offs, _, .int x :: t => if x.toInt < lo ∨ hi < x.toInt then (if (pc : Int) + d = (am_tgt pc d : Int) then some (am_tgt pc d, L, t) else none)
    else match offs[(x.toInt - lo).toNat]? with
      | some off => if (pc : Int) + off = (am_tgt pc off : Int) then some (am_tgt pc off, L, t) else none
      | none => none
  | .lookupswitch d ps, _, .int x :: t => if (ps.toList.zip (ps.toList.drop 1)).all (fun (a, next) => a.1 < next.1) = true ∧ (pc : Int) + Op.lookupswitch.offset ps.toList d x.toInt = (am_tgt pc (Op.lookupswitch.offset ps.toList d x.toInt) : Int) then some (am_tgt pc (Op.lookupswitch.offset ps.toList d x.toInt), L, t) else none
  | _, _, _ => none
theorem am_s1_lt {L L' : List (Option Value)} {i : Nat} {v : Value} (h : am_s1 L i v = some L') : i < L.length := by
  unfold am_s1 at h
  split at h
  · next hc => exact hc.1
  · cases h
theorem am_s2_lt {L L' : List (Option Value)} {i : Nat} {v : Value} (h : am_s2 L i v = some L') : i + 1 < L.length := by
  unfold am_s2 at h
  split at h
  · next hc => exact hc.1
  · cases h
section AMP
variable {p : Program} {l : Launch} {e : Env} {R : Room} {s : State} {m : MethodId} {args : Array Value} {below : List Frame} {meth : Method} {c : Code} {H : Heap} {locs : List Loc} {cells slots : Nat} {Q : State → Prop}
variable {cc : ByteArray} {ad : Nat → Nat} {nL : Nat}
set_option maxHeartbeats 4000000 in
theorem am_pA_ok (hx : p.tables.exec = Jvm.exec) (hb : c.code = cc) {i : Instr} {n pc : Nat} {L : List (Option Value)} {st : List Value} {r : am_cfg} {ls : Array Slot} (hL : am_has ad ls nL L) (hd : decode cc pc = .ok (i, n)) (h : am_pA i n pc L st = some r)
    (k : ∀ ls', am_has ad ls' nL r.2.1 → W p l e R s m args below meth c H locs cells slots Q (F0 m r.1 ls' (r.2.2.map (am_v ad)))) : W p l e R s m args below meth c H locs cells slots Q (F0 m pc ls (st.map (am_v ad))) := by
  unfold am_pA at h
  split at h
  · cases h; exact lv_iconst hx hb hd rfl (k _ hL)
  · cases h; exact lv_bipush hx hb hd rfl (k _ hL)
  · cases h; exact lv_sipush hx hb hd rfl (k _ hL)
  · cases h; exact lv_lconst hx hb hd rfl (k _ hL)
  · split at h
    · next x hl => cases h; exact lv_iload_n hx hb hd rfl (hL.2.2.2 _ _ hl) (k _ hL)
    · cases h
  · split at h
    · next x hl => cases h; exact lv_iload hx hb hd (hL.2.2.2 _ _ hl) (k _ hL)
    · cases h
  · split at h
    · next x hl => cases h; exact lv_lload_n hx hb hd rfl (hL.2.2.2 _ _ hl) (k _ hL)
    · cases h
  · split at h
    · next x hl => cases h; exact lv_lload hx hb hd (hL.2.2.2 _ _ hl) (k _ hL)
    · cases h
  · split at h
    · next x hl => cases h; exact lv_aload_n hx hb hd rfl (hL.2.2.2 _ _ hl) (k _ hL)
    · cases h
  · split at h
    · next x hl => cases h; exact lv_aload hx hb hd (hL.2.2.2 _ _ hl) (k _ hL)
    · cases h
  · cases h
set_option maxHeartbeats 4000000 in
theorem am_pB_ok (hx : p.tables.exec = Jvm.exec) (hb : c.code = cc) {i : Instr} {n pc : Nat} {L : List (Option Value)} {st : List Value} {r : am_cfg} {ls : Array Slot} (hL : am_has ad ls nL L) (hd : decode cc pc = .ok (i, n)) (h : am_pB i n pc L st = some r)
    (k : ∀ ls', am_has ad ls' nL r.2.1 → W p l e R s m args below meth c H locs cells slots Q (F0 m r.1 ls' (r.2.2.map (am_v ad)))) : W p l e R s m args below meth c H locs cells slots Q (F0 m pc ls (st.map (am_v ad))) := by
  have hv := am_has_lv hL
  have hn := hL.2.2.1
  unfold am_pB at h
  split at h
  · obtain ⟨L', hs, rfl⟩ := Option.map_eq_some_iff.mp h
    exact lv_istore_n hx hb hd rfl hv (hn ▸ am_s1_lt hs) rfl (fun ls' h' => k ls' (am_has_s1 hn hs h'))
  · obtain ⟨L', hs, rfl⟩ := Option.map_eq_some_iff.mp h
    exact lv_istore hx hb hd hv (hn ▸ am_s1_lt hs) rfl (fun ls' h' => k ls' (am_has_s1 hn hs h'))
  · obtain ⟨L', hs, rfl⟩ := Option.map_eq_some_iff.mp h
    exact lv_astore_n hx hb hd rfl hv (hn ▸ am_s1_lt hs) rfl (fun ls' h' => k ls' (am_has_s1 hn hs h'))
  · obtain ⟨L', hs, rfl⟩ := Option.map_eq_some_iff.mp h
    exact lv_astore hx hb hd hv (hn ▸ am_s1_lt hs) rfl (fun ls' h' => k ls' (am_has_s1 hn hs h'))
  · obtain ⟨L', hs, rfl⟩ := Option.map_eq_some_iff.mp h
    exact lv_lstore_n hx hb hd rfl hv (hn ▸ am_s2_lt hs) rfl (fun ls' h' => k ls' (am_has_s2 hn hs h'))
  · obtain ⟨L', hs, rfl⟩ := Option.map_eq_some_iff.mp h
    exact lv_lstore hx hb hd hv (hn ▸ am_s2_lt hs) rfl (fun ls' h' => k ls' (am_has_s2 hn hs h'))
  · split at h
    · next x hl =>
      obtain ⟨L', hs, rfl⟩ := Option.map_eq_some_iff.mp h
      obtain ⟨j, hj⟩ := List.getElem?_of_mem (am_ll_mem (ad := ad) (q := (_, .int x)).mpr ⟨_, hl, rfl⟩)
      exact lv_iinc hx hb hd hv hj rfl (hn ▸ am_s1_lt hs) rfl (fun ls' h' => k ls' (am_has_s1 hn hs h'))
    · cases h
  · cases h
set_option maxHeartbeats 4000000 in
theorem am_pC_ok (hx : p.tables.exec = Jvm.exec) (hb : c.code = cc) {i : Instr} {n pc : Nat} {L : List (Option Value)} {st : List Value} {r : am_cfg} {ls : Array Slot} (hL : am_has ad ls nL L) (hd : decode cc pc = .ok (i, n)) (h : am_pC i n pc L st = some r)
    (k : ∀ ls', am_has ad ls' nL r.2.1 → W p l e R s m args below meth c H locs cells slots Q (F0 m r.1 ls' (r.2.2.map (am_v ad)))) : W p l e R s m args below meth c H locs cells slots Q (F0 m pc ls (st.map (am_v ad))) := by
  unfold am_pC at h
  split at h
  · cases h; exact lv_iadd hx hb hd (k _ hL)
  · cases h; exact lv_isub hx hb hd (k _ hL)
  · cases h; exact lv_imul hx hb hd (k _ hL)
  · cases h; exact lv_iand hx hb hd (k _ hL)
  · cases h; exact lv_ior hx hb hd (k _ hL)
  · cases h; exact lv_ixor hx hb hd (k _ hL)
  · cases h; exact lv_ineg hx hb hd (k _ hL)
  · cases h; exact lv_ishl hx hb hd (k _ hL)
  · cases h; exact lv_ishr hx hb hd (k _ hL)
  · cases h; exact lv_iushr hx hb hd rfl (k _ hL)
  · split at h
    · cases h
    · next hy => cases h; exact lv_idiv hx hb hd hy (k _ hL)
  · split at h
    · cases h
    · next hy => cases h; exact lv_irem hx hb hd hy (k _ hL)
  · cases h; exact lv_i2l hx hb hd rfl (k _ hL)
  · cases h; exact lv_l2i hx hb hd rfl (k _ hL)
  · cases h
set_option maxHeartbeats 4000000 in
theorem am_pD_ok (hx : p.tables.exec = Jvm.exec) (hb : c.code = cc) {i : Instr} {n pc : Nat} {L : List (Option Value)} {st : List Value} {r : am_cfg} {ls : Array Slot} (hL : am_has ad ls nL L) (hd : decode cc pc = .ok (i, n)) (h : am_pD i n pc L st = some r)
    (k : ∀ ls', am_has ad ls' nL r.2.1 → W p l e R s m args below meth c H locs cells slots Q (F0 m r.1 ls' (r.2.2.map (am_v ad)))) : W p l e R s m args below meth c H locs cells slots Q (F0 m pc ls (st.map (am_v ad))) := by
  unfold am_pD at h
  split at h
  · cases h; exact lv_ladd hx hb hd (k _ hL)
  · cases h; exact lv_land hx hb hd (k _ hL)
  · cases h; exact lv_lor hx hb hd (k _ hL)
  · cases h; exact lv_lshl hx hb hd rfl (k _ hL)
  · cases h; exact lv_lshr hx hb hd rfl (k _ hL)
  · cases h; exact lv_lushr hx hb hd rfl (k _ hL)
  · cases h; exact W.lcmp hx hb hd (k _ hL)
  · split at h
    · next hy => cases h; exact lv_dup hx hb hd ((am_cat _ _).trans hy) (k _ hL)
    · cases h
  · split at h
    · next hy => cases h; exact lv_pop hx hb hd ((am_cat _ _).trans hy) (k _ hL)
    · cases h
  · split at h
    · next hy => cases h; exact lv_dup_x1 hx hb hd ((am_cat _ _).trans hy.1) ((am_cat _ _).trans hy.2) (k _ hL)
    · cases h
  · split at h
    · next hy => cases h; exact lv_dup_x2 hx hb hd ((am_cat _ _).trans hy.1) ((am_cat _ _).trans hy.2.1) ((am_cat _ _).trans hy.2.2) (k _ hL)
    · cases h
  · split at h
    · next hy => cases h; exact lv_dup2_11 hx hb hd ((am_cat _ _).trans hy.1) ((am_cat _ _).trans hy.2) (k _ hL)
    · cases h
  · cases h
/-- what a branch gives -/
theorem am_br_ok {b : Prop} [Decidable b] {pc : Nat} {off : Int} {L : List (Option Value)} {t : List Value} {r : am_cfg} (h : am_br b pc off L t = some r) :
    (pc : Int) + off = (am_tgt pc off : Int) ∧ (b → r = (am_tgt pc off, L, t)) ∧ (¬ b → r = (pc + 3, L, t)) := by
  unfold am_br am_go at h
  by_cases h1 : (pc : Int) + off = (am_tgt pc off : Int)
  · simp only [h1, if_true] at h
    refine ⟨h1, fun hb => ?_, fun hb => ?_⟩
    · rw [if_pos hb] at h
      exact (Option.some.inj h).symm
    · rw [if_neg hb] at h
      exact (Option.some.inj h).symm
  · simp only [h1, if_false, ite_self] at h
    cases h
set_option maxHeartbeats 4000000 in
theorem am_pE_ok (hx : p.tables.exec = Jvm.exec) (hb : c.code = cc) {i : Instr} {n pc : Nat} {L : List (Option Value)} {st : List Value} {r : am_cfg} {ls : Array Slot} (hL : am_has ad ls nL L) (hd : decode cc pc = .ok (i, n)) (h : am_pE i n pc L st = some r)
    (k : ∀ ls', am_has ad ls' nL r.2.1 → W p l e R s m args below meth c H locs cells slots Q (F0 m r.1 ls' (r.2.2.map (am_v ad)))) : W p l e R s m args below meth c H locs cells slots Q (F0 m pc ls (st.map (am_v ad))) := by
  unfold am_pE at h
  split at h
  · obtain ⟨h1, h2, h3⟩ := am_br_ok h; exact lv_if_eq hx hb hd h1 (fun q => by rw [h2 q] at k; exact k _ hL) (fun q => by rw [h3 q] at k; exact k _ hL)
  · obtain ⟨h1, h2, h3⟩ := am_br_ok h; exact lv_if_ne hx hb hd h1 (fun q => by rw [h2 q] at k; exact k _ hL) (fun q => by rw [h3 (fun z => z q)] at k; exact k _ hL)
  · obtain ⟨h1, h2, h3⟩ := am_br_ok h; exact lv_if_lt hx hb hd h1 (fun q => by rw [h2 q] at k; exact k _ hL) (fun q => by rw [h3 q] at k; exact k _ hL)
  · obtain ⟨h1, h2, h3⟩ := am_br_ok h; exact lv_if_ge hx hb hd h1 (fun q => by rw [h2 q] at k; exact k _ hL) (fun q => by rw [h3 q] at k; exact k _ hL)
  · obtain ⟨h1, h2, h3⟩ := am_br_ok h; exact lv_if_gt hx hb hd h1 (fun q => by rw [h2 q] at k; exact k _ hL) (fun q => by rw [h3 q] at k; exact k _ hL)
  · obtain ⟨h1, h2, h3⟩ := am_br_ok h; exact lv_if_le hx hb hd h1 (fun q => by rw [h2 q] at k; exact k _ hL) (fun q => by rw [h3 q] at k; exact k _ hL)
  · obtain ⟨h1, h2, h3⟩ := am_br_ok h; exact lv_icmp_eq hx hb hd h1 (fun q => by rw [h2 q] at k; exact k _ hL) (fun q => by rw [h3 q] at k; exact k _ hL)
  · obtain ⟨h1, h2, h3⟩ := am_br_ok h; exact lv_icmp_ne hx hb hd h1 (fun q => by rw [h2 q] at k; exact k _ hL) (fun q => by rw [h3 (fun z => z q)] at k; exact k _ hL)
  · obtain ⟨h1, h2, h3⟩ := am_br_ok h; exact lv_icmp_lt hx hb hd h1 (fun q => by rw [h2 q] at k; exact k _ hL) (fun q => by rw [h3 q] at k; exact k _ hL)
  · obtain ⟨h1, h2, h3⟩ := am_br_ok h; exact lv_icmp_ge hx hb hd h1 (fun q => by rw [h2 q] at k; exact k _ hL) (fun q => by rw [h3 q] at k; exact k _ hL)
  · obtain ⟨h1, h2, h3⟩ := am_br_ok h; exact lv_icmp_gt hx hb hd h1 (fun q => by rw [h2 q] at k; exact k _ hL) (fun q => by rw [h3 q] at k; exact k _ hL)
  · obtain ⟨h1, h2, h3⟩ := am_br_ok h; exact lv_icmp_le hx hb hd h1 (fun q => by rw [h2 q] at k; exact k _ hL) (fun q => by rw [h3 q] at k; exact k _ hL)
  · split at h
    · next h1 => cases h; exact lv_goto hx hb hd h1 (k _ hL)
    · cases h
  · split at h
    · next h0 =>
      split at h
      · next h1 => cases h; exact lv_tableOut hx hb hd h0 h1 (k _ hL)
      · cases h
    · next h0 =>
      split at h
      · next off ho =>
        split at h
        · next h1 => cases h; exact lv_tableIn hx hb hd (fun z => h0 (Or.inl z)) (fun z => h0 (Or.inr z)) ho h1 (k _ hL)
        · cases h
      · cases h
  · split at h
    · next h1 => cases h; exact lv_lookup hx hb hd h1.1 rfl h1.2 (k _ hL)
    · cases h
  · cases h
def am_p (i : Instr) (n pc : Nat) (L : List (Option Value)) (st : List Value) : Option am_cfg :=
  match am_pA i n pc L st with
  | some r => some r
  | none => match am_pB i n pc L st with
    | some r => some r
    | none => match am_pC i n pc L st with
      | some r => some r
      | none => match am_pD i n pc L st with
        | some r => some r
        | none => am_pE i n pc L st
theorem am_p_ok (hx : p.tables.exec = Jvm.exec) (hb : c.code = cc) {i : Instr} {n pc : Nat} {L : List (Option Value)} {st : List Value} {r : am_cfg} {ls : Array Slot} (hL : am_has ad ls nL L) (hd : decode cc pc = .ok (i, n)) (h : am_p i n pc L st = some r)
    (k : ∀ ls', am_has ad ls' nL r.2.1 → W p l e R s m args below meth c H locs cells slots Q (F0 m r.1 ls' (r.2.2.map (am_v ad)))) : W p l e R s m args below meth c H locs cells slots Q (F0 m pc ls (st.map (am_v ad))) := by
  unfold am_p at h
  split at h
  · next h1 => cases h; exact am_pA_ok hx hb hL hd h1 k
  · split at h
    · next h1 => cases h; exact am_pB_ok hx hb hL hd h1 k
    · split at h
      · next h1 => cases h; exact am_pC_ok hx hb hL hd h1 k
      · split at h
        · next h1 => cases h; exact am_pD_ok hx hb hL hd h1 k
        · exact am_pE_ok hx hb hL hd h k
end AMP

/-! The methods that use String constants, as functions (printed by wip/gen/fstr.py; that the machine goes so is still to be shown). -/
set_option maxRecDepth 100000
set_option linter.unusedVariables false
/-- putText of a constant -/
noncomputable def zf121 (a0 : Nat) : List Int32 → zS → Option zS
  | [], s => some s
  | c :: T, s => zbv (zf13 a0 c s) fun s1 => zf121 a0 T s1
/-- charAt of a constant -/
def zct {R : Type} (T : List Int32) (j : Int32) (c : Int32 → Option R) : Option R := if j < 0 ∨ T.length ≤ j.toNatClampNeg then none else c (T.getD j.toNatClampNeg 0)
-- PaperParcels$Emitter.putEnd(LPaperParcels$Paper;I)V
noncomputable def zf136 (a0 : Nat) (a1 : Nat) (x2 : Int32) (s : zS) : Option (zS) :=
  zbv (zf121 (zrf a0 2) ([60, 47]) s) fun s2 =>
  zal s2 (zrf a1 0) x2 fun v3 =>
  zct [100, 112, 120, 108, 105] v3 fun v4 =>
  zbv (zf13 (zrf a0 2) v4 s2) fun s6 =>
  zbv (zf13 (zrf a0 2) 62 s6) fun s8 =>
  some s8
-- PaperParcels$Emitter.putBegin(LPaperParcels$Paper;I)V
noncomputable def zf138_100 (a0 : Nat) (a1 : Nat)   (s : zS) : Option (zS) :=
  zbv (zf13 (zrf a0 2) 62 s) fun s2 =>
  some s2
noncomputable def zf138_73 (a0 : Nat) (a1 : Nat)  (x2 : Int32) (s : zS) : Option (zS) :=
  zal s (zrf a1 0) x2 fun v1 =>
  if v1 = 2 then
    zf138_100 a0 a1 s
  else
    zbi (zf139 a1 x2 s) fun v2 s3 =>
    if v2 = 0 then
      zf138_100 a0 a1 s3
    else
      zbv (zf13 (zrf a0 2) 47 s3) fun s5 =>
      zf138_100 a0 a1 s5
noncomputable def zf138 (a0 : Nat) (a1 : Nat) (x2 : Int32) (s : zS) : Option (zS) :=
  zbv (zf13 (zrf a0 2) 60 s) fun s2 =>
  zal s2 (zrf a1 0) x2 fun v3 =>
  zct [100, 112, 120, 108, 105] v3 fun v4 =>
  zbv (zf13 (zrf a0 2) v4 s2) fun s6 =>
  zbi (zf118 a1 x2 s6) fun v7 s8 =>
  if v7 = 0 then
    zf138_73 a0 a1 x2 s8
  else
    zbv (zf121 (zrf a0 2) ([32, 121, 61, 34]) s8) fun s10 =>
    zal s10 (zrf a1 2) x2 fun v11 =>
    zbi (zf119 a0 v11 s10) fun v12 s13 =>
    zbv (zf13 (zrf a0 2) (65 + v12) s13) fun s15 =>
    zbv (zf13 (zrf a0 2) 34 s15) fun s17 =>
    zf138_73 a0 a1 x2 s17
-- PaperParcels$Emitter.putRun(LPaperParcels$Paper;I)V
noncomputable def zf137_19 (a0 : Nat) (a1 : Nat)  : Nat → Int32 → Int32 → Int32 → zS → Option (zS)
  | 0, _, _, _, _ => none
  | n + 1, x2, x3, x4, s =>
    zal s (zrf a1 4) x2 fun v1 =>
    if v1 ≤ x4 then
      if x3 = 0 then
        some s
      else
        zbv (zf136 a0 a1 x2 s) fun s3 =>
        some s3
    else
      zbi (zf91 a1 x2 x4 s) fun v4 s5 =>
      zbv (zf13 (zrf a0 2) v4 s5) fun s7 =>
      zf137_19 a0 a1 n x2 x3 (x4 + 1) s7
noncomputable def zf137 (a0 : Nat) (a1 : Nat) (x2 : Int32) (s : zS) : Option (zS) :=
  zbi (zf118 a1 x2 s) fun v1 s2 =>
  if v1 = 0 then
    zf137_19 a0 a1 zfz x2 v1 0 s2
  else
    zbv (zf138 a0 a1 x2 s2) fun s4 =>
    zf137_19 a0 a1 zfz x2 v1 0 s4
-- PaperParcels$Emitter.putEnds(LPaperParcels$Paper;II)V
noncomputable def zf135_6 (a0 : Nat) (a1 : Nat)  : Nat → Int32 → Int32 → Int32 → zS → Option (zS)
  | 0, _, _, _, _ => none
  | n + 1, x3, x4, x5, s =>
    zgf s a1 6 fun v1 =>
    if v1 ≤ x5 then
      some s
    else
      if x4 = x3 then
        some s
      else
        if x4 = (-1) then
          some s
        else
          zbv (zf136 a0 a1 x4 s) fun s3 =>
          zal s3 (zrf a1 1) x4 fun v4 =>
          zf135_6 a0 a1 n x3 v4 (x5 + 1) s3
noncomputable def zf135 (a0 : Nat) (a1 : Nat) (x2 : Int32) (x3 : Int32) (s : zS) : Option (zS) :=
  zf135_6 a0 a1 zfz x3 x2 0 s
-- PaperParcels$Emitter.putBody(LPaperParcels$Paper;)V
noncomputable def zf134_11 (a0 : Nat) (a1 : Nat)  : Nat → Int32 → Int32 → zS → Option (zS)
  | 0, _, _, _ => none
  | n + 1, x2, x3, s =>
    zgf s a1 6 fun v1 =>
    if v1 ≤ x3 then
      zbv (zf135 a0 a1 x2 (-1) s) fun s3 =>
      some s3
    else
      zal s (zrf a1 1) x3 fun v4 =>
      zbv (zf135 a0 a1 x2 v4 s) fun s6 =>
      zal s6 (zrf a1 1) x3 fun v7 =>
      zal s6 (zrf a1 0) x3 fun v8 =>
      if ¬ v8 = 2 then
        zbv (zf138 a0 a1 x3 s6) fun s10 =>
        zbi (zf139 a1 x3 s10) fun v11 s12 =>
        if v11 = 0 then
          zf134_11 a0 a1 n x3 (x3 + 1) s12
        else
          zf134_11 a0 a1 n v7 (x3 + 1) s12
      else
        zbv (zf137 a0 a1 x3 s6) fun s14 =>
        zf134_11 a0 a1 n v7 (x3 + 1) s14
noncomputable def zf134 (a0 : Nat) (a1 : Nat) (s : zS) : Option (zS) :=
  zbv (zf15 (zrf a0 2) s) fun s2 =>
  zf134_11 a0 a1 zfz (-1) 0 s2
-- PaperParcels$Emitter.putStyle(I)V
noncomputable def zf133_89 (a0 : Nat)  (x1 : Int32) (x2 : Int32) (s : zS) : Option (zS) :=
  zbv (zf13 (zrf a0 1) (48 + (x2 - x2 / 10 * 10)) s) fun s2 =>
  zbv (zf121 (zrf a0 1) ([34, 32, 107, 61, 34]) s2) fun s4 =>
  zal s4 (zrf a0 4) x1 fun v5 =>
  zbi (zf74 v5 2 s4) fun v6 s7 =>
  zbv (zf13 (zrf a0 1) (48 + v6) s7) fun s9 =>
  zbv (zf121 (zrf a0 1) ([34, 47, 62]) s9) fun s11 =>
  some s11
noncomputable def zf133 (a0 : Nat) (x1 : Int32) (s : zS) : Option (zS) :=
  zal s (zrf a0 4) x1 fun v1 =>
  zbi (zf74 v1 1 s) fun v2 s3 =>
  zbv (zf121 (zrf a0 1) ([60, 115, 32, 110, 61, 34]) s3) fun s5 =>
  zbv (zf13 (zrf a0 1) (65 + x1) s5) fun s7 =>
  zbv (zf121 (zrf a0 1) ([34, 32, 98, 61, 34]) s7) fun s9 =>
  zal s9 (zrf a0 4) x1 fun v10 =>
  zbi (zf74 v10 0 s9) fun v11 s12 =>
  zbv (zf13 (zrf a0 1) (48 + v11) s12) fun s14 =>
  zbv (zf121 (zrf a0 1) ([34, 32, 122, 61, 34]) s14) fun s16 =>
  if v2 ≤ 9 then
    zf133_89 a0 x1 v2 s16
  else
    zbv (zf13 (zrf a0 1) (48 + (v2 / 10)) s16) fun s18 =>
    zf133_89 a0 x1 v2 s18
-- PaperParcels$Emitter.putSheet()V
noncomputable def zf120_35 (a0 : Nat)  : Nat → Int32 → zS → Option (zS)
  | 0, _, _ => none
  | n + 1, x1, s =>
    zgf s a0 5 fun v1 =>
    if v1 ≤ x1 then
      zbv (zf121 (zrf a0 1) ([60, 47, 116, 62]) s) fun s3 =>
      some s3
    else
      zbv (zf133 a0 x1 s) fun s5 =>
      zf120_35 a0 n (x1 + 1) s5
noncomputable def zf120 (a0 : Nat) (s : zS) : Option (zS) :=
  zbv (zf15 (zrf a0 1) s) fun s2 =>
  zgf s2 a0 5 fun v3 =>
  if ¬ v3 = 0 then
    zbv (zf121 (zrf a0 1) ([60, 116, 62]) s2) fun s5 =>
    zf120_35 a0 zfz 0 s5
  else
    zbv (zf121 (zrf a0 1) ([60, 116, 47, 62]) s2) fun s7 =>
    some s7
-- PaperParcels$Emitter.compose(LPaperParcels$Paper;I)Z
noncomputable def zf116 (a0 : Nat) (a1 : Nat) (x2 : Int32) (s : zS) : Option (Int32 × zS) :=
  zbi (zf117 a0 a1 s) fun v1 s2 =>
  if ¬ v1 = 0 then
    zbv (zf120 a0 s2) fun s4 =>
    zbv (zf134 a0 a1 s4) fun s6 =>
    zgf s6 (zrf a0 1) 2 fun v7 =>
    if ¬ v7 = 0 then
      zrb 0 s6
    else
      zgf s6 (zrf a0 2) 2 fun v8 =>
      if v8 = 0 then
        zbv (zf15 (zrf a0 0) s6) fun s10 =>
        zbv (zf140 a0 83 (zrf a0 1) x2 s10) fun s12 =>
        zbv (zf140 a0 67 (zrf a0 2) x2 s12) fun s14 =>
        zgf s14 (zrf a0 0) 2 fun v15 =>
        if ¬ v15 = 0 then
          zrb 0 s14
        else
          zrb 1 s14
      else
        zrb 0 s6
  else
    zrb 0 s2
-- PaperParcels.emit(II)I
noncomputable def zf115_23 (a0 : Nat)  (x2 : Int32) (a3 : Nat) (s : zS) : Option (am_O × zS × Nat) :=
  zgf s a3 6 fun v1 =>
  if ¬ v1 = 0 then
    zbi (zf116 (zrf a0 4) a3 x2 s) fun v2 s3 =>
    if ¬ v2 = 0 then
      zbv (zf15 (zrf a0 0) s3) fun s5 =>
      zbv (zf144 (zrf a0 0) (zrf (zrf a0 4) 0) s5) fun s7 =>
      zgf s7 (zrf a0 0) 1 fun v8 =>
      some (.inl (some (.int v8)), s7, 0)
    else
      some (.inr (hx_E 3), s3, 1)
  else
    some (.inr (hx_E 2), s, 1)
noncomputable def zf115 (a0 : Nat) (x1 : Int32) (x2 : Int32) (s : zS) : Option (am_O × zS × Nat) :=
  zxr 2 (zf83 a0 x1 s) fun q3 s2 =>
  if x2 = 0 then
    zf115_23 a0 x2 q3 s2
  else
    if x2 = 1 then
      zf115_23 a0 x2 q3 s2
    else
      some (.inr (hx_E 0), s2, 1)

/-! The cells as numbers: every object and array that there is was made at the start; what changes are ints in them. A state is a function: place, number of the field or element, int (the tables printed by wip/gen/fshape.py). -/
abbrev zS : Type := Nat → Nat → Int32
def zw (s : zS) (k f : Nat) (x : Int32) : zS := fun q j => if q = k ∧ j = f then x else s q j
/-- of each place the class (100 int[], 101 boolean[], 102 long[], 103 Paper[], 104 int[][]) -/
def zshL : List Nat := [0, 1, 100, 103, 2, 100, 100, 100, 100, 100, 1, 100, 2, 100, 100, 100, 100, 100, 1, 100, 2, 100, 100, 100, 100, 100, 1, 100, 3, 2, 100, 100, 100, 100, 100, 1, 100, 4, 1, 100, 4, 1, 100, 5, 100, 100, 100, 100, 100, 100, 100, 100, 5, 100, 100, 100, 100, 100, 100, 100, 100, 6, 100, 100, 100, 100, 7, 100, 100, 8, 9, 100, 100, 100, 100, 9, 100, 100, 100, 100, 100, 100, 100, 100, 104, 100, 100, 100, 100, 100, 100, 100, 100, 100, 100, 100, 100, 100, 100, 100, 100, 100, 100, 100, 100, 100, 100, 100, 100, 100, 100, 100, 100, 100, 100, 100, 100, 100, 100, 100, 100, 100, 100, 100, 100, 104, 100, 100, 100, 100, 100, 100, 100, 100, 100, 100, 100, 100, 100, 100, 100, 100, 100, 100, 100, 100, 100, 100, 100, 100, 100, 100, 100, 100, 100, 100, 100, 100, 100, 100, 100, 100, 100, 100, 100, 100, 100, 100, 100, 10, 1, 100, 1, 100, 1, 100, 1, 100, 100, 11, 100, 100, 100, 100, 100, 100, 100, 100, 100, 100, 100, 100, 101, 100, 100, 100, 100, 100, 100, 100, 100, 100, 100, 100, 100, 100, 100, 100, 100, 100, 100, 100, 100, 100, 100, 100, 100, 101, 100, 100, 100, 100, 100, 100, 100, 102]
/-- the arrays' lengths -/
def zcaL : List Nat := [0, 0, 480, 3, 0, 40, 40, 40, 40, 40, 0, 300, 0, 40, 40, 40, 40, 40, 0, 300, 0, 80, 80, 80, 80, 80, 0, 600, 0, 0, 40, 40, 40, 40, 40, 0, 300, 0, 0, 300, 0, 0, 300, 0, 30, 30, 30, 30, 30, 60, 60, 300, 0, 30, 30, 30, 30, 30, 60, 60, 300, 0, 26, 26, 26, 26, 0, 30, 30, 0, 0, 40, 40, 40, 41, 0, 40, 40, 40, 41, 80, 80, 80, 80, 40, 40, 40, 40, 40, 40, 40, 40, 40, 40, 40, 40, 40, 40, 40, 40, 40, 40, 40, 40, 40, 40, 40, 40, 40, 40, 40, 40, 40, 40, 40, 40, 40, 40, 40, 40, 40, 40, 40, 40, 40, 41, 41, 41, 41, 41, 41, 41, 41, 41, 41, 41, 41, 41, 41, 41, 41, 41, 41, 41, 41, 41, 41, 41, 41, 41, 41, 41, 41, 41, 41, 41, 41, 41, 41, 41, 41, 41, 41, 41, 41, 41, 41, 40, 40, 0, 0, 480, 0, 300, 0, 300, 0, 300, 26, 0, 480, 2, 2, 2, 600, 2, 2, 60, 60, 60, 600, 8, 26, 26, 78, 4, 400, 400, 1200, 400, 400, 4, 2800, 30, 120, 120, 120, 120, 200, 1600, 40, 40, 1681, 16, 16, 16, 16, 40, 40, 40, 4800, 2, 600, 2, 240, 1]
/-- where the fields lead -/
def zrfL : List (List Nat) := [[1, 3, 28, 69, 169], [2, 0, 0], [], [], [5, 6, 7, 8, 9, 10, 0], [], [], [], [], [], [11, 0, 0], [], [13, 14, 15, 16, 17, 18, 0], [], [], [], [], [], [19, 0, 0], [], [21, 22, 23, 24, 25, 26, 0], [], [], [], [], [], [27, 0, 0], [], [29, 0, 37, 40, 43, 52, 61, 66], [30, 31, 32, 33, 34, 35, 0], [], [], [], [], [], [36, 0, 0], [], [0, 38, 0, 0, 0], [39, 0, 0], [], [0, 41, 0, 0, 0], [42, 0, 0], [], [38, 44, 45, 46, 47, 48, 0, 49, 50, 0, 51, 0, 0, 0], [], [], [], [], [], [], [], [], [41, 53, 54, 55, 56, 57, 0, 58, 59, 0, 60, 0, 0, 0], [], [], [], [], [], [], [], [], [43, 52, 62, 63, 64, 65], [], [], [], [], [52, 61, 29, 67, 68, 0], [], [], [0, 0, 80, 81, 82, 83, 70, 75, 20, 84, 125, 167, 168, 0], [4, 71, 72, 73, 74], [], [], [], [], [12, 76, 77, 78, 79], [], [], [], [], [], [], [], [], [], [], [], [], [], [], [], [], [], [], [], [], [], [], [], [], [], [], [], [], [], [], [], [], [], [], [], [], [], [], [], [], [], [], [], [], [], [], [], [], [], [], [], [], [], [], [], [], [], [], [], [], [], [], [], [], [], [], [], [], [], [], [], [], [], [], [], [], [], [], [], [], [], [], [], [], [], [], [], [], [], [], [], [], [], [170, 172, 174, 176, 178, 0], [171, 0, 0], [], [173, 0, 0], [], [175, 0, 0], [], [177, 0, 0], [], [], [0, 180, 0, 0, 181, 182, 183, 184, 185, 186, 187, 188, 189, 190, 191, 0, 0, 0, 0, 192, 193, 194, 195, 196, 197, 198, 199, 200, 201, 202, 203, 0, 0, 204, 205, 206, 207, 208, 209, 210, 211, 0, 0, 212, 213, 214, 215, 216, 217, 218, 219, 220, 221, 222, 223, 224, 0], [], [], [], [], [], [], [], [], [], [], [], [], [], [], [], [], [], [], [], [], [], [], [], [], [], [], [], [], [], [], [], [], [], [], [], [], [], [], [], [], [], [], [], [], [], []]
/-- what the fields of a class are (200: an int) -/
def zftL : List (List Nat) := [[1, 103, 3, 8, 10], [100, 200, 200], [100, 100, 100, 100, 100, 1, 200], [2, 200, 4, 4, 5, 5, 6, 7], [200, 1, 200, 200, 200], [1, 100, 100, 100, 100, 100, 200, 100, 100, 200, 100, 200, 200, 200], [5, 5, 100, 100, 100, 100], [5, 6, 2, 100, 100, 200], [200, 200, 100, 100, 100, 100, 9, 9, 2, 104, 104, 100, 100, 200], [2, 100, 100, 100, 100], [1, 1, 1, 1, 100, 200], [200, 100, 200, 200, 100, 100, 100, 100, 100, 100, 100, 100, 100, 100, 100, 200, 200, 200, 200, 101, 100, 100, 100, 100, 100, 100, 100, 100, 100, 100, 100, 200, 200, 100, 100, 100, 100, 100, 100, 100, 100, 200, 200, 100, 100, 100, 100, 100, 101, 100, 100, 100, 100, 100, 100, 100, 200]]
def zsh (k : Nat) : Nat := zshL.getD k 99
def zca (k : Nat) : Nat := zcaL.getD k 0
def zrf (k f : Nat) : Nat := (zrfL.getD k []).getD f 0
def zft (ci f : Nat) : Nat := (zftL.getD ci []).getD f 999
def znf (ci : Nat) : Nat := (zftL.getD ci []).length
def zrg (k : Nat) : Nat → Option Nat := if k = 3 then va_up (va_up (va_up (fun _ => none) 0 (some 4)) 1 (some 12)) 2 (some 20) else if k = 84 then (fun i => if i < 40 then some (84 + 1 + i) else none) else (fun i => if i < 41 then some (125 + 1 + i) else none)
def zra (k j : Nat) : Nat := (zrg k j).getD 0
def zfs (r : Nat → Int32) (k ci : Nat) : List Value := (List.range (znf ci)).map fun f => if zft ci f = 200 then .int (r f) else .ref (zrf k f)
def zcell (lg : Nat → Int64) (r : Nat → Int32) (k : Nat) : va_E :=
  if zsh k = 100 then .inl (0, zca k, .inl r) else if zsh k = 101 then .inl (1, zca k, .inl r) else if zsh k = 102 then .inl (2, 1, .inr (.inl lg)) else if zsh k = 103 then .inl (3, zca k, .inr (.inr (.inr (.inr (zrg k))))) else if zsh k = 104 then .inl (4, zca k, .inr (.inr (.inr (.inr (zrg k))))) else .inr (zsh k, zfs r k (zsh k))
def zmk (lg : Nat → Int64) (s : zS) : List va_E := (List.range 226).map fun k => zcell lg (s k) k
/-- the ints at the start -/
def zs0 : zS := fun k => match k with
  | 28 => fun f => if f = 1 then (-1) else 0
  | 37 => fun f => if f = 0 then 83 else 0
  | 40 => fun f => if f = 0 then 67 else 0
  | 179 => fun f => if f = 3 then (-1) else 0
  | _ => fun _ => 0
set_option maxRecDepth 100000
def zl_0 : List va_E := [.inr (0, [.ref 1, .ref 3, .ref 28, .ref 69, .ref 169]), .inr (1, [.ref 2, .int 0, .int 0]), .inl (0, 480, .inl (fun _ => 0)), .inl (3, 3, .inr (.inr (.inr (.inr (va_up (va_up (va_up (fun _ => none) 0 (some 4)) 1 (some 12)) 2 (some 20)))))), .inr (2, [.ref 5, .ref 6, .ref 7, .ref 8, .ref 9, .ref 10, .int 0]), .inl (0, 40, .inl (fun _ => 0)), .inl (0, 40, .inl (fun _ => 0)), .inl (0, 40, .inl (fun _ => 0)), .inl (0, 40, .inl (fun _ => 0)), .inl (0, 40, .inl (fun _ => 0))]
theorem zp_0 : (List.range' 0 10).map (fun k => zcell (fun _ => 0) (zs0 k) k) = zl_0 := rfl
def zl_1 : List va_E := [.inr (1, [.ref 11, .int 0, .int 0]), .inl (0, 300, .inl (fun _ => 0)), .inr (2, [.ref 13, .ref 14, .ref 15, .ref 16, .ref 17, .ref 18, .int 0]), .inl (0, 40, .inl (fun _ => 0)), .inl (0, 40, .inl (fun _ => 0)), .inl (0, 40, .inl (fun _ => 0)), .inl (0, 40, .inl (fun _ => 0)), .inl (0, 40, .inl (fun _ => 0)), .inr (1, [.ref 19, .int 0, .int 0]), .inl (0, 300, .inl (fun _ => 0))]
theorem zp_1 : (List.range' 10 10).map (fun k => zcell (fun _ => 0) (zs0 k) k) = zl_1 := rfl
def zl_2 : List va_E := [.inr (2, [.ref 21, .ref 22, .ref 23, .ref 24, .ref 25, .ref 26, .int 0]), .inl (0, 80, .inl (fun _ => 0)), .inl (0, 80, .inl (fun _ => 0)), .inl (0, 80, .inl (fun _ => 0)), .inl (0, 80, .inl (fun _ => 0)), .inl (0, 80, .inl (fun _ => 0)), .inr (1, [.ref 27, .int 0, .int 0]), .inl (0, 600, .inl (fun _ => 0)), .inr (3, [.ref 29, .int (-1), .ref 37, .ref 40, .ref 43, .ref 52, .ref 61, .ref 66]), .inr (2, [.ref 30, .ref 31, .ref 32, .ref 33, .ref 34, .ref 35, .int 0])]
theorem zp_2 : (List.range' 20 10).map (fun k => zcell (fun _ => 0) (zs0 k) k) = zl_2 := rfl
def zl_3 : List va_E := [.inl (0, 40, .inl (fun _ => 0)), .inl (0, 40, .inl (fun _ => 0)), .inl (0, 40, .inl (fun _ => 0)), .inl (0, 40, .inl (fun _ => 0)), .inl (0, 40, .inl (fun _ => 0)), .inr (1, [.ref 36, .int 0, .int 0]), .inl (0, 300, .inl (fun _ => 0)), .inr (4, [.int 83, .ref 38, .int 0, .int 0, .int 0]), .inr (1, [.ref 39, .int 0, .int 0]), .inl (0, 300, .inl (fun _ => 0))]
theorem zp_3 : (List.range' 30 10).map (fun k => zcell (fun _ => 0) (zs0 k) k) = zl_3 := rfl
def zl_4 : List va_E := [.inr (4, [.int 67, .ref 41, .int 0, .int 0, .int 0]), .inr (1, [.ref 42, .int 0, .int 0]), .inl (0, 300, .inl (fun _ => 0)), .inr (5, [.ref 38, .ref 44, .ref 45, .ref 46, .ref 47, .ref 48, .int 0, .ref 49, .ref 50, .int 0, .ref 51, .int 0, .int 0, .int 0]), .inl (0, 30, .inl (fun _ => 0)), .inl (0, 30, .inl (fun _ => 0)), .inl (0, 30, .inl (fun _ => 0)), .inl (0, 30, .inl (fun _ => 0)), .inl (0, 30, .inl (fun _ => 0)), .inl (0, 60, .inl (fun _ => 0))]
theorem zp_4 : (List.range' 40 10).map (fun k => zcell (fun _ => 0) (zs0 k) k) = zl_4 := rfl
def zl_5 : List va_E := [.inl (0, 60, .inl (fun _ => 0)), .inl (0, 300, .inl (fun _ => 0)), .inr (5, [.ref 41, .ref 53, .ref 54, .ref 55, .ref 56, .ref 57, .int 0, .ref 58, .ref 59, .int 0, .ref 60, .int 0, .int 0, .int 0]), .inl (0, 30, .inl (fun _ => 0)), .inl (0, 30, .inl (fun _ => 0)), .inl (0, 30, .inl (fun _ => 0)), .inl (0, 30, .inl (fun _ => 0)), .inl (0, 30, .inl (fun _ => 0)), .inl (0, 60, .inl (fun _ => 0)), .inl (0, 60, .inl (fun _ => 0))]
theorem zp_5 : (List.range' 50 10).map (fun k => zcell (fun _ => 0) (zs0 k) k) = zl_5 := rfl
def zl_6 : List va_E := [.inl (0, 300, .inl (fun _ => 0)), .inr (6, [.ref 43, .ref 52, .ref 62, .ref 63, .ref 64, .ref 65]), .inl (0, 26, .inl (fun _ => 0)), .inl (0, 26, .inl (fun _ => 0)), .inl (0, 26, .inl (fun _ => 0)), .inl (0, 26, .inl (fun _ => 0)), .inr (7, [.ref 52, .ref 61, .ref 29, .ref 67, .ref 68, .int 0]), .inl (0, 30, .inl (fun _ => 0)), .inl (0, 30, .inl (fun _ => 0)), .inr (8, [.int 0, .int 0, .ref 80, .ref 81, .ref 82, .ref 83, .ref 70, .ref 75, .ref 20, .ref 84, .ref 125, .ref 167, .ref 168, .int 0])]
theorem zp_6 : (List.range' 60 10).map (fun k => zcell (fun _ => 0) (zs0 k) k) = zl_6 := rfl
def zl_7 : List va_E := [.inr (9, [.ref 4, .ref 71, .ref 72, .ref 73, .ref 74]), .inl (0, 40, .inl (fun _ => 0)), .inl (0, 40, .inl (fun _ => 0)), .inl (0, 40, .inl (fun _ => 0)), .inl (0, 41, .inl (fun _ => 0)), .inr (9, [.ref 12, .ref 76, .ref 77, .ref 78, .ref 79]), .inl (0, 40, .inl (fun _ => 0)), .inl (0, 40, .inl (fun _ => 0)), .inl (0, 40, .inl (fun _ => 0)), .inl (0, 41, .inl (fun _ => 0))]
theorem zp_7 : (List.range' 70 10).map (fun k => zcell (fun _ => 0) (zs0 k) k) = zl_7 := rfl
def zl_8 : List va_E := [.inl (0, 80, .inl (fun _ => 0)), .inl (0, 80, .inl (fun _ => 0)), .inl (0, 80, .inl (fun _ => 0)), .inl (0, 80, .inl (fun _ => 0)), .inl (4, 40, .inr (.inr (.inr (.inr (fun i => if i < 40 then some (84 + 1 + i) else none))))), .inl (0, 40, .inl (fun _ => 0)), .inl (0, 40, .inl (fun _ => 0)), .inl (0, 40, .inl (fun _ => 0)), .inl (0, 40, .inl (fun _ => 0)), .inl (0, 40, .inl (fun _ => 0))]
theorem zp_8 : (List.range' 80 10).map (fun k => zcell (fun _ => 0) (zs0 k) k) = zl_8 := rfl
def zl_9 : List va_E := [.inl (0, 40, .inl (fun _ => 0)), .inl (0, 40, .inl (fun _ => 0)), .inl (0, 40, .inl (fun _ => 0)), .inl (0, 40, .inl (fun _ => 0)), .inl (0, 40, .inl (fun _ => 0)), .inl (0, 40, .inl (fun _ => 0)), .inl (0, 40, .inl (fun _ => 0)), .inl (0, 40, .inl (fun _ => 0)), .inl (0, 40, .inl (fun _ => 0)), .inl (0, 40, .inl (fun _ => 0))]
theorem zp_9 : (List.range' 90 10).map (fun k => zcell (fun _ => 0) (zs0 k) k) = zl_9 := rfl
def zl_10 : List va_E := [.inl (0, 40, .inl (fun _ => 0)), .inl (0, 40, .inl (fun _ => 0)), .inl (0, 40, .inl (fun _ => 0)), .inl (0, 40, .inl (fun _ => 0)), .inl (0, 40, .inl (fun _ => 0)), .inl (0, 40, .inl (fun _ => 0)), .inl (0, 40, .inl (fun _ => 0)), .inl (0, 40, .inl (fun _ => 0)), .inl (0, 40, .inl (fun _ => 0)), .inl (0, 40, .inl (fun _ => 0))]
theorem zp_10 : (List.range' 100 10).map (fun k => zcell (fun _ => 0) (zs0 k) k) = zl_10 := rfl
def zl_11 : List va_E := [.inl (0, 40, .inl (fun _ => 0)), .inl (0, 40, .inl (fun _ => 0)), .inl (0, 40, .inl (fun _ => 0)), .inl (0, 40, .inl (fun _ => 0)), .inl (0, 40, .inl (fun _ => 0)), .inl (0, 40, .inl (fun _ => 0)), .inl (0, 40, .inl (fun _ => 0)), .inl (0, 40, .inl (fun _ => 0)), .inl (0, 40, .inl (fun _ => 0)), .inl (0, 40, .inl (fun _ => 0))]
theorem zp_11 : (List.range' 110 10).map (fun k => zcell (fun _ => 0) (zs0 k) k) = zl_11 := rfl
def zl_12 : List va_E := [.inl (0, 40, .inl (fun _ => 0)), .inl (0, 40, .inl (fun _ => 0)), .inl (0, 40, .inl (fun _ => 0)), .inl (0, 40, .inl (fun _ => 0)), .inl (0, 40, .inl (fun _ => 0)), .inl (4, 41, .inr (.inr (.inr (.inr (fun i => if i < 41 then some (125 + 1 + i) else none))))), .inl (0, 41, .inl (fun _ => 0)), .inl (0, 41, .inl (fun _ => 0)), .inl (0, 41, .inl (fun _ => 0)), .inl (0, 41, .inl (fun _ => 0))]
theorem zp_12 : (List.range' 120 10).map (fun k => zcell (fun _ => 0) (zs0 k) k) = zl_12 := rfl
def zl_13 : List va_E := [.inl (0, 41, .inl (fun _ => 0)), .inl (0, 41, .inl (fun _ => 0)), .inl (0, 41, .inl (fun _ => 0)), .inl (0, 41, .inl (fun _ => 0)), .inl (0, 41, .inl (fun _ => 0)), .inl (0, 41, .inl (fun _ => 0)), .inl (0, 41, .inl (fun _ => 0)), .inl (0, 41, .inl (fun _ => 0)), .inl (0, 41, .inl (fun _ => 0)), .inl (0, 41, .inl (fun _ => 0))]
theorem zp_13 : (List.range' 130 10).map (fun k => zcell (fun _ => 0) (zs0 k) k) = zl_13 := rfl
def zl_14 : List va_E := [.inl (0, 41, .inl (fun _ => 0)), .inl (0, 41, .inl (fun _ => 0)), .inl (0, 41, .inl (fun _ => 0)), .inl (0, 41, .inl (fun _ => 0)), .inl (0, 41, .inl (fun _ => 0)), .inl (0, 41, .inl (fun _ => 0)), .inl (0, 41, .inl (fun _ => 0)), .inl (0, 41, .inl (fun _ => 0)), .inl (0, 41, .inl (fun _ => 0)), .inl (0, 41, .inl (fun _ => 0))]
theorem zp_14 : (List.range' 140 10).map (fun k => zcell (fun _ => 0) (zs0 k) k) = zl_14 := rfl
def zl_15 : List va_E := [.inl (0, 41, .inl (fun _ => 0)), .inl (0, 41, .inl (fun _ => 0)), .inl (0, 41, .inl (fun _ => 0)), .inl (0, 41, .inl (fun _ => 0)), .inl (0, 41, .inl (fun _ => 0)), .inl (0, 41, .inl (fun _ => 0)), .inl (0, 41, .inl (fun _ => 0)), .inl (0, 41, .inl (fun _ => 0)), .inl (0, 41, .inl (fun _ => 0)), .inl (0, 41, .inl (fun _ => 0))]
theorem zp_15 : (List.range' 150 10).map (fun k => zcell (fun _ => 0) (zs0 k) k) = zl_15 := rfl
def zl_16 : List va_E := [.inl (0, 41, .inl (fun _ => 0)), .inl (0, 41, .inl (fun _ => 0)), .inl (0, 41, .inl (fun _ => 0)), .inl (0, 41, .inl (fun _ => 0)), .inl (0, 41, .inl (fun _ => 0)), .inl (0, 41, .inl (fun _ => 0)), .inl (0, 41, .inl (fun _ => 0)), .inl (0, 40, .inl (fun _ => 0)), .inl (0, 40, .inl (fun _ => 0)), .inr (10, [.ref 170, .ref 172, .ref 174, .ref 176, .ref 178, .int 0])]
theorem zp_16 : (List.range' 160 10).map (fun k => zcell (fun _ => 0) (zs0 k) k) = zl_16 := rfl
def zl_17 : List va_E := [.inr (1, [.ref 171, .int 0, .int 0]), .inl (0, 480, .inl (fun _ => 0)), .inr (1, [.ref 173, .int 0, .int 0]), .inl (0, 300, .inl (fun _ => 0)), .inr (1, [.ref 175, .int 0, .int 0]), .inl (0, 300, .inl (fun _ => 0)), .inr (1, [.ref 177, .int 0, .int 0]), .inl (0, 300, .inl (fun _ => 0)), .inl (0, 26, .inl (fun _ => 0)), .inr (11, [.int 0, .ref 180, .int 0, .int (-1), .ref 181, .ref 182, .ref 183, .ref 184, .ref 185, .ref 186, .ref 187, .ref 188, .ref 189, .ref 190, .ref 191, .int 0, .int 0, .int 0, .int 0, .ref 192, .ref 193, .ref 194, .ref 195, .ref 196, .ref 197, .ref 198, .ref 199, .ref 200, .ref 201, .ref 202, .ref 203, .int 0, .int 0, .ref 204, .ref 205, .ref 206, .ref 207, .ref 208, .ref 209, .ref 210, .ref 211, .int 0, .int 0, .ref 212, .ref 213, .ref 214, .ref 215, .ref 216, .ref 217, .ref 218, .ref 219, .ref 220, .ref 221, .ref 222, .ref 223, .ref 224, .int 0])]
theorem zp_17 : (List.range' 170 10).map (fun k => zcell (fun _ => 0) (zs0 k) k) = zl_17 := rfl
def zl_18 : List va_E := [.inl (0, 480, .inl (fun _ => 0)), .inl (0, 2, .inl (fun _ => 0)), .inl (0, 2, .inl (fun _ => 0)), .inl (0, 2, .inl (fun _ => 0)), .inl (0, 600, .inl (fun _ => 0)), .inl (0, 2, .inl (fun _ => 0)), .inl (0, 2, .inl (fun _ => 0)), .inl (0, 60, .inl (fun _ => 0)), .inl (0, 60, .inl (fun _ => 0)), .inl (0, 60, .inl (fun _ => 0))]
theorem zp_18 : (List.range' 180 10).map (fun k => zcell (fun _ => 0) (zs0 k) k) = zl_18 := rfl
def zl_19 : List va_E := [.inl (0, 600, .inl (fun _ => 0)), .inl (0, 8, .inl (fun _ => 0)), .inl (1, 26, .inl (fun _ => 0)), .inl (0, 26, .inl (fun _ => 0)), .inl (0, 78, .inl (fun _ => 0)), .inl (0, 4, .inl (fun _ => 0)), .inl (0, 400, .inl (fun _ => 0)), .inl (0, 400, .inl (fun _ => 0)), .inl (0, 1200, .inl (fun _ => 0)), .inl (0, 400, .inl (fun _ => 0))]
theorem zp_19 : (List.range' 190 10).map (fun k => zcell (fun _ => 0) (zs0 k) k) = zl_19 := rfl
def zl_20 : List va_E := [.inl (0, 400, .inl (fun _ => 0)), .inl (0, 4, .inl (fun _ => 0)), .inl (0, 2800, .inl (fun _ => 0)), .inl (0, 30, .inl (fun _ => 0)), .inl (0, 120, .inl (fun _ => 0)), .inl (0, 120, .inl (fun _ => 0)), .inl (0, 120, .inl (fun _ => 0)), .inl (0, 120, .inl (fun _ => 0)), .inl (0, 200, .inl (fun _ => 0)), .inl (0, 1600, .inl (fun _ => 0))]
theorem zp_20 : (List.range' 200 10).map (fun k => zcell (fun _ => 0) (zs0 k) k) = zl_20 := rfl
def zl_21 : List va_E := [.inl (0, 40, .inl (fun _ => 0)), .inl (0, 40, .inl (fun _ => 0)), .inl (0, 1681, .inl (fun _ => 0)), .inl (0, 16, .inl (fun _ => 0)), .inl (0, 16, .inl (fun _ => 0)), .inl (0, 16, .inl (fun _ => 0)), .inl (0, 16, .inl (fun _ => 0)), .inl (1, 40, .inl (fun _ => 0)), .inl (0, 40, .inl (fun _ => 0)), .inl (0, 40, .inl (fun _ => 0))]
theorem zp_21 : (List.range' 210 10).map (fun k => zcell (fun _ => 0) (zs0 k) k) = zl_21 := rfl
def zl_22 : List va_E := [.inl (0, 4800, .inl (fun _ => 0)), .inl (0, 2, .inl (fun _ => 0)), .inl (0, 600, .inl (fun _ => 0)), .inl (0, 2, .inl (fun _ => 0)), .inl (0, 240, .inl (fun _ => 0)), .inl (2, 1, .inr (.inl (fun _ => 0)))]
theorem zp_22 : (List.range' 220 6).map (fun k => zcell (fun _ => 0) (zs0 k) k) = zl_22 := rfl
theorem zhp : hp_0 = zl_0 ++ (zl_1 ++ (zl_2 ++ (zl_3 ++ (zl_4 ++ (zl_5 ++ (zl_6 ++ (zl_7 ++ (zl_8 ++ (zl_9 ++ (zl_10 ++ (zl_11 ++ (zl_12 ++ (zl_13 ++ (zl_14 ++ (zl_15 ++ (zl_16 ++ (zl_17 ++ (zl_18 ++ (zl_19 ++ (zl_20 ++ (zl_21 ++ (zl_22)))))))))))))))))))))) := rfl
theorem zrg_all : List.range 226 = List.range' 0 10 ++ (List.range' 10 10 ++ (List.range' 20 10 ++ (List.range' 30 10 ++ (List.range' 40 10 ++ (List.range' 50 10 ++ (List.range' 60 10 ++ (List.range' 70 10 ++ (List.range' 80 10 ++ (List.range' 90 10 ++ (List.range' 100 10 ++ (List.range' 110 10 ++ (List.range' 120 10 ++ (List.range' 130 10 ++ (List.range' 140 10 ++ (List.range' 150 10 ++ (List.range' 160 10 ++ (List.range' 170 10 ++ (List.range' 180 10 ++ (List.range' 190 10 ++ (List.range' 200 10 ++ (List.range' 210 10 ++ (List.range' 220 6)))))))))))))))))))))) := by decide +kernel
theorem zmk_0 : zmk (fun _ => 0) zs0 = hp_0 := by
  rw [zhp, zmk, zrg_all]
  simp only [List.map_append, zp_0, zp_1, zp_2, zp_3, zp_4, zp_5, zp_6, zp_7, zp_8, zp_9, zp_10, zp_11, zp_12, zp_13, zp_14, zp_15, zp_16, zp_17, zp_18, zp_19, zp_20, zp_21, zp_22]
theorem zshL_len : zshL.length = 226 := rfl
theorem zmk_len {lg : Nat → Int64} {s : zS} : (zmk lg s).length = 226 := by
  unfold zmk
  rw [List.length_map, List.length_range]
theorem zlen_le {lg : Nat → Int64} {s : zS} : (zmk lg s).length ≤ 1000000 := by
  rw [zmk_len]
  exact Nat.le_of_ble_eq_true rfl
theorem zmk_get {lg : Nat → Int64} {s : zS} {k : Nat} (hk : k < 226) : (zmk lg s)[k]? = some (zcell lg (s k) k) := by
  unfold zmk
  rw [List.getElem?_map, List.getElem?_range hk]
  rfl
theorem zsh_lt {k : Nat} (hk : zsh k ≠ 99) : k < 226 := by
  refine Nat.lt_of_not_le (fun h => hk ?_)
  unfold zsh
  rw [List.getD_eq_getElem?_getD, List.getElem?_eq_none (by rw [zshL_len]; exact h)]
  rfl
theorem zw_ne {s : zS} {k f q : Nat} {x : Int32} (h : q ≠ k) : zw s k f x q = s q := by
  funext j
  unfold zw
  rw [if_neg (fun e => h e.1)]
/-- a change of one cell -/
theorem zmk_set {lg : Nat → Int64} {s : zS} {k f : Nat} {x : Int32} {e : va_E} (hk : k < 226) (he : zcell lg (zw s k f x k) k = e) : (zmk lg s).set k e = zmk lg (zw s k f x) := by
  refine List.ext_getElem? (fun q => ?_)
  by_cases hq : q = k
  · subst hq
    rw [List.getElem?_set_self (by rw [zmk_len]; exact hk), zmk_get hk, he]
  · rw [List.getElem?_set_ne (fun e => hq e.symm)]
    by_cases hq2 : q < 226
    · rw [zmk_get hq2, zmk_get hq2, zw_ne hq]
    · rw [List.getElem?_eq_none (by rw [zmk_len]; omega), List.getElem?_eq_none (by rw [zmk_len]; omega)]
/-- objects -/
def zisI (ci f : Nat) : Bool := zft ci f == 200 && (decide (f < znf ci) && decide (ci < 12))
def zisR (ci f t : Nat) : Bool := zft ci f == t && (!(t == 200) && (decide (f < znf ci) && decide (ci < 12)))
theorem zcell_o {lg : Nat → Int64} {r : Nat → Int32} {k ci : Nat} (hk : zsh k = ci) (hc : ci < 12) : zcell lg r k = .inr (ci, zfs r k ci) := by
  subst hk
  unfold zcell
  rw [if_neg (by omega), if_neg (by omega), if_neg (by omega), if_neg (by omega), if_neg (by omega)]
theorem zget_o {lg : Nat → Int64} {s : zS} {k ci : Nat} (hk : zsh k = ci) (hc : ci < 12) : (zmk lg s)[k]? = some (.inr (ci, zfs (s k) k ci)) := by
  rw [zmk_get (zsh_lt (by omega)), zcell_o hk hc]
theorem zfs_get {r : Nat → Int32} {k ci f : Nat} (hf : f < znf ci) : (zfs r k ci)[f]? = some (if zft ci f = 200 then .int (r f) else .ref (zrf k f)) := by
  unfold zfs
  rw [List.getElem?_map, List.getElem?_range hf]
  rfl
theorem zfs_len {r : Nat → Int32} {k ci : Nat} : (zfs r k ci).length = znf ci := by
  unfold zfs
  rw [List.length_map, List.length_range]
theorem zisI_e {ci f : Nat} (h : zisI ci f = true) : zft ci f = 200 ∧ f < znf ci ∧ ci < 12 := by
  unfold zisI at h
  simpa using h
theorem zisR_e {ci f t : Nat} (h : zisR ci f t = true) : zft ci f = t ∧ t ≠ 200 ∧ f < znf ci ∧ ci < 12 := by
  unfold zisR at h
  simpa using h
theorem zfs_set {s : zS} {k ci f : Nat} {x : Int32} (h : zisI ci f = true) : (zfs (s k) k ci).set f (.int x) = zfs (zw s k f x k) k ci := by
  obtain ⟨h1, h2, h3⟩ := zisI_e h
  refine List.ext_getElem? (fun q => ?_)
  by_cases hq2 : q < znf ci
  · rw [zfs_get hq2]
    by_cases hq : q = f
    · subst hq
      rw [List.getElem?_set_self (by rw [zfs_len]; exact hq2), if_pos h1]
      unfold zw
      rw [if_pos ⟨rfl, rfl⟩]
    · have e1 : zw s k f x k q = s k q := by unfold zw; rw [if_neg (fun e => hq e.2)]
      rw [List.getElem?_set_ne (fun e => hq e.symm), zfs_get hq2, e1]
  · rw [List.getElem?_eq_none (by rw [List.length_set, zfs_len]; omega), List.getElem?_eq_none (by rw [zfs_len]; omega)]
theorem zset_o {lg : Nat → Int64} {s : zS} {k ci f : Nat} {x : Int32} (hk : zsh k = ci) (h : zisI ci f = true) : (zmk lg s).set k (.inr (ci, (zfs (s k) k ci).set f (.int x))) = zmk lg (zw s k f x) := by
  obtain ⟨h1, h2, h3⟩ := zisI_e h
  refine zmk_set (zsh_lt (by omega)) ?_
  rw [zcell_o hk h3, zfs_set h]
theorem zchk : (List.range 226).all (fun k => (List.range (znf (zsh k))).all fun f => zft (zsh k) f == 200 || zsh (zrf k f) == zft (zsh k) f) = true := by decide +kernel
theorem zty {k ci f t : Nat} (hk : zsh k = ci) (h : zisR ci f t = true) : zsh (zrf k f) = t := by
  obtain ⟨h1, h2, h3, h4⟩ := zisR_e h
  have c1 := List.all_eq_true.mp zchk k (List.mem_range.mpr (zsh_lt (by omega)))
  rw [hk] at c1
  have c2 := List.all_eq_true.mp c1 f (List.mem_range.mpr h3)
  rw [h1] at c2
  rcases Bool.or_eq_true_iff.mp c2 with c3 | c3
  · exact absurd (by simpa using c3) h2
  · simpa using c3
/-- arrays -/
theorem zget_a {lg : Nat → Int64} {s : zS} {k : Nat} (hk : zsh k = 100) : (zmk lg s)[k]? = some (.inl (0, zca k, .inl (s k))) := by
  rw [zmk_get (zsh_lt (by omega))]
  unfold zcell
  rw [if_pos hk]
theorem zget_b {lg : Nat → Int64} {s : zS} {k : Nat} (hk : zsh k = 101) : (zmk lg s)[k]? = some (.inl (1, zca k, .inl (s k))) := by
  rw [zmk_get (zsh_lt (by omega))]
  unfold zcell
  rw [if_neg (by omega), if_pos hk]
theorem zupd {s : zS} {k j : Nat} {x : Int32} : upd (s k) j x = zw s k j x k := by
  funext i
  unfold upd zw
  by_cases h : i = j
  · simp [h]
  · simp [h]
theorem zset_a {lg : Nat → Int64} {s : zS} {k j : Nat} {x : Int32} (hk : zsh k = 100) : (zmk lg s).set k (.inl (0, zca k, .inl (upd (s k) j x))) = zmk lg (zw s k j x) := by
  refine zmk_set (zsh_lt (by omega)) ?_
  unfold zcell
  rw [if_pos hk, zupd]
theorem zset_b {lg : Nat → Int64} {s : zS} {k j : Nat} {x : Int32} (hk : zsh k = 101) : (zmk lg s).set k (.inl (1, zca k, .inl (upd (s k) j x))) = zmk lg (zw s k j x) := by
  refine zmk_set (zsh_lt (by omega)) ?_
  unfold zcell
  rw [if_neg (by omega), if_pos hk, zupd]
theorem zget_r {lg : Nat → Int64} {s : zS} {k : Nat} (hk : zsh k = 103 ∨ zsh k = 104) : (zmk lg s)[k]? = some (.inl (zsh k - 100, zca k, .inr (.inr (.inr (.inr (zrg k)))))) := by
  rw [zmk_get (zsh_lt (by omega))]
  unfold zcell
  rcases hk with h | h
  · rw [if_neg (by omega), if_neg (by omega), if_neg (by omega), if_pos h, h]
  · rw [if_neg (by omega), if_neg (by omega), if_neg (by omega), if_neg (by omega), if_pos h, h]
theorem zchr : (List.range 226).all (fun k => !(zsh k == 103) || (List.range (zca k)).all fun j => zrg k j == some (zra k j) && zsh (zra k j) == 2) = true := by decide +kernel
theorem zchr4 : (List.range 226).all (fun k => !(zsh k == 104) || (List.range (zca k)).all fun j => zrg k j == some (zra k j) && zsh (zra k j) == 100) = true := by decide +kernel
theorem zrg_3 {k j : Nat} (hk : zsh k = 103) (hj : j < zca k) : zrg k j = some (zra k j) ∧ zsh (zra k j) = 2 := by
  have c1 := List.all_eq_true.mp zchr k (List.mem_range.mpr (zsh_lt (by omega)))
  rw [hk] at c1
  have c2 : (List.range (zca k)).all (fun j => zrg k j == some (zra k j) && zsh (zra k j) == 2) = true := by simpa using c1
  have c3 := List.all_eq_true.mp c2 j (List.mem_range.mpr hj)
  simpa using c3
theorem zrg_4 {k j : Nat} (hk : zsh k = 104) (hj : j < zca k) : zrg k j = some (zra k j) ∧ zsh (zra k j) = 100 := by
  have c1 := List.all_eq_true.mp zchr4 k (List.mem_range.mpr (zsh_lt (by omega)))
  rw [hk] at c1
  have c2 : (List.range (zca k)).all (fun j => zrg k j == some (zra k j) && zsh (zra k j) == 100) = true := by simpa using c1
  have c3 := List.all_eq_true.mp c2 j (List.mem_range.mpr hj)
  simpa using c3
/-! The pieces of which the methods' functions are made. -/
def zgf {R : Type} (s : zS) (k f : Nat) (c : Int32 → Option R) : Option R := c (s k f)
def zpf {R : Type} (s : zS) (k f : Nat) (x : Int32) (c : zS → Option R) : Option R := c (zw s k f x)
def zpb {R : Type} (s : zS) (k f : Nat) (x : Int32) (c : zS → Option R) : Option R := if x = 0 ∨ x = 1 then c (zw s k f x) else none
def zal {R : Type} (s : zS) (a : Nat) (j : Int32) (c : Int32 → Option R) : Option R := if j < 0 ∨ zca a ≤ j.toNatClampNeg then none else c (s a j.toNatClampNeg)
def zas {R : Type} (s : zS) (a : Nat) (j x : Int32) (c : zS → Option R) : Option R := if j < 0 ∨ zca a ≤ j.toNatClampNeg then none else c (zw s a j.toNatClampNeg x)
def zbs {R : Type} (s : zS) (a : Nat) (j x : Int32) (c : zS → Option R) : Option R := if j < 0 ∨ zca a ≤ j.toNatClampNeg then none else c (zw s a j.toNatClampNeg (vp_nar .boolean x))
def zar {R : Type} (a : Nat) (j : Int32) (c : Nat → Option R) : Option R := if j < 0 ∨ zca a ≤ j.toNatClampNeg then none else c (zra a j.toNatClampNeg)
def zrb (x : Int32) (s : zS) : Option (Int32 × zS) := if x = 0 ∨ x = 1 then some (x, s) else none
def zbi {R : Type} (o : Option (Int32 × zS)) (c : Int32 → zS → Option R) : Option R := match o with
  | none => none
  | some (v, s) => c v s
def zbv {R : Type} (o : Option zS) (c : zS → Option R) : Option R := match o with
  | none => none
  | some s => c s
def zxi (o : Option (am_O × zS × Nat)) (c : Int32 → zS → Option (am_O × zS × Nat)) : Option (am_O × zS × Nat) := match o with
  | some (.inl (some (.int v)), s, 0) => c v s
  | some (.inr E, s, g) => some (.inr E, s, g)
  | _ => none
def zxr (t : Nat) (o : Option (am_O × zS × Nat)) (c : Nat → zS → Option (am_O × zS × Nat)) : Option (am_O × zS × Nat) := match o with
  | some (.inl (some (.ref q)), s, 0) => if zsh q = t then c q s else none
  | some (.inr E, s, g) => some (.inr E, s, g)
  | _ => none
/-- how often a loop may turn -/
noncomputable def zfz : Nat := Classical.choose (⟨10000, rfl⟩ : ∃ n : Nat, n = 10000)
theorem zfz_e : zfz = 10000 := Classical.choose_spec (⟨10000, rfl⟩ : ∃ n : Nat, n = 10000)

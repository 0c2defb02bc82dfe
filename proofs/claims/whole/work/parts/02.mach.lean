/-! THE SMALL MACHINE. A heap is: the kinds of its cells (kind, number of slots), what their slots hold of ints, of longs, of references (by number of the cell). A value is the machine's own, but that '.ref i' is the i-th cell and '.retAddr j' the j-th thing that lay there before (0 the script, j + 1 the j-th text). Kinds: 0 .. 12 an object of that class, 20 int[], 21 long[], 22 boolean[], 23 byte[], 24 Rule[], 25 World[], 26 Moment[]. -/
abbrev xI : Type := Nat × Nat × Nat × Nat × Int32 × Int64 × Nat
abbrev xH : Type := List (Nat × Nat) × (Nat → Nat → Int32) × (Nat → Nat → Int64) × (Nat → Nat → Option Nat)
abbrev xL : Type := List (Nat × Value)
abbrev xF : Type := Nat × xL × List Value × xH
/-- the script's length, its ints; whether the JDK's own formatter is null -/
abbrev xX : Type := Nat × (Nat → Int32) × Bool
def xlk : xL → Nat → Option Value
  | [], _ => none
  | q :: r, i => if q.1 = i then some q.2 else xlk r i
def xst (l : xL) (i : Nat) (v : Value) : xL := (i, v) :: l.filter (fun q => !(q.1 == i) && !(q.1 + 1 == i && q.2.category == 2))
def xst2 (l : xL) (i : Nat) (v : Value) : xL := (i, v) :: l.filter (fun q => !(q.1 == i) && (!(q.1 == i + 1) && !(q.1 + 1 == i && q.2.category == 2)))
def xu {α : Type} (I : Nat → Nat → α) (i k : Nat) (v : α) : Nat → Nat → α := fun j m => if j = i ∧ m = k then v else I j m
def xz {α : Type} (I : Nat → Nat → α) (i : Nat) (v : α) : Nat → Nat → α := fun j m => if j = i then v else I j m
/-- the texts: their bytes -/
def xtx : List (List Int32) := [[115, 101, 97, 32, 32, 32, 116, 114, 97, 105, 110, 32, 103, 114, 111, 117, 110, 100, 119, 101, 108, 108, 32, 32, 116, 111, 119, 110, 32, 32, 115, 104, 105, 112, 32, 32, 115, 116, 111, 114, 109, 32, 103, 111, 32, 32, 32, 32, 105, 102, 32, 32, 32, 32, 102, 105, 108, 108, 32, 32, 111, 114, 32, 32, 32, 32, 97, 110, 100, 32, 32, 32, 110, 111, 116, 32, 32, 32, 99, 101, 108, 108, 32, 32, 100, 97, 121, 32, 32, 32, 119, 97, 116, 101, 114, 32, 116, 97, 110, 107, 32, 32, 104, 101, 105, 103, 104, 116, 98, 97, 99, 107, 32, 32, 111, 110, 32, 32, 32, 32, 112, 114, 105, 99, 101, 32, 112, 97, 105, 100, 32, 32], [115, 101, 97], [116, 114, 97, 105, 110], [103, 114, 111, 117, 110, 100], [119, 101, 108, 108], [116, 111, 119, 110], [115, 104, 105, 112], [115, 116, 111, 114, 109], [103, 111], [102, 105, 108, 108], [99, 101, 108, 108], [100, 97, 121], [119, 97, 116, 101, 114], [116, 97, 110, 107], [104, 101, 105, 103, 104, 116], [98, 97, 99, 107], [111, 110], [112, 114, 105, 99, 101], [112, 97, 105, 100], [105, 102], [110, 111, 116], [97, 110, 100], [111, 114]]
def xlen : List Nat := [132, 3, 5, 6, 4, 4, 4, 5, 2, 4, 4, 3, 5, 4, 6, 4, 2, 5, 4, 2, 3, 3, 2]
def xstr : List (String × Nat × String) := [("DuneRoad$Tape", 69, "sea   train groundwell  town  ship  storm go    if    fill  or    and   not   cell  day   water tank  heightback  on    price paid  "), ("DuneRoadModel", 358, "sea"), ("DuneRoadModel", 360, "train"), ("DuneRoadModel", 362, "ground"), ("DuneRoadModel", 256, "well"), ("DuneRoadModel", 363, "town"), ("DuneRoadModel", 242, "ship"), ("DuneRoadModel", 365, "storm"), ("DuneRoadModel", 414, "go"), ("DuneRoadModel", 416, "fill"), ("DuneRoadModel", 244, "cell"), ("DuneRoadModel", 246, "day"), ("DuneRoadModel", 248, "water"), ("DuneRoadModel", 249, "tank"), ("DuneRoadModel", 250, "height"), ("DuneRoadModel", 252, "back"), ("DuneRoadModel", 254, "on"), ("DuneRoadModel", 258, "price"), ("DuneRoadModel", 259, "paid"), ("DuneRoadModel", 418, "if"), ("DuneRoadModel", 340, "not"), ("DuneRoadModel", 354, "and"), ("DuneRoadModel", 356, "or")]
/-- the tables of the switches: the least key, where each key goes, where the others go -/
abbrev xSwT : Type := Nat → Int × List Nat × Nat
abbrev xSwL : Type := Nat → List (Int × Nat) × Nat
def xswl : List (Int × Nat) → Nat → Int → Nat
  | [], d, _ => d
  | q :: r, d, x => if q.1 = x then q.2 else xswl r d x
def xcmp (x y : Int64) : Int32 := lg_cmp x y
def xsem (X : xX) (SW : xSwT) (SL : xSwL) (op a b e : Nat) (c : Int32) (d : Int64) (nx : Nat) (l : xL) (st : List Value) (h : xH) : Option xF :=
  match op with
  | 0 => match xlk l a with
    | some (.int x) => some (nx, l, .int x :: st, h)
    | _ => none
  | 1 => match xlk l a with
    | some (.ref x) => some (nx, l, .ref x :: st, h)
    | some (.retAddr x) => some (nx, l, .retAddr x :: st, h)
    | some .null => some (nx, l, .null :: st, h)
    | _ => none
  | 2 => match xlk l a with
    | some (.long x) => some (nx, l, .long x :: st, h)
    | _ => none
  | 3 => match st with
    | .int x :: r => some (nx, xst l a (.int x), r, h)
    | _ => none
  | 4 => match st with
    | .ref x :: r => some (nx, xst l a (.ref x), r, h)
    | .retAddr x :: r => some (nx, xst l a (.retAddr x), r, h)
    | .null :: r => some (nx, xst l a .null, r, h)
    | _ => none
  | 5 => match st with
    | .long x :: r => some (nx, xst2 l a (.long x), r, h)
    | _ => none
  | 6 => some (nx, l, .int c :: st, h)
  | 7 => some (nx, l, .long d :: st, h)
  | 8 => match xlk l a with
    | some (.int x) => some (nx, xst l a (.int (x + c)), st, h)
    | _ => none
  | 9 => match st with
    | .int y :: .int x :: r => some (nx, l, .int (x + y) :: r, h)
    | _ => none
  | 10 => match st with
    | .int y :: .int x :: r => some (nx, l, .int (x - y) :: r, h)
    | _ => none
  | 11 => match st with
    | .int y :: .int x :: r => some (nx, l, .int (x * y) :: r, h)
    | _ => none
  | 12 => match st with
    | .int y :: .int x :: r => some (nx, l, .int (x &&& y) :: r, h)
    | _ => none
  | 13 => match st with
    | .int y :: .int x :: r => some (nx, l, .int (x ||| y) :: r, h)
    | _ => none
  | 14 => match st with
    | .int y :: .int x :: r => some (nx, l, .int (x ^^^ y) :: r, h)
    | _ => none
  | 15 => match st with
    | .int y :: .int x :: r => some (nx, l, .int (x <<< (y &&& 31)) :: r, h)
    | _ => none
  | 16 => match st with
    | .int y :: .int x :: r => some (nx, l, .int (x >>> (y &&& 31)) :: r, h)
    | _ => none
  | 17 => match st with
    | .int y :: .int x :: r => some (nx, l, .int ((x.toUInt32 >>> (y.toUInt32 &&& Int32.toUInt32 31)).toInt32) :: r, h)
    | _ => none
  | 18 => match st with
    | .int y :: .int x :: r => if y = 0 then none else some (nx, l, .int (x / y) :: r, h)
    | _ => none
  | 19 => match st with
    | .int y :: .int x :: r => if y = 0 then none else some (nx, l, .int (x - x / y * y) :: r, h)
    | _ => none
  | 20 => match st with
    | .long y :: .long x :: r => some (nx, l, .long (x + y) :: r, h)
    | _ => none
  | 21 => match st with
    | .long y :: .long x :: r => some (nx, l, .long (x - y) :: r, h)
    | _ => none
  | 22 => match st with
    | .long y :: .long x :: r => some (nx, l, .long (x * y) :: r, h)
    | _ => none
  | 23 => match st with
    | .long y :: .long x :: r => some (nx, l, .long (x &&& y) :: r, h)
    | _ => none
  | 24 => match st with
    | .long y :: .long x :: r => some (nx, l, .long (x ||| y) :: r, h)
    | _ => none
  | 25 => match st with
    | .long y :: .long x :: r => if y = 0 then none else some (nx, l, .long (x / y) :: r, h)
    | _ => none
  | 26 => match st with
    | .long y :: .long x :: r => if y = 0 then none else some (nx, l, .long (x - x / y * y) :: r, h)
    | _ => none
  | 27 => match st with
    | .long y :: .long x :: r => some (nx, l, .int (lg_cmp x y) :: r, h)
    | _ => none
  | 28 => match st with
    | .int x :: r => some (nx, l, .long x.toInt64 :: r, h)
    | _ => none
  | 29 => match st with
    | .long x :: r => some (nx, l, .int x.toInt32 :: r, h)
    | _ => none
  | 30 => match st with
    | .int x :: r => some (nx, l, .int x.toInt8.toInt32 :: r, h)
    | _ => none
  | 31 => match st with
    | .int x :: r => some (nx, l, .int x :: .int x :: r, h)
    | .ref x :: r => some (nx, l, .ref x :: .ref x :: r, h)
    | _ => none
  | 32 => match st with
    | .int x :: .ref y :: r => some (nx, l, .int x :: .ref y :: .int x :: .ref y :: r, h)
    | _ => none
  | 33 => match st with
    | .int _ :: r => some (nx, l, r, h)
    | .ref _ :: r => some (nx, l, r, h)
    | _ => none
  | 34 => match st with
    | .int x :: r => if x = 0 then some (a, l, r, h) else some (nx, l, r, h)
    | _ => none
  | 35 => match st with
    | .int x :: r => if x = 0 then some (nx, l, r, h) else some (a, l, r, h)
    | _ => none
  | 36 => match st with
    | .int x :: r => if x < 0 then some (a, l, r, h) else some (nx, l, r, h)
    | _ => none
  | 37 => match st with
    | .int x :: r => if 0 ≤ x then some (a, l, r, h) else some (nx, l, r, h)
    | _ => none
  | 38 => match st with
    | .int x :: r => if 0 < x then some (a, l, r, h) else some (nx, l, r, h)
    | _ => none
  | 39 => match st with
    | .int x :: r => if x ≤ 0 then some (a, l, r, h) else some (nx, l, r, h)
    | _ => none
  | 40 => match st with
    | .int y :: .int x :: r => if x = y then some (a, l, r, h) else some (nx, l, r, h)
    | _ => none
  | 41 => match st with
    | .int y :: .int x :: r => if x = y then some (nx, l, r, h) else some (a, l, r, h)
    | _ => none
  | 42 => match st with
    | .int y :: .int x :: r => if x < y then some (a, l, r, h) else some (nx, l, r, h)
    | _ => none
  | 43 => match st with
    | .int y :: .int x :: r => if y ≤ x then some (a, l, r, h) else some (nx, l, r, h)
    | _ => none
  | 44 => match st with
    | .int y :: .int x :: r => if y < x then some (a, l, r, h) else some (nx, l, r, h)
    | _ => none
  | 45 => match st with
    | .int y :: .int x :: r => if x ≤ y then some (a, l, r, h) else some (nx, l, r, h)
    | _ => none
  | 46 => some (a, l, st, h)
  | 47 => match st with
    | .ref _ :: r => some (a, l, r, h)
    | .null :: r => some (nx, l, r, h)
    | _ => none
  | 48 => match st with
    | .ref i :: r => match h.1[i]? with
      | some (t, _) => if t = b then some (nx, l, .int (h.2.1 i a) :: r, h) else none
      | none => none
    | _ => none
  | 49 => match st with
    | .ref i :: r => match h.1[i]? with
      | some (t, _) => if t = b then some (nx, l, .long (h.2.2.1 i a) :: r, h) else none
      | none => none
    | _ => none
  | 50 => match st with
    | .ref i :: r => match h.1[i]? with
      | some (t, _) => if t = b then some (nx, l, va_rf (h.2.2.2 i a) :: r, h) else none
      | none => none
    | _ => none
  | 51 => match st with
    | .int v :: .ref i :: r => match h.1[i]? with
      | some (t, _) => if t = b then some (nx, l, r, (h.1, xu h.2.1 i a v, h.2.2.1, h.2.2.2)) else none
      | none => none
    | _ => none
  | 52 => match st with
    | .long v :: .ref i :: r => match h.1[i]? with
      | some (t, _) => if t = b then some (nx, l, r, (h.1, h.2.1, xu h.2.2.1 i a v, h.2.2.2)) else none
      | none => none
    | _ => none
  | 53 => match st with
    | .ref v :: .ref i :: r => match h.1[i]? with
      | some (t, _) => if t = b then some (nx, l, r, (h.1, h.2.1, h.2.2.1, xu h.2.2.2 i a (some v))) else none
      | none => none
    | _ => none
  | 54 => match st with
    | .int v :: .ref i :: r => match h.1[i]? with
      | some (t, _) => if t = b ∧ (v = 0 ∨ v = 1) then some (nx, l, r, (h.1, xu h.2.1 i a v, h.2.2.1, h.2.2.2)) else none
      | none => none
    | _ => none
  | 55 => match st with
    | .int j :: .ref i :: r => match h.1[i]? with
      | some (t, n) => if t = 20 ∧ ¬ (j < 0 ∨ n ≤ j.toNatClampNeg) then some (nx, l, .int (h.2.1 i j.toNatClampNeg) :: r, h) else none
      | none => none
    | .int j :: .retAddr 0 :: r => if j < 0 ∨ X.1 ≤ j.toNatClampNeg then none else some (nx, l, .int (X.2.1 j.toNatClampNeg) :: r, h)
    | _ => none
  | 56 => match st with
    | .int j :: .ref i :: r => match h.1[i]? with
      | some (t, n) => if t = 21 ∧ ¬ (j < 0 ∨ n ≤ j.toNatClampNeg) then some (nx, l, .long (h.2.2.1 i j.toNatClampNeg) :: r, h) else none
      | none => none
    | _ => none
  | 57 => match st with
    | .int j :: .ref i :: r => match h.1[i]? with
      | some (t, n) => if (t = 22 ∨ t = 23) ∧ ¬ (j < 0 ∨ n ≤ j.toNatClampNeg) then some (nx, l, .int (h.2.1 i j.toNatClampNeg) :: r, h) else none
      | none => none
    | .int j :: .retAddr q :: r => if (101 ≤ q ∧ q < 124) ∧ ¬ (j < 0 ∨ xlen.getD (q - 101) 0 ≤ j.toNatClampNeg) then some (nx, l, .int ((xtx.getD (q - 101) []).getD j.toNatClampNeg 0) :: r, h) else none
    | _ => none
  | 58 => match st with
    | .int j :: .ref i :: r => match h.1[i]? with
      | some (t, n) => if (24 ≤ t ∧ t ≤ 26) ∧ ¬ (j < 0 ∨ n ≤ j.toNatClampNeg) then some (nx, l, va_rf (h.2.2.2 i j.toNatClampNeg) :: r, h) else none
      | none => none
    | _ => none
  | 59 => match st with
    | .int v :: .int j :: .ref i :: r => match h.1[i]? with
      | some (t, n) => if t = 20 ∧ ¬ (j < 0 ∨ n ≤ j.toNatClampNeg) then some (nx, l, r, (h.1, xu h.2.1 i j.toNatClampNeg v, h.2.2.1, h.2.2.2)) else none
      | none => none
    | _ => none
  | 60 => match st with
    | .long v :: .int j :: .ref i :: r => match h.1[i]? with
      | some (t, n) => if t = 21 ∧ ¬ (j < 0 ∨ n ≤ j.toNatClampNeg) then some (nx, l, r, (h.1, h.2.1, xu h.2.2.1 i j.toNatClampNeg v, h.2.2.2)) else none
      | none => none
    | _ => none
  | 61 => match st with
    | .int v :: .int j :: .ref i :: r => match h.1[i]? with
      | some (t, n) => if t = 23 ∧ ¬ (j < 0 ∨ n ≤ j.toNatClampNeg) then some (nx, l, r, (h.1, xu h.2.1 i j.toNatClampNeg v.toInt8.toInt32, h.2.2.1, h.2.2.2)) else none
      | none => none
    | _ => none
  | 62 => match st with
    | .int v :: .int j :: .ref i :: r => match h.1[i]? with
      | some (t, n) => if (t = 22 ∧ (v = 0 ∨ v = 1)) ∧ ¬ (j < 0 ∨ n ≤ j.toNatClampNeg) then some (nx, l, r, (h.1, xu h.2.1 i j.toNatClampNeg v, h.2.2.1, h.2.2.2)) else none
      | none => none
    | _ => none
  | 63 => match st with
    | .ref v :: .int j :: .ref i :: r => match h.1[i]?, h.1[v]? with
      | some (t, n), some (tv, _) => if (t = 24 ∧ tv = 5 ∨ t = 25 ∧ tv = 10 ∨ t = 26 ∧ tv = 3) ∧ ¬ (j < 0 ∨ n ≤ j.toNatClampNeg) then some (nx, l, r, (h.1, h.2.1, h.2.2.1, xu h.2.2.2 i j.toNatClampNeg (some v))) else none
      | _, _ => none
    | _ => none
  | 64 => match st with
    | .ref i :: r => match h.1[i]? with
      | some (t, n) => if 20 ≤ t ∧ t ≤ 26 then some (nx, l, .int (Int32.ofNat n) :: r, h) else none
      | none => none
    | .retAddr q :: r => if q = 0 then some (nx, l, .int (Int32.ofNat X.1) :: r, h) else if 101 ≤ q ∧ q < 124 then some (nx, l, .int (Int32.ofNat (xlen.getD (q - 101) 0)) :: r, h) else none
    | _ => none
  | 65 => match st with
    | .int j :: r => if j < 0 ∨ 600000 < j.toNatClampNeg then none else some (nx, l, .ref h.1.length :: r, (h.1 ++ [(a, j.toNatClampNeg)], xz h.2.1 h.1.length 0, xz h.2.2.1 h.1.length 0, xz h.2.2.2 h.1.length none))
    | _ => none
  | 66 => match st with
    | .int j :: r => if j < 0 ∨ 600000 < j.toNatClampNeg then none else some (nx, l, .ref h.1.length :: r, (h.1 ++ [(a, j.toNatClampNeg)], xz h.2.1 h.1.length 0, xz h.2.2.1 h.1.length 0, xz h.2.2.2 h.1.length none))
    | _ => none
  | 67 => some (nx, l, .ref h.1.length :: st, (h.1 ++ [(b, a)], xz h.2.1 h.1.length 0, xz h.2.2.1 h.1.length 0, xz h.2.2.2 h.1.length none))
  | 68 => match st with
    | .ref _ :: r => if (r.map fun v => v.category).sum ≤ 8 then some (nx, l, r, h) else none
    | _ => none
  | 69 => match st with
    | .int x :: r => if x.toInt < (SW a).1 ∨ (SW a).1 + (SW a).2.1.length ≤ x.toInt then some ((SW a).2.2, l, r, h) else match (SW a).2.1[(x.toInt - (SW a).1).toNat]? with
      | some t => some (t, l, r, h)
      | none => none
    | _ => none
  | 70 => match st with
    | .int x :: r => some (xswl (SL a).1 (SL a).2 x.toInt, l, r, h)
    | _ => none
  | 71 => match st with
    | .int n :: .int dp :: .ref q :: .int sp :: .ref i :: r => match h.1[i]?, h.1[q]? with
      | some (ti, ni), some (tq, nq) => if (ti = 20 ∧ tq = 20) ∧ (¬ sp < 0 ∧ ¬ dp < 0 ∧ ¬ n < 0) ∧ (sp.toNatClampNeg + n.toNatClampNeg ≤ ni ∧ dp.toNatClampNeg + n.toNatClampNeg ≤ nq) ∧ (r.map fun v => v.category).sum ≤ 8 then
          some (nx, l, r, (h.1, (fun j m => if j = q ∧ (dp.toNatClampNeg ≤ m ∧ m < dp.toNatClampNeg + n.toNatClampNeg) then h.2.1 i (sp.toNatClampNeg + (m - dp.toNatClampNeg)) else h.2.1 j m), h.2.2.1, h.2.2.2)) else none
      | _, _ => none
    | _ => none
  | 72 => if a = 0 then some (nx, l, .int 1 :: st, h) else some (nx, l, (if X.2.2 = true then .null else .retAddr 200) :: st, h)
  | 73 => some (nx, l, .retAddr (a + 1) :: st, h)
  | 74 => match st with
    | .retAddr q :: r => if 1 ≤ q ∧ q < 24 then (if a = 0 then some (nx, l, .retAddr (q + 100) :: r, h) else some (nx, l, .int 0 :: r, h)) else none
    | _ => none
  | 75 => match st with
    | .int x :: r => some (nx, l, .int (x.toUInt32 % 65536).toInt32 :: r, h)
    | _ => none
  | 76 => match st with
    | .int y :: .int x :: r => if (r.map fun v => v.category).sum ≤ 8 then some (nx, l, .int (if x < y then y else x) :: r, h) else none
    | _ => none
  | 77 => match st with
    | .int y :: .int x :: r => if (r.map fun v => v.category).sum ≤ 8 then some (nx, l, .int (if y < x then y else x) :: r, h) else none
    | _ => none
  | _ => none
/-- what is called: how many values it takes, its receiver's class, its locals -/
abbrev xM : Type := Nat → Nat × Nat × Nat
def xrcv (M : xM) (op a : Nat) (st : List Value) (h : xH) : Bool :=
  if op = 81 ∨ op = 83 then true
  else match st[(M a).1 - 1]? with
    | some (.retAddr q) => op == 85 && (decide (1 ≤ q) && decide (q < 24))
    | some (.ref j) => if op = 85 then false else if op = 80 then (match h.1[j]? with
      | some t => t.1 == (M a).2.1
      | none => false) else true
    | _ => false
/-- the end of a method: a value, or none -/
def xret (op : Nat) (st : List Value) (h : xH) : Option (Option Value × xH) :=
  match op, st with
  | 90, [.int v] => some (some (.int v), h)
  | 91, [.long v] => some (some (.long v), h)
  | 92, [.ref v] => some (some (.ref v), h)
  | 92, [.retAddr v] => some (some (.retAddr v), h)
  | 92, [.null] => some (some .null, h)
  | 93, [] => some (none, h)
  | 94, [.int v] => if v = 0 ∨ v = 1 then some (some (.int v), h) else none
  | 95, [.int v] => if v.toUInt32.toUInt16.toUInt32.toInt32 = v then some (some (.int v), h) else none
  | 96, [.int v] => if v.toInt8.toInt32 = v then some (some (.int v), h) else none
  | _, _ => none
def xgo (X : xX) (SW : xSwT) (SL : xSwL) (T : Nat → Nat → Option xI) (M : xM) (call : Nat → List Value → xH → Option (Option Value × xH)) : Nat → Nat → xF → Option (Option Value × xH)
  | 0, _, _ => none
  | f + 1, k, F => match T k F.1 with
    | none => none
    | some i => if i.1 < 80 then (match xsem X SW SL i.1 i.2.1 i.2.2.1 i.2.2.2.1 i.2.2.2.2.1 i.2.2.2.2.2.1 i.2.2.2.2.2.2 F.2.1 F.2.2.1 F.2.2.2 with
        | some G => xgo X SW SL T M call f k G
        | none => none)
      else if i.1 < 90 then
        (if (M i.2.1).1 ≤ F.2.2.1.length ∧ ((F.2.2.1.drop (M i.2.1).1).map fun v => v.category).sum ≤ 8 ∧ xrcv M i.1 i.2.1 F.2.2.1 F.2.2.2 = true then
          (match call i.2.1 (F.2.2.1.take (M i.2.1).1).reverse F.2.2.2 with
          | some r => xgo X SW SL T M call f k (i.2.2.2.2.2.2, F.2.1, r.1.toList ++ F.2.2.1.drop (M i.2.1).1, r.2)
          | none => none)
        else none)
      else xret i.1 F.2.2.1 F.2.2.2
def xcall (X : xX) (SW : xSwT) (SL : xSwL) (T : Nat → Nat → Option xI) (M : xM) (f : Nat) : Nat → Nat → List Value → xH → Option (Option Value × xH)
  | 0, _, _, _ => none
  | d + 1, k, as, h => if (lg_sl as).length ≤ (M k).2.2 then xgo X SW SL T M (xcall X SW SL T M f d) f k (0, lv_args 0 as, [], h) else none
def xsum (sh : List (Nat × Nat)) : Nat := (sh.map fun q => q.2).sum
/-- cells and slots never get fewer -/
def xle (h g : xH) : Prop := h.1.length ≤ g.1.length ∧ xsum h.1 ≤ xsum g.1
theorem xle_rf (h : xH) : xle h h := ⟨Nat.le_refl _, Nat.le_refl _⟩
theorem xle_tr {a b c : xH} (h : xle a b) (g : xle b c) : xle a c := ⟨Nat.le_trans h.1 g.1, Nat.le_trans h.2 g.2⟩
theorem xsum_app (a b : List (Nat × Nat)) : xsum (a ++ b) = xsum a + xsum b := by simp [xsum]
theorem xsum_one (q : Nat × Nat) : xsum [q] = q.2 := by simp [xsum]

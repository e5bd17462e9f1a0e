/-! LAYOUT: abstract addresses of the cells of the class's and the reference's objects; what each cell is. -/
/-- kind and size of the cell at an abstract address: kinds 0 .. 6 objects of vwCl, 10 int[], 11 Land[], 12 int[][], 13 boolean[], 20 static int[], 99 none -/
def xLand (a : Nat) : Nat × Nat := match a with
  | 0 => (1, 12)
  | 1 => (10, 10)
  | 2 => (10, 3)
  | 3 => (10, 3)
  | 4 => (10, 3)
  | 5 => (10, 3)
  | 6 => (10, 60)
  | 7 => (10, 600)
  | 8 => (10, 180)
  | _ => (99, 0)
def xModA (a : Nat) : Nat × Nat := match a with
  | 0 => (6, 42)
  | 1 => (10, 6)
  | 3 => (10, 6)
  | 4 => (10, 240)
  | 5 => (10, 40)
  | 6 => (10, 4)
  | 7 => (10, 320)
  | 10 => (10, 10)
  | 11 => (10, 3)
  | 12 => (10, 3)
  | 13 => (10, 3)
  | 14 => (10, 3)
  | 19 => (10, 10)
  | 20 => (10, 3)
  | 21 => (10, 3)
  | 22 => (10, 3)
  | 23 => (10, 14)
  | 25 => (10, 60)
  | 26 => (10, 840)
  | 27 => (10, 2760)
  | 28 => (10, 14)
  | 29 => (10, 10)
  | 30 => (10, 98)
  | 31 => (10, 3)
  | 32 => (10, 3)
  | 40 => (10, 3)
  | _ => (99, 0)
def SH (a : Nat) : Nat × Nat :=
  if a < 10 then (if a = 0 then (5, 11) else if a = 1 then (4, 3) else if a = 2 then (12, 6) else if a = 3 then (10, 6) else (10, 40))
  else if a < 20 then (if a = 10 then (4, 3) else if a = 11 then (12, 4) else if a = 12 then (10, 4) else if a < 17 then (10, 80) else (99, 0))
  else if a < 30 then (if a = 20 then (3, 6) else if a = 21 then (10, 10) else if a < 25 then (10, 3) else (99, 0))
  else if a < 40 then xLand (a - 30)
  else if a < 50 then xLand (a - 40)
  else if a < 60 then xLand (a - 50)
  else if a < 70 then xLand (a - 60)
  else if a < 90 then (if a = 70 then (0, 8) else if a = 71 then (10, 10) else if a = 72 then (10, 10) else if a = 73 then (12, 7) else if a < 81 then (10, 10) else (99, 0))
  else if a < 100 then (if a = 90 then (2, 12) else if a = 91 then (12, 4) else if a < 96 then (10, 10) else if a = 96 then (10, 27) else if a = 97 then (10, 3) else if a = 98 then (10, 10) else (10, 3))
  else if a < 110 then (if a = 100 then (11, 3) else if a = 101 then (13, 3) else if a = 102 then (10, 6) else (99, 0))
  else if a < 200 then (if a < 114 then (20, 6) else (99, 0))
  else if a < 250 then xModA (a - 200)
  else (99, 0)
/-- kind of a field: 0 int or boolean, 1 a reference, 2 long -/
def xFK (c k : Nat) : Nat :=
  if c = 0 then (if k < 4 then 1 else 0)
  else if c = 1 then (if k < 4 then 0 else 1)
  else if c = 2 then (if k < 6 then 1 else 0)
  else if c = 3 then (if k < 4 then 1 else 0)
  else if c = 4 then (if k = 0 then 0 else 1)
  else if c = 5 then (if k < 9 then 1 else 0)
  else if k = 41 then 2 else if (SH (200 + k)).1 = 10 then 1 else 0
/-- the static references between cells: field k (or place k) of the cell a -/
def RF (a k : Nat) : Option Nat :=
  if a = 0 then (if k = 0 then some 1 else if k = 1 then some 10 else if k = 2 then some 20 else if k = 3 then some 30 else if k = 4 then some 70 else if k = 5 then some 90 else if k = 6 then some 100 else if k = 7 then some 101 else if k = 8 then some 102 else none)
  else if a = 1 ∨ a = 10 then (if k = 1 then some (a + 1) else if k = 2 then some (a + 2) else none)
  else if a = 2 then (if k < 6 then some (4 + k) else none)
  else if a = 11 then (if k < 4 then some (13 + k) else none)
  else if a = 20 then (if k < 4 then some (21 + k) else none)
  else if a = 30 ∨ a = 40 ∨ a = 50 ∨ a = 60 then (if 4 ≤ k ∧ k < 12 then some (a + (k - 3)) else none)
  else if a = 70 then (if k = 0 then some 30 else if k = 1 then some 71 else if k = 2 then some 72 else if k = 3 then some 73 else none)
  else if a = 73 then (if k < 7 then some (74 + k) else none)
  else if a = 90 then (if k = 0 then some 30 else if k = 1 then some 91 else if k = 2 then some 96 else if k = 3 then some 97 else if k = 4 then some 98 else if k = 5 then some 99 else none)
  else if a = 91 then (if k < 4 then some (92 + k) else none)
  else if a = 200 then (if (SH (200 + k)).1 = 10 then some (200 + k) else none)
  else none
/-- the static arrays LETTER, IS, MOST_INCHES, LEAST_HIGH at 110 .. 113 -/
def xSn (i : Nat) : String := match i with
  | 0 => "LETTER"
  | 1 => "IS"
  | 2 => "MOST_INCHES"
  | _ => "LEAST_HIGH"
def xSv (i : Nat) : List Int32 := match i with
  | 0 => [98, 100, 112, 99, 116, 101]
  | 1 => [1, 3, 5, 9, 19, 37]
  | 2 => [1, 2, 1, 1, 2, 1]
  | _ => [1, 1, 2, 1, 1, 2]
/-- the cells that are there from the constructors on (kept lands apart) -/
def xBase : List Nat := [0, 1, 2, 3, 4, 5, 6, 7, 8, 9, 10, 11, 12, 13, 14, 15, 16, 20, 21, 22, 23, 24, 30, 31, 32, 33, 34, 35, 36, 37, 38, 70, 71, 72, 73, 74, 75, 76, 77, 78, 79, 80, 90, 91, 92, 93, 94, 95, 96, 97, 98, 99, 100, 101, 102, 200, 201, 203, 204, 205, 206, 207, 210, 211, 212, 213, 214, 219, 220, 221, 222, 223, 225, 226, 227, 228, 229, 230, 231, 232, 240]
theorem xFK_ok : ∀ c, c < 7 → ∀ k, k < 42 → ∀ q, vwCl[c]? = some q → k < q.2.2 → (xFK c k = 0 ∨ xFK c k = 1 ∨ xFK c k = 2) := by
  intro c hc k hk q hq hk2
  unfold xFK
  repeat' split
  all_goals simp

/-! the first text -/
def FT : List Nat := [110, 55, 59, 108, 48, 44, 49, 44, 49, 59, 108, 49, 44, 50, 44, 50, 59, 108, 50, 44, 51, 44, 49, 59, 108, 51, 44, 52, 44, 49, 59, 108, 52, 44, 53, 44, 51, 59, 108, 53, 44, 48, 44, 49, 59, 108, 49, 44, 54, 44, 49, 59, 108, 54, 44, 51, 44, 50, 59, 100, 52, 44, 50, 44, 53, 59]
def ftl (j : Nat) : Nat := FT.getD j 0
def L0 : Nat → Nat := setL (setL (setL (setL (setL (setL (setL (setL (fun _ => 0) 0 1 1) 1 2 2) 2 3 1) 3 4 1) 4 5 3) 5 0 1) 1 6 1) 6 3 2
def z0 : Nat → Int32 := fun _ => 0
def ftS (n : Nat) : Nat → Int32 := fun j => if j < n then nI (ftl j) else 0
def chk0 (x : Option (Int32 × (Nat → Int32) × Int32 × Int32 × Int32 × Int32 × Int32 × (Nat → Int32) × (Nat → Int32) × (Nat → Int32) × (Nat → Int32))) : Bool := match x with
  | none => false
  | some (r, _, e1, e2, e3, e4, e5, e6, e7, e8, e9) => decide (r = -4) && decide (e1 = nI 7) && decide (e2 = nI 8) && decide (e3 = nI 8) && decide (e4 = 6) && decide (e5 = 0) && (List.range 256).all (fun k => decide (e6 k = nI (L0 k))) && (List.range 16).all (fun k => decide (e7 k = if k = 4 then 1 else 0) && decide (e8 k = if k = 4 then 2 else 0) && decide (e9 k = if k = 4 then 5 else 0))
theorem ft_ok : chk0 (Rd_firstFault z0 0 0 0 0 0 z0 z0 z0 z0 (nI 66) (ftS 66)) = true := by decide +kernel

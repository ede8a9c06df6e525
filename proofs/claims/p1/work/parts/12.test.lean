def gOkR (r : gRes) : Bool := match r with
  | some z => match z.2.2.1 with
    | [.int v] => Nat.beq z.1 0 && decide (v = 1)
    | _ => false
  | none => false
set_option maxRecDepth 1000000 in
theorem gtest1 : gOkR (ex (gXs [.float 0, .float 1, .float 2, .float 3, .float 4] [] 23) 5000 gm_0 [] 0 [(0, .float 100)] [] [] 13 472 0 0) = true := by decide +kernel

theorem pure_law (xs : Nat → Int32) (L B : Nat) (hL : L ≤ 2048) : f_LW_law xs L (fun _ => none, B) = some () := by
  sorry

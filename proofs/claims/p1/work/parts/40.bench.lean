set_option maxRecDepth 1000000 in
theorem bm : rcall rMt rBL (fun _ => []) 14 283 [nat_lit 4294967317, nat_lit 40] rh0 (nat_lit 4294967793) [] (fun v _ _ _ => Nat.beq v 45) = true := by decide +kernel

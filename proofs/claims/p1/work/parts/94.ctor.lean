/-! THE CONSTRUCTORS, BY THE KERNEL -/
set_option maxRecDepth 1000000 in
theorem run_ctor : rrun rCf1 rMt rBL 338 (rAt 28 rl1 [] rh1 (nat_lit 4294967566) (nat_lit 213) (nat_lit 20301) rE0) (fun _ _ _ _ => false) 100000 (mcode rMt 338) [nat_lit 4294967337] [] rh0 (nat_lit 4294967360) 0 0 rE0 = true := by decide +kernel

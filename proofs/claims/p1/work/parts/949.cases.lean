/-! RUNS BY THE KERNEL: 949.cases -/
set_option maxRecDepth 1000000 in
theorem run_case19 : rrun rCfP rMt rBL 338 (rkb2 rCfP) rk1 100000 rL28 rl1 [] (rh2 9) (nat_lit 4294967566) (nat_lit 213) (nat_lit 20301) (rEc (nat_lit 2147483667) (nat_lit 2147483667)) = true := by decide +kernel
set_option maxRecDepth 1000000 in
theorem run_case27 : rrun rCfP rMt rBL 338 (rkb2 rCfP) rk1 100000 rL28 rl1 [] (rh2 9) (nat_lit 4294967566) (nat_lit 213) (nat_lit 20301) (rEc (nat_lit 2147483675) (nat_lit 2147483675)) = true := by decide +kernel
set_option maxRecDepth 1000000 in
theorem run_case48 : rrun rCfP rMt rBL 338 (rkb2 rCfP) rk1 100000 rL28 rl1 [] (rh2 9) (nat_lit 4294967566) (nat_lit 213) (nat_lit 20301) (rEc (nat_lit 2147483696) (nat_lit 2147483696)) = true := by decide +kernel

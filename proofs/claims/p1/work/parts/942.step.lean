/-! RUNS BY THE KERNEL: 942.step -/
set_option maxRecDepth 1000000 in
theorem run_case3 : rrun rCf3 rMt rBL 338 (rkb2 rCf3) rk1 100000 rL28 rl1 [] (rh2 9) (nat_lit 4294967566) (nat_lit 213) (nat_lit 20301) (rEc (nat_lit 2147483651) (nat_lit 2147483651)) = true := by decide +kernel

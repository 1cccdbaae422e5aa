/-! RUNS BY THE KERNEL: 95a.flip -/
set_option maxRecDepth 1000000 in
theorem run_flip0 : rrun rCfP rMt rBL 338 (rkb2 rCfP) rk1 100000 rL28 rl1 [] (rh2 9) (nat_lit 4294967566) (nat_lit 213) (nat_lit 20301) (rEf (nat_lit 0) (nat_lit 2147483647) (nat_lit 0) (nat_lit 4294967295)) = true := by decide +kernel
set_option maxRecDepth 1000000 in
theorem run_flip1 : rrun rCfP rMt rBL 338 (rkb2 rCfP) rk1 100000 rL28 rl1 [] (rh2 9) (nat_lit 4294967566) (nat_lit 213) (nat_lit 20301) (rEf (nat_lit 2147483652) (nat_lit 4294967295) (nat_lit 0) (nat_lit 4294967295)) = true := by decide +kernel
set_option maxRecDepth 1000000 in
theorem run_flip2 : rrun rCfP rMt rBL 338 (rkb2 rCfP) rk1 100000 rL28 rl1 [] (rh2 9) (nat_lit 4294967566) (nat_lit 213) (nat_lit 20301) (rEf (nat_lit 2147483648) (nat_lit 2147483648) (nat_lit 0) (nat_lit 2147483647)) = true := by decide +kernel
set_option maxRecDepth 1000000 in
theorem run_flip3 : rrun rCfP rMt rBL 338 (rkb2 rCfP) rk1 100000 rL28 rl1 [] (rh2 9) (nat_lit 4294967566) (nat_lit 213) (nat_lit 20301) (rEf (nat_lit 2147483648) (nat_lit 2147483648) (nat_lit 2147483712) (nat_lit 4294967295)) = true := by decide +kernel
set_option maxRecDepth 1000000 in
theorem run_flip12 : rrun rCfP rMt rBL 338 (rkb2 rCfP) rk1 100000 rL28 rl1 [] (rh2 9) (nat_lit 4294967566) (nat_lit 213) (nat_lit 20301) (rEf (nat_lit 2147483649) (nat_lit 2147483649) (nat_lit 0) (nat_lit 2147483647)) = true := by decide +kernel
set_option maxRecDepth 1000000 in
theorem run_flip13 : rrun rCfP rMt rBL 338 (rkb2 rCfP) rk1 100000 rL28 rl1 [] (rh2 9) (nat_lit 4294967566) (nat_lit 213) (nat_lit 20301) (rEf (nat_lit 2147483649) (nat_lit 2147483649) (nat_lit 2147483712) (nat_lit 4294967295)) = true := by decide +kernel
set_option maxRecDepth 1000000 in
theorem run_flip22 : rrun rCfP rMt rBL 338 (rkb2 rCfP) rk1 100000 rL28 rl1 [] (rh2 9) (nat_lit 4294967566) (nat_lit 213) (nat_lit 20301) (rEf (nat_lit 2147483650) (nat_lit 2147483650) (nat_lit 0) (nat_lit 2147483647)) = true := by decide +kernel
set_option maxRecDepth 1000000 in
theorem run_flip23 : rrun rCfP rMt rBL 338 (rkb2 rCfP) rk1 100000 rL28 rl1 [] (rh2 9) (nat_lit 4294967566) (nat_lit 213) (nat_lit 20301) (rEf (nat_lit 2147483650) (nat_lit 2147483650) (nat_lit 2147483712) (nat_lit 4294967295)) = true := by decide +kernel
set_option maxRecDepth 1000000 in
theorem run_flip32 : rrun rCfP rMt rBL 338 (rkb2 rCfP) rk1 100000 rL28 rl1 [] (rh2 9) (nat_lit 4294967566) (nat_lit 213) (nat_lit 20301) (rEf (nat_lit 2147483651) (nat_lit 2147483651) (nat_lit 0) (nat_lit 2147483647)) = true := by decide +kernel
set_option maxRecDepth 1000000 in
theorem run_flip33 : rrun rCfP rMt rBL 338 (rkb2 rCfP) rk1 100000 rL28 rl1 [] (rh2 9) (nat_lit 4294967566) (nat_lit 213) (nat_lit 20301) (rEf (nat_lit 2147483651) (nat_lit 2147483651) (nat_lit 2147483712) (nat_lit 4294967295)) = true := by decide +kernel

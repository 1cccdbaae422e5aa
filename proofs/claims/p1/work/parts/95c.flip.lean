/-! RUNS BY THE KERNEL: 95c.flip -/
set_option maxRecDepth 1000000 in
theorem run_flip14 : rrun rCfP rMt rBL 338 (rkb2 rCfP) rk1 100000 rL28 rl1 [] (rh2 9) (nat_lit 4294967566) (nat_lit 213) (nat_lit 20301) (rEf (nat_lit 2147483649) (nat_lit 2147483649) (nat_lit 2147483648) (nat_lit 2147483655)) = true := by decide +kernel
set_option maxRecDepth 1000000 in
theorem run_flip15 : rrun rCfP rMt rBL 338 (rkb2 rCfP) rk1 100000 rL28 rl1 [] (rh2 9) (nat_lit 4294967566) (nat_lit 213) (nat_lit 20301) (rEf (nat_lit 2147483649) (nat_lit 2147483649) (nat_lit 2147483656) (nat_lit 2147483663)) = true := by decide +kernel
set_option maxRecDepth 1000000 in
theorem run_flip16 : rrun rCfP rMt rBL 338 (rkb2 rCfP) rk1 100000 rL28 rl1 [] (rh2 9) (nat_lit 4294967566) (nat_lit 213) (nat_lit 20301) (rEf (nat_lit 2147483649) (nat_lit 2147483649) (nat_lit 2147483664) (nat_lit 2147483671)) = true := by decide +kernel
set_option maxRecDepth 1000000 in
theorem run_flip17 : rrun rCfP rMt rBL 338 (rkb2 rCfP) rk1 100000 rL28 rl1 [] (rh2 9) (nat_lit 4294967566) (nat_lit 213) (nat_lit 20301) (rEf (nat_lit 2147483649) (nat_lit 2147483649) (nat_lit 2147483672) (nat_lit 2147483679)) = true := by decide +kernel
set_option maxRecDepth 1000000 in
theorem run_flip18 : rrun rCfP rMt rBL 338 (rkb2 rCfP) rk1 100000 rL28 rl1 [] (rh2 9) (nat_lit 4294967566) (nat_lit 213) (nat_lit 20301) (rEf (nat_lit 2147483649) (nat_lit 2147483649) (nat_lit 2147483680) (nat_lit 2147483687)) = true := by decide +kernel
set_option maxRecDepth 1000000 in
theorem run_flip19 : rrun rCfP rMt rBL 338 (rkb2 rCfP) rk1 100000 rL28 rl1 [] (rh2 9) (nat_lit 4294967566) (nat_lit 213) (nat_lit 20301) (rEf (nat_lit 2147483649) (nat_lit 2147483649) (nat_lit 2147483688) (nat_lit 2147483695)) = true := by decide +kernel
set_option maxRecDepth 1000000 in
theorem run_flip20 : rrun rCfP rMt rBL 338 (rkb2 rCfP) rk1 100000 rL28 rl1 [] (rh2 9) (nat_lit 4294967566) (nat_lit 213) (nat_lit 20301) (rEf (nat_lit 2147483649) (nat_lit 2147483649) (nat_lit 2147483696) (nat_lit 2147483703)) = true := by decide +kernel
set_option maxRecDepth 1000000 in
theorem run_flip21 : rrun rCfP rMt rBL 338 (rkb2 rCfP) rk1 100000 rL28 rl1 [] (rh2 9) (nat_lit 4294967566) (nat_lit 213) (nat_lit 20301) (rEf (nat_lit 2147483649) (nat_lit 2147483649) (nat_lit 2147483704) (nat_lit 2147483711)) = true := by decide +kernel

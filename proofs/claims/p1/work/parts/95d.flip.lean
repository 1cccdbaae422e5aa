/-! RUNS BY THE KERNEL: 95d.flip -/
set_option maxRecDepth 1000000 in
theorem run_flip24 : rrun rCfP rMt rBL 338 (rkb2 rCfP) rk1 100000 rL28 rl1 [] (rh2 9) (nat_lit 4294967566) (nat_lit 213) (nat_lit 20301) (rEf (nat_lit 2147483650) (nat_lit 2147483650) (nat_lit 2147483648) (nat_lit 2147483655)) = true := by decide +kernel
set_option maxRecDepth 1000000 in
theorem run_flip25 : rrun rCfP rMt rBL 338 (rkb2 rCfP) rk1 100000 rL28 rl1 [] (rh2 9) (nat_lit 4294967566) (nat_lit 213) (nat_lit 20301) (rEf (nat_lit 2147483650) (nat_lit 2147483650) (nat_lit 2147483656) (nat_lit 2147483663)) = true := by decide +kernel
set_option maxRecDepth 1000000 in
theorem run_flip26 : rrun rCfP rMt rBL 338 (rkb2 rCfP) rk1 100000 rL28 rl1 [] (rh2 9) (nat_lit 4294967566) (nat_lit 213) (nat_lit 20301) (rEf (nat_lit 2147483650) (nat_lit 2147483650) (nat_lit 2147483664) (nat_lit 2147483671)) = true := by decide +kernel
set_option maxRecDepth 1000000 in
theorem run_flip27 : rrun rCfP rMt rBL 338 (rkb2 rCfP) rk1 100000 rL28 rl1 [] (rh2 9) (nat_lit 4294967566) (nat_lit 213) (nat_lit 20301) (rEf (nat_lit 2147483650) (nat_lit 2147483650) (nat_lit 2147483672) (nat_lit 2147483679)) = true := by decide +kernel
set_option maxRecDepth 1000000 in
theorem run_flip28 : rrun rCfP rMt rBL 338 (rkb2 rCfP) rk1 100000 rL28 rl1 [] (rh2 9) (nat_lit 4294967566) (nat_lit 213) (nat_lit 20301) (rEf (nat_lit 2147483650) (nat_lit 2147483650) (nat_lit 2147483680) (nat_lit 2147483687)) = true := by decide +kernel
set_option maxRecDepth 1000000 in
theorem run_flip29 : rrun rCfP rMt rBL 338 (rkb2 rCfP) rk1 100000 rL28 rl1 [] (rh2 9) (nat_lit 4294967566) (nat_lit 213) (nat_lit 20301) (rEf (nat_lit 2147483650) (nat_lit 2147483650) (nat_lit 2147483688) (nat_lit 2147483695)) = true := by decide +kernel
set_option maxRecDepth 1000000 in
theorem run_flip30 : rrun rCfP rMt rBL 338 (rkb2 rCfP) rk1 100000 rL28 rl1 [] (rh2 9) (nat_lit 4294967566) (nat_lit 213) (nat_lit 20301) (rEf (nat_lit 2147483650) (nat_lit 2147483650) (nat_lit 2147483696) (nat_lit 2147483703)) = true := by decide +kernel
set_option maxRecDepth 1000000 in
theorem run_flip31 : rrun rCfP rMt rBL 338 (rkb2 rCfP) rk1 100000 rL28 rl1 [] (rh2 9) (nat_lit 4294967566) (nat_lit 213) (nat_lit 20301) (rEf (nat_lit 2147483650) (nat_lit 2147483650) (nat_lit 2147483704) (nat_lit 2147483711)) = true := by decide +kernel

/-! RUNS BY THE KERNEL: 941.ctor -/
set_option maxRecDepth 1000000 in
theorem run_ctor : rrun rCfP rMt rBL 338 (rAt 28 rl1 [] rh1 (nat_lit 4294967566) (nat_lit 213) (nat_lit 20301) rE0) rk1 100000 (mcode rMt 338) [nat_lit 4294967337] [] rh0 (nat_lit 4294967360) 0 0 rE0 = true := by decide +kernel
set_option maxRecDepth 1000000 in
theorem run_short0 : rrun rCfP rMt rBL 338 (rkb2 rCfP) rk1 100000 rL28 rl1 [] (rh2 0) (nat_lit 4294967566) (nat_lit 213) (nat_lit 20301) rE0 = true := by decide +kernel
set_option maxRecDepth 1000000 in
theorem run_short1 : rrun rCfP rMt rBL 338 (rkb2 rCfP) rk1 100000 rL28 rl1 [] (rh2 1) (nat_lit 4294967566) (nat_lit 213) (nat_lit 20301) rE0 = true := by decide +kernel
set_option maxRecDepth 1000000 in
theorem run_short2 : rrun rCfP rMt rBL 338 (rkb2 rCfP) rk1 100000 rL28 rl1 [] (rh2 2) (nat_lit 4294967566) (nat_lit 213) (nat_lit 20301) rE0 = true := by decide +kernel
set_option maxRecDepth 1000000 in
theorem run_short3 : rrun rCfP rMt rBL 338 (rkb2 rCfP) rk1 100000 rL28 rl1 [] (rh2 3) (nat_lit 4294967566) (nat_lit 213) (nat_lit 20301) rE0 = true := by decide +kernel
set_option maxRecDepth 1000000 in
theorem run_short4 : rrun rCfP rMt rBL 338 (rkb2 rCfP) rk1 100000 rL28 rl1 [] (rh2 4) (nat_lit 4294967566) (nat_lit 213) (nat_lit 20301) rE0 = true := by decide +kernel
set_option maxRecDepth 1000000 in
theorem run_short5 : rrun rCfP rMt rBL 338 (rkb2 rCfP) rk1 100000 rL28 rl1 [] (rh2 5) (nat_lit 4294967566) (nat_lit 213) (nat_lit 20301) rE0 = true := by decide +kernel
set_option maxRecDepth 1000000 in
theorem run_short6 : rrun rCfP rMt rBL 338 (rkb2 rCfP) rk1 100000 rL28 rl1 [] (rh2 6) (nat_lit 4294967566) (nat_lit 213) (nat_lit 20301) rE0 = true := by decide +kernel
set_option maxRecDepth 1000000 in
theorem run_short7 : rrun rCfP rMt rBL 338 (rkb2 rCfP) rk1 100000 rL28 rl1 [] (rh2 7) (nat_lit 4294967566) (nat_lit 213) (nat_lit 20301) rE0 = true := by decide +kernel
set_option maxRecDepth 1000000 in
theorem run_short8 : rrun rCfP rMt rBL 338 (rkb2 rCfP) rk1 100000 rL28 rl1 [] (rh2 8) (nat_lit 4294967566) (nat_lit 213) (nat_lit 20301) rE0 = true := by decide +kernel
set_option maxRecDepth 1000000 in
theorem run_rest : rrun rCfP rMt rBL 338 (rkb2 rCfP) rk1 100000 rL28 rl1 [] (rh2 9) (nat_lit 4294967566) (nat_lit 213) (nat_lit 20301) (rEc (nat_lit 2147483698) (nat_lit 2147483711)) = true := by decide +kernel
set_option maxRecDepth 1000000 in
theorem run_ce : rrun rCfP rMt rBL 54 (rAt 44 [nat_lit 4294967360, nat_lit 17179869185, nat_lit 0] [] (rh2 9) (nat_lit 4294967566) 0 0 eI) kV1 (nat_lit 100000) (mcode rMt 54) [nat_lit 4294967360, nat_lit 17179869185] [] (rh2 9) (nat_lit 4294967566) 0 0 (rEc (nat_lit 2147483651) (nat_lit 2147483651)) = true := by decide +kernel
set_option maxRecDepth 1000000 in
theorem run_me : rrun rCfP rMt rBL 227 (rAt 45 [nat_lit 4294967460, nat_lit 17179869185, nat_lit 0] [] hF2 (nat_lit 4294967566) 0 0 eI) kV2 (nat_lit 100000) (mcode rMt 227) [nat_lit 4294967460, nat_lit 17179869185] [] hF2 (nat_lit 4294967566) 0 0 eI = true := by decide +kernel

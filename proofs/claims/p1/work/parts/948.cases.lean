/-! RUNS BY THE KERNEL: 948.cases -/
set_option maxRecDepth 1000000 in
theorem run_case0 : rrun rCfP rMt rBL 338 (rkb2 rCfP) rk1 100000 rL28 rl1 [] (rh2 9) (nat_lit 4294967566) (nat_lit 213) (nat_lit 20301) (rEc (nat_lit 2147483648) (nat_lit 2147483648)) = true := by decide +kernel
set_option maxRecDepth 1000000 in
theorem run_case1 : rrun rCfP rMt rBL 338 (rkb2 rCfP) rk1 100000 rL28 rl1 [] (rh2 9) (nat_lit 4294967566) (nat_lit 213) (nat_lit 20301) (rEc (nat_lit 2147483649) (nat_lit 2147483649)) = true := by decide +kernel
set_option maxRecDepth 1000000 in
theorem run_case2 : rrun rCfP rMt rBL 338 (rkb2 rCfP) rk1 100000 rL28 rl1 [] (rh2 9) (nat_lit 4294967566) (nat_lit 213) (nat_lit 20301) (rEc (nat_lit 2147483650) (nat_lit 2147483650)) = true := by decide +kernel
set_option maxRecDepth 1000000 in
theorem run_case4 : rrun rCfP rMt rBL 338 (rkb2 rCfP) rk1 100000 rL28 rl1 [] (rh2 9) (nat_lit 4294967566) (nat_lit 213) (nat_lit 20301) (rEc (nat_lit 2147483652) (nat_lit 2147483652)) = true := by decide +kernel
set_option maxRecDepth 1000000 in
theorem run_case5 : rrun rCfP rMt rBL 338 (rkb2 rCfP) rk1 100000 rL28 rl1 [] (rh2 9) (nat_lit 4294967566) (nat_lit 213) (nat_lit 20301) (rEc (nat_lit 2147483653) (nat_lit 2147483653)) = true := by decide +kernel
set_option maxRecDepth 1000000 in
theorem run_case6 : rrun rCfP rMt rBL 338 (rkb2 rCfP) rk1 100000 rL28 rl1 [] (rh2 9) (nat_lit 4294967566) (nat_lit 213) (nat_lit 20301) (rEc (nat_lit 2147483654) (nat_lit 2147483654)) = true := by decide +kernel
set_option maxRecDepth 1000000 in
theorem run_case7 : rrun rCfP rMt rBL 338 (rkb2 rCfP) rk1 100000 rL28 rl1 [] (rh2 9) (nat_lit 4294967566) (nat_lit 213) (nat_lit 20301) (rEc (nat_lit 2147483655) (nat_lit 2147483655)) = true := by decide +kernel
set_option maxRecDepth 1000000 in
theorem run_case8 : rrun rCfP rMt rBL 338 (rkb2 rCfP) rk1 100000 rL28 rl1 [] (rh2 9) (nat_lit 4294967566) (nat_lit 213) (nat_lit 20301) (rEc (nat_lit 2147483656) (nat_lit 2147483656)) = true := by decide +kernel
set_option maxRecDepth 1000000 in
theorem run_case9 : rrun rCfP rMt rBL 338 (rkb2 rCfP) rk1 100000 rL28 rl1 [] (rh2 9) (nat_lit 4294967566) (nat_lit 213) (nat_lit 20301) (rEc (nat_lit 2147483657) (nat_lit 2147483657)) = true := by decide +kernel
set_option maxRecDepth 1000000 in
theorem run_case10 : rrun rCfP rMt rBL 338 (rkb2 rCfP) rk1 100000 rL28 rl1 [] (rh2 9) (nat_lit 4294967566) (nat_lit 213) (nat_lit 20301) (rEc (nat_lit 2147483658) (nat_lit 2147483658)) = true := by decide +kernel
set_option maxRecDepth 1000000 in
theorem run_case11 : rrun rCfP rMt rBL 338 (rkb2 rCfP) rk1 100000 rL28 rl1 [] (rh2 9) (nat_lit 4294967566) (nat_lit 213) (nat_lit 20301) (rEc (nat_lit 2147483659) (nat_lit 2147483659)) = true := by decide +kernel
set_option maxRecDepth 1000000 in
theorem run_case12 : rrun rCfP rMt rBL 338 (rkb2 rCfP) rk1 100000 rL28 rl1 [] (rh2 9) (nat_lit 4294967566) (nat_lit 213) (nat_lit 20301) (rEc (nat_lit 2147483660) (nat_lit 2147483660)) = true := by decide +kernel
set_option maxRecDepth 1000000 in
theorem run_case13 : rrun rCfP rMt rBL 338 (rkb2 rCfP) rk1 100000 rL28 rl1 [] (rh2 9) (nat_lit 4294967566) (nat_lit 213) (nat_lit 20301) (rEc (nat_lit 2147483661) (nat_lit 2147483661)) = true := by decide +kernel
set_option maxRecDepth 1000000 in
theorem run_case14 : rrun rCfP rMt rBL 338 (rkb2 rCfP) rk1 100000 rL28 rl1 [] (rh2 9) (nat_lit 4294967566) (nat_lit 213) (nat_lit 20301) (rEc (nat_lit 2147483662) (nat_lit 2147483662)) = true := by decide +kernel
set_option maxRecDepth 1000000 in
theorem run_case15 : rrun rCfP rMt rBL 338 (rkb2 rCfP) rk1 100000 rL28 rl1 [] (rh2 9) (nat_lit 4294967566) (nat_lit 213) (nat_lit 20301) (rEc (nat_lit 2147483663) (nat_lit 2147483663)) = true := by decide +kernel
set_option maxRecDepth 1000000 in
theorem run_case16 : rrun rCfP rMt rBL 338 (rkb2 rCfP) rk1 100000 rL28 rl1 [] (rh2 9) (nat_lit 4294967566) (nat_lit 213) (nat_lit 20301) (rEc (nat_lit 2147483664) (nat_lit 2147483664)) = true := by decide +kernel
set_option maxRecDepth 1000000 in
theorem run_case18 : rrun rCfP rMt rBL 338 (rkb2 rCfP) rk1 100000 rL28 rl1 [] (rh2 9) (nat_lit 4294967566) (nat_lit 213) (nat_lit 20301) (rEc (nat_lit 2147483666) (nat_lit 2147483666)) = true := by decide +kernel
set_option maxRecDepth 1000000 in
theorem run_case20 : rrun rCfP rMt rBL 338 (rkb2 rCfP) rk1 100000 rL28 rl1 [] (rh2 9) (nat_lit 4294967566) (nat_lit 213) (nat_lit 20301) (rEc (nat_lit 2147483668) (nat_lit 2147483668)) = true := by decide +kernel
set_option maxRecDepth 1000000 in
theorem run_case21 : rrun rCfP rMt rBL 338 (rkb2 rCfP) rk1 100000 rL28 rl1 [] (rh2 9) (nat_lit 4294967566) (nat_lit 213) (nat_lit 20301) (rEc (nat_lit 2147483669) (nat_lit 2147483669)) = true := by decide +kernel
set_option maxRecDepth 1000000 in
theorem run_case22 : rrun rCfP rMt rBL 338 (rkb2 rCfP) rk1 100000 rL28 rl1 [] (rh2 9) (nat_lit 4294967566) (nat_lit 213) (nat_lit 20301) (rEc (nat_lit 2147483670) (nat_lit 2147483670)) = true := by decide +kernel
set_option maxRecDepth 1000000 in
theorem run_case23 : rrun rCfP rMt rBL 338 (rkb2 rCfP) rk1 100000 rL28 rl1 [] (rh2 9) (nat_lit 4294967566) (nat_lit 213) (nat_lit 20301) (rEc (nat_lit 2147483671) (nat_lit 2147483671)) = true := by decide +kernel
set_option maxRecDepth 1000000 in
theorem run_case24 : rrun rCfP rMt rBL 338 (rkb2 rCfP) rk1 100000 rL28 rl1 [] (rh2 9) (nat_lit 4294967566) (nat_lit 213) (nat_lit 20301) (rEc (nat_lit 2147483672) (nat_lit 2147483672)) = true := by decide +kernel
set_option maxRecDepth 1000000 in
theorem run_case25 : rrun rCfP rMt rBL 338 (rkb2 rCfP) rk1 100000 rL28 rl1 [] (rh2 9) (nat_lit 4294967566) (nat_lit 213) (nat_lit 20301) (rEc (nat_lit 2147483673) (nat_lit 2147483673)) = true := by decide +kernel
set_option maxRecDepth 1000000 in
theorem run_case26 : rrun rCfP rMt rBL 338 (rkb2 rCfP) rk1 100000 rL28 rl1 [] (rh2 9) (nat_lit 4294967566) (nat_lit 213) (nat_lit 20301) (rEc (nat_lit 2147483674) (nat_lit 2147483674)) = true := by decide +kernel
set_option maxRecDepth 1000000 in
theorem run_case28 : rrun rCfP rMt rBL 338 (rkb2 rCfP) rk1 100000 rL28 rl1 [] (rh2 9) (nat_lit 4294967566) (nat_lit 213) (nat_lit 20301) (rEc (nat_lit 2147483676) (nat_lit 2147483676)) = true := by decide +kernel
set_option maxRecDepth 1000000 in
theorem run_case29 : rrun rCfP rMt rBL 338 (rkb2 rCfP) rk1 100000 rL28 rl1 [] (rh2 9) (nat_lit 4294967566) (nat_lit 213) (nat_lit 20301) (rEc (nat_lit 2147483677) (nat_lit 2147483677)) = true := by decide +kernel
set_option maxRecDepth 1000000 in
theorem run_case30 : rrun rCfP rMt rBL 338 (rkb2 rCfP) rk1 100000 rL28 rl1 [] (rh2 9) (nat_lit 4294967566) (nat_lit 213) (nat_lit 20301) (rEc (nat_lit 2147483678) (nat_lit 2147483678)) = true := by decide +kernel
set_option maxRecDepth 1000000 in
theorem run_case31 : rrun rCfP rMt rBL 338 (rkb2 rCfP) rk1 100000 rL28 rl1 [] (rh2 9) (nat_lit 4294967566) (nat_lit 213) (nat_lit 20301) (rEc (nat_lit 2147483679) (nat_lit 2147483679)) = true := by decide +kernel
set_option maxRecDepth 1000000 in
theorem run_case32 : rrun rCfP rMt rBL 338 (rkb2 rCfP) rk1 100000 rL28 rl1 [] (rh2 9) (nat_lit 4294967566) (nat_lit 213) (nat_lit 20301) (rEc (nat_lit 2147483680) (nat_lit 2147483680)) = true := by decide +kernel
set_option maxRecDepth 1000000 in
theorem run_case33 : rrun rCfP rMt rBL 338 (rkb2 rCfP) rk1 100000 rL28 rl1 [] (rh2 9) (nat_lit 4294967566) (nat_lit 213) (nat_lit 20301) (rEc (nat_lit 2147483681) (nat_lit 2147483681)) = true := by decide +kernel
set_option maxRecDepth 1000000 in
theorem run_case34 : rrun rCfP rMt rBL 338 (rkb2 rCfP) rk1 100000 rL28 rl1 [] (rh2 9) (nat_lit 4294967566) (nat_lit 213) (nat_lit 20301) (rEc (nat_lit 2147483682) (nat_lit 2147483682)) = true := by decide +kernel
set_option maxRecDepth 1000000 in
theorem run_case35 : rrun rCfP rMt rBL 338 (rkb2 rCfP) rk1 100000 rL28 rl1 [] (rh2 9) (nat_lit 4294967566) (nat_lit 213) (nat_lit 20301) (rEc (nat_lit 2147483683) (nat_lit 2147483683)) = true := by decide +kernel
set_option maxRecDepth 1000000 in
theorem run_case36 : rrun rCfP rMt rBL 338 (rkb2 rCfP) rk1 100000 rL28 rl1 [] (rh2 9) (nat_lit 4294967566) (nat_lit 213) (nat_lit 20301) (rEc (nat_lit 2147483684) (nat_lit 2147483684)) = true := by decide +kernel
set_option maxRecDepth 1000000 in
theorem run_case37 : rrun rCfP rMt rBL 338 (rkb2 rCfP) rk1 100000 rL28 rl1 [] (rh2 9) (nat_lit 4294967566) (nat_lit 213) (nat_lit 20301) (rEc (nat_lit 2147483685) (nat_lit 2147483685)) = true := by decide +kernel
set_option maxRecDepth 1000000 in
theorem run_case38 : rrun rCfP rMt rBL 338 (rkb2 rCfP) rk1 100000 rL28 rl1 [] (rh2 9) (nat_lit 4294967566) (nat_lit 213) (nat_lit 20301) (rEc (nat_lit 2147483686) (nat_lit 2147483686)) = true := by decide +kernel
set_option maxRecDepth 1000000 in
theorem run_case39 : rrun rCfP rMt rBL 338 (rkb2 rCfP) rk1 100000 rL28 rl1 [] (rh2 9) (nat_lit 4294967566) (nat_lit 213) (nat_lit 20301) (rEc (nat_lit 2147483687) (nat_lit 2147483687)) = true := by decide +kernel
set_option maxRecDepth 1000000 in
theorem run_case40 : rrun rCfP rMt rBL 338 (rkb2 rCfP) rk1 100000 rL28 rl1 [] (rh2 9) (nat_lit 4294967566) (nat_lit 213) (nat_lit 20301) (rEc (nat_lit 2147483688) (nat_lit 2147483688)) = true := by decide +kernel
set_option maxRecDepth 1000000 in
theorem run_case41 : rrun rCfP rMt rBL 338 (rkb2 rCfP) rk1 100000 rL28 rl1 [] (rh2 9) (nat_lit 4294967566) (nat_lit 213) (nat_lit 20301) (rEc (nat_lit 2147483689) (nat_lit 2147483689)) = true := by decide +kernel
set_option maxRecDepth 1000000 in
theorem run_case42 : rrun rCfP rMt rBL 338 (rkb2 rCfP) rk1 100000 rL28 rl1 [] (rh2 9) (nat_lit 4294967566) (nat_lit 213) (nat_lit 20301) (rEc (nat_lit 2147483690) (nat_lit 2147483690)) = true := by decide +kernel
set_option maxRecDepth 1000000 in
theorem run_case43 : rrun rCfP rMt rBL 338 (rkb2 rCfP) rk1 100000 rL28 rl1 [] (rh2 9) (nat_lit 4294967566) (nat_lit 213) (nat_lit 20301) (rEc (nat_lit 2147483691) (nat_lit 2147483691)) = true := by decide +kernel
set_option maxRecDepth 1000000 in
theorem run_case44 : rrun rCfP rMt rBL 338 (rkb2 rCfP) rk1 100000 rL28 rl1 [] (rh2 9) (nat_lit 4294967566) (nat_lit 213) (nat_lit 20301) (rEc (nat_lit 2147483692) (nat_lit 2147483692)) = true := by decide +kernel
set_option maxRecDepth 1000000 in
theorem run_case45 : rrun rCfP rMt rBL 338 (rkb2 rCfP) rk1 100000 rL28 rl1 [] (rh2 9) (nat_lit 4294967566) (nat_lit 213) (nat_lit 20301) (rEc (nat_lit 2147483693) (nat_lit 2147483693)) = true := by decide +kernel
set_option maxRecDepth 1000000 in
theorem run_case46 : rrun rCfP rMt rBL 338 (rkb2 rCfP) rk1 100000 rL28 rl1 [] (rh2 9) (nat_lit 4294967566) (nat_lit 213) (nat_lit 20301) (rEc (nat_lit 2147483694) (nat_lit 2147483694)) = true := by decide +kernel
set_option maxRecDepth 1000000 in
theorem run_case47 : rrun rCfP rMt rBL 338 (rkb2 rCfP) rk1 100000 rL28 rl1 [] (rh2 9) (nat_lit 4294967566) (nat_lit 213) (nat_lit 20301) (rEc (nat_lit 2147483695) (nat_lit 2147483695)) = true := by decide +kernel
set_option maxRecDepth 1000000 in
theorem run_case49 : rrun rCfP rMt rBL 338 (rkb2 rCfP) rk1 100000 rL28 rl1 [] (rh2 9) (nat_lit 4294967566) (nat_lit 213) (nat_lit 20301) (rEc (nat_lit 2147483697) (nat_lit 2147483697)) = true := by decide +kernel

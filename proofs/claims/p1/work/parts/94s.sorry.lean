/-! sorry -/
/-! RUNS BY THE KERNEL: 944.class -/
set_option maxRecDepth 1000000 in
theorem run_c150 : rrun rCf1 rMt rBL 54 (rlp rCf1 54 44 (rLt 54 44) kV1 (rAt 44 [nat_lit 4294967360, nat_lit 17179869185, nat_lit 180] [] hC_180 (nat_lit 4294967566) 0 0 (eJ (nat_lit 2147483828))) (nat_lit 29)) kV1 (nat_lit 100000) (rLt 54 44) [nat_lit 4294967360, nat_lit 17179869185, nat_lit 150] [] hC_150 (nat_lit 4294967566) 0 0 (eJ (nat_lit 2147483798)) = true := by sorry
set_option maxRecDepth 1000000 in
theorem run_c180 : rrun rCf1 rMt rBL 54 (rlp rCf1 54 44 (rLt 54 44) kV1 (rAt 44 [nat_lit 4294967360, nat_lit 17179869185, nat_lit 210] [] hC_210 (nat_lit 4294967566) 0 0 (eJ (nat_lit 2147483858))) (nat_lit 29)) kV1 (nat_lit 100000) (rLt 54 44) [nat_lit 4294967360, nat_lit 17179869185, nat_lit 180] [] hC_180 (nat_lit 4294967566) 0 0 (eJ (nat_lit 2147483828)) = true := by sorry
set_option maxRecDepth 1000000 in
theorem run_c210 : rrun rCf1 rMt rBL 54 (rlp rCf1 54 44 (rLt 54 44) kV1 (rAt 44 [nat_lit 4294967360, nat_lit 17179869185, nat_lit 240] [] hC_240 (nat_lit 4294967566) 0 0 (eJ (nat_lit 2147483888))) (nat_lit 29)) kV1 (nat_lit 100000) (rLt 54 44) [nat_lit 4294967360, nat_lit 17179869185, nat_lit 210] [] hC_210 (nat_lit 4294967566) 0 0 (eJ (nat_lit 2147483858)) = true := by sorry
set_option maxRecDepth 1000000 in
theorem run_c240 : rrun rCf1 rMt rBL 54 (rlp rCf1 54 44 (rLt 54 44) kV1 (rAt 44 [nat_lit 4294967360, nat_lit 17179869185, nat_lit 270] [] hC_270 (nat_lit 4294967566) 0 0 (eJ (nat_lit 2147483918))) (nat_lit 29)) kV1 (nat_lit 100000) (rLt 54 44) [nat_lit 4294967360, nat_lit 17179869185, nat_lit 240] [] hC_240 (nat_lit 4294967566) 0 0 (eJ (nat_lit 2147483888)) = true := by sorry
set_option maxRecDepth 1000000 in
theorem run_c270 : rrun rCf1 rMt rBL 54 (rlp rCf1 54 44 (rLt 54 44) kV1 rkF (nat_lit 30)) kV1 (nat_lit 100000) (rLt 54 44) [nat_lit 4294967360, nat_lit 17179869185, nat_lit 270] [] hC_270 (nat_lit 4294967566) 0 0 (eJ (nat_lit 2147483918)) = true := by sorry

/-! RUNS BY THE KERNEL: 945.model -/
set_option maxRecDepth 1000000 in
theorem run_m0 : rrun rCf1 rMt rBL 227 (rlp rCf1 227 45 (rLt 227 45) kV2 (rRn [(nat_lit 270, nat_lit 278)] (nat_lit 4294967566) 45 [nat_lit 4294967460, nat_lit 17179869185, nat_lit 20] hM_20 (nat_lit 4294967567) (nat_lit 280) (nat_lit 1500) (eJ (nat_lit 2147483668))) (nat_lit 19)) kV2 (nat_lit 100000) (rLt 227 45) [nat_lit 4294967460, nat_lit 17179869185, nat_lit 0] [] hF2 (nat_lit 4294967566) (nat_lit 0) (nat_lit 0) eI = true := by sorry
set_option maxRecDepth 1000000 in
theorem run_m20 : rrun rCf1 rMt rBL 227 (rlp rCf1 227 45 (rLt 227 45) kV2 (rRn [(nat_lit 270, nat_lit 270)] (nat_lit 4294967566) 45 [nat_lit 4294967460, nat_lit 17179869185, nat_lit 40] hM_40 (nat_lit 4294967567) (nat_lit 560) (nat_lit 3000) (eJ (nat_lit 2147483688))) (nat_lit 19)) kV2 (nat_lit 100000) (rLt 227 45) [nat_lit 4294967460, nat_lit 17179869185, nat_lit 20] [] hM_20 (nat_lit 4294967567) (nat_lit 280) (nat_lit 1500) (eJ (nat_lit 2147483668)) = true := by sorry
set_option maxRecDepth 1000000 in
theorem run_m40 : rrun rCf1 rMt rBL 227 (rlp rCf1 227 45 (rLt 227 45) kV2 (rRn [(nat_lit 270, nat_lit 270), (nat_lit 271, nat_lit 471), (nat_lit 272, nat_lit 483)] (nat_lit 4294967566) 45 [nat_lit 4294967460, nat_lit 17179869185, nat_lit 60] hM_60 (nat_lit 4294967569) (nat_lit 840) (nat_lit 4500) (eJ (nat_lit 2147483708))) (nat_lit 19)) kV2 (nat_lit 100000) (rLt 227 45) [nat_lit 4294967460, nat_lit 17179869185, nat_lit 40] [] hM_40 (nat_lit 4294967567) (nat_lit 560) (nat_lit 3000) (eJ (nat_lit 2147483688)) = true := by sorry
set_option maxRecDepth 1000000 in
theorem run_m60 : rrun rCf1 rMt rBL 227 (rlp rCf1 227 45 (rLt 227 45) kV2 (rRn [(nat_lit 270, nat_lit 270)] (nat_lit 4294967566) 45 [nat_lit 4294967460, nat_lit 17179869185, nat_lit 80] hM_80 (nat_lit 4294967567) (nat_lit 1120) (nat_lit 6000) (eJ (nat_lit 2147483728))) (nat_lit 19)) kV2 (nat_lit 100000) (rLt 227 45) [nat_lit 4294967460, nat_lit 17179869185, nat_lit 60] [] hM_60 (nat_lit 4294967569) (nat_lit 840) (nat_lit 4500) (eJ (nat_lit 2147483708)) = true := by sorry
set_option maxRecDepth 1000000 in
theorem run_m80 : rrun rCf1 rMt rBL 227 (rlp rCf1 227 45 (rLt 227 45) kV2 (rRn [(nat_lit 270, nat_lit 270), (nat_lit 271, nat_lit 447), (nat_lit 272, nat_lit 459)] (nat_lit 4294967566) 45 [nat_lit 4294967460, nat_lit 17179869185, nat_lit 100] hM_100 (nat_lit 4294967569) (nat_lit 1400) (nat_lit 7500) (eJ (nat_lit 2147483748))) (nat_lit 19)) kV2 (nat_lit 100000) (rLt 227 45) [nat_lit 4294967460, nat_lit 17179869185, nat_lit 80] [] hM_80 (nat_lit 4294967567) (nat_lit 1120) (nat_lit 6000) (eJ (nat_lit 2147483728)) = true := by sorry

/-! RUNS BY THE KERNEL: 946.model -/
set_option maxRecDepth 1000000 in
theorem run_m100 : rrun rCf1 rMt rBL 227 (rlp rCf1 227 45 (rLt 227 45) kV2 (rRn [(nat_lit 270, nat_lit 270)] (nat_lit 4294967566) 45 [nat_lit 4294967460, nat_lit 17179869185, nat_lit 120] hM_120 (nat_lit 4294967567) (nat_lit 1680) (nat_lit 9000) (eJ (nat_lit 2147483768))) (nat_lit 19)) kV2 (nat_lit 100000) (rLt 227 45) [nat_lit 4294967460, nat_lit 17179869185, nat_lit 100] [] hM_100 (nat_lit 4294967569) (nat_lit 1400) (nat_lit 7500) (eJ (nat_lit 2147483748)) = true := by sorry
set_option maxRecDepth 1000000 in
theorem run_m120 : rrun rCf1 rMt rBL 227 (rlp rCf1 227 45 (rLt 227 45) kV2 (rRn [(nat_lit 270, nat_lit 270)] (nat_lit 4294967566) 45 [nat_lit 4294967460, nat_lit 17179869185, nat_lit 140] hM_140 (nat_lit 4294967567) (nat_lit 1960) (nat_lit 10500) (eJ (nat_lit 2147483788))) (nat_lit 19)) kV2 (nat_lit 100000) (rLt 227 45) [nat_lit 4294967460, nat_lit 17179869185, nat_lit 120] [] hM_120 (nat_lit 4294967567) (nat_lit 1680) (nat_lit 9000) (eJ (nat_lit 2147483768)) = true := by sorry
set_option maxRecDepth 1000000 in
theorem run_m140 : rrun rCf1 rMt rBL 227 (rlp rCf1 227 45 (rLt 227 45) kV2 (rRn [(nat_lit 270, nat_lit 270), (nat_lit 271, nat_lit 483)] (nat_lit 4294967566) 45 [nat_lit 4294967460, nat_lit 17179869185, nat_lit 160] hM_160 (nat_lit 4294967568) (nat_lit 2240) (nat_lit 12000) (eJ (nat_lit 2147483808))) (nat_lit 19)) kV2 (nat_lit 100000) (rLt 227 45) [nat_lit 4294967460, nat_lit 17179869185, nat_lit 140] [] hM_140 (nat_lit 4294967567) (nat_lit 1960) (nat_lit 10500) (eJ (nat_lit 2147483788)) = true := by sorry
set_option maxRecDepth 1000000 in
theorem run_m160 : rrun rCf1 rMt rBL 227 (rlp rCf1 227 45 (rLt 227 45) kV2 (rRn [(nat_lit 270, nat_lit 270)] (nat_lit 4294967566) 45 [nat_lit 4294967460, nat_lit 17179869185, nat_lit 180] hM_180 (nat_lit 4294967567) (nat_lit 2520) (nat_lit 13500) (eJ (nat_lit 2147483828))) (nat_lit 19)) kV2 (nat_lit 100000) (rLt 227 45) [nat_lit 4294967460, nat_lit 17179869185, nat_lit 160] [] hM_160 (nat_lit 4294967568) (nat_lit 2240) (nat_lit 12000) (eJ (nat_lit 2147483808)) = true := by sorry
set_option maxRecDepth 1000000 in
theorem run_m180 : rrun rCf1 rMt rBL 227 (rlp rCf1 227 45 (rLt 227 45) kV2 (rRn [(nat_lit 270, nat_lit 270), (nat_lit 271, nat_lit 459), (nat_lit 272, nat_lit 471)] (nat_lit 4294967566) 45 [nat_lit 4294967460, nat_lit 17179869185, nat_lit 200] hM_200 (nat_lit 4294967569) (nat_lit 2800) (nat_lit 15000) (eJ (nat_lit 2147483848))) (nat_lit 19)) kV2 (nat_lit 100000) (rLt 227 45) [nat_lit 4294967460, nat_lit 17179869185, nat_lit 180] [] hM_180 (nat_lit 4294967567) (nat_lit 2520) (nat_lit 13500) (eJ (nat_lit 2147483828)) = true := by sorry

/-! RUNS BY THE KERNEL: 947.model -/
set_option maxRecDepth 1000000 in
theorem run_m200 : rrun rCf1 rMt rBL 227 (rlp rCf1 227 45 (rLt 227 45) kV2 (rRn [(nat_lit 270, nat_lit 270)] (nat_lit 4294967566) 45 [nat_lit 4294967460, nat_lit 17179869185, nat_lit 220] hM_220 (nat_lit 4294967567) (nat_lit 3080) (nat_lit 16500) (eJ (nat_lit 2147483868))) (nat_lit 19)) kV2 (nat_lit 100000) (rLt 227 45) [nat_lit 4294967460, nat_lit 17179869185, nat_lit 200] [] hM_200 (nat_lit 4294967569) (nat_lit 2800) (nat_lit 15000) (eJ (nat_lit 2147483848)) = true := by sorry
set_option maxRecDepth 1000000 in
theorem run_m220 : rrun rCf1 rMt rBL 227 (rlp rCf1 227 45 (rLt 227 45) kV2 (rRn [(nat_lit 270, nat_lit 270), (nat_lit 271, nat_lit 449)] (nat_lit 4294967566) 45 [nat_lit 4294967460, nat_lit 17179869185, nat_lit 240] hM_240 (nat_lit 4294967568) (nat_lit 3360) (nat_lit 18000) (eJ (nat_lit 2147483888))) (nat_lit 19)) kV2 (nat_lit 100000) (rLt 227 45) [nat_lit 4294967460, nat_lit 17179869185, nat_lit 220] [] hM_220 (nat_lit 4294967567) (nat_lit 3080) (nat_lit 16500) (eJ (nat_lit 2147483868)) = true := by sorry
set_option maxRecDepth 1000000 in
theorem run_m240 : rrun rCf1 rMt rBL 227 (rlp rCf1 227 45 (rLt 227 45) kV2 (rRn [(nat_lit 270, nat_lit 270)] (nat_lit 4294967566) 45 [nat_lit 4294967460, nat_lit 17179869185, nat_lit 260] hM_260 (nat_lit 4294967567) (nat_lit 3640) (nat_lit 19500) (eJ (nat_lit 2147483908))) (nat_lit 19)) kV2 (nat_lit 100000) (rLt 227 45) [nat_lit 4294967460, nat_lit 17179869185, nat_lit 240] [] hM_240 (nat_lit 4294967568) (nat_lit 3360) (nat_lit 18000) (eJ (nat_lit 2147483888)) = true := by sorry
set_option maxRecDepth 1000000 in
theorem run_m260 : rrun rCf1 rMt rBL 227 (rlp rCf1 227 45 (rLt 227 45) kV2 (rRn [(nat_lit 270, nat_lit 270)] (nat_lit 4294967566) 45 [nat_lit 4294967460, nat_lit 17179869185, nat_lit 280] hM_280 (nat_lit 4294967567) (nat_lit 3920) (nat_lit 21000) (eJ (nat_lit 2147483928))) (nat_lit 19)) kV2 (nat_lit 100000) (rLt 227 45) [nat_lit 4294967460, nat_lit 17179869185, nat_lit 260] [] hM_260 (nat_lit 4294967567) (nat_lit 3640) (nat_lit 19500) (eJ (nat_lit 2147483908)) = true := by sorry
set_option maxRecDepth 1000000 in
theorem run_m280 : rrun rCf1 rMt rBL 227 (rlp rCf1 227 45 (rLt 227 45) kV2 rkF (nat_lit 20)) kV2 (nat_lit 100000) (rLt 227 45) [nat_lit 4294967460, nat_lit 17179869185, nat_lit 280] [] hM_280 (nat_lit 4294967567) (nat_lit 3920) (nat_lit 21000) (eJ (nat_lit 2147483928)) = true := by sorry

/-! RUNS BY THE KERNEL: 948.cases -/
set_option maxRecDepth 1000000 in
theorem run_case0 : rrun rCf1 rMt rBL 338 (rkb2 rCf1) rk1 100000 rL28 rl1 [] (rh2 9) (nat_lit 4294967566) (nat_lit 213) (nat_lit 20301) (rEc (nat_lit 2147483648) (nat_lit 2147483648)) = true := by sorry
set_option maxRecDepth 1000000 in
theorem run_case1 : rrun rCf1 rMt rBL 338 (rkb2 rCf1) rk1 100000 rL28 rl1 [] (rh2 9) (nat_lit 4294967566) (nat_lit 213) (nat_lit 20301) (rEc (nat_lit 2147483649) (nat_lit 2147483649)) = true := by sorry
set_option maxRecDepth 1000000 in
theorem run_case2 : rrun rCf1 rMt rBL 338 (rkb2 rCf1) rk1 100000 rL28 rl1 [] (rh2 9) (nat_lit 4294967566) (nat_lit 213) (nat_lit 20301) (rEc (nat_lit 2147483650) (nat_lit 2147483650)) = true := by sorry
set_option maxRecDepth 1000000 in
theorem run_case4 : rrun rCf1 rMt rBL 338 (rkb2 rCf1) rk1 100000 rL28 rl1 [] (rh2 9) (nat_lit 4294967566) (nat_lit 213) (nat_lit 20301) (rEc (nat_lit 2147483652) (nat_lit 2147483652)) = true := by sorry
set_option maxRecDepth 1000000 in
theorem run_case5 : rrun rCf1 rMt rBL 338 (rkb2 rCf1) rk1 100000 rL28 rl1 [] (rh2 9) (nat_lit 4294967566) (nat_lit 213) (nat_lit 20301) (rEc (nat_lit 2147483653) (nat_lit 2147483653)) = true := by sorry
set_option maxRecDepth 1000000 in
theorem run_case6 : rrun rCf1 rMt rBL 338 (rkb2 rCf1) rk1 100000 rL28 rl1 [] (rh2 9) (nat_lit 4294967566) (nat_lit 213) (nat_lit 20301) (rEc (nat_lit 2147483654) (nat_lit 2147483654)) = true := by sorry
set_option maxRecDepth 1000000 in
theorem run_case7 : rrun rCf1 rMt rBL 338 (rkb2 rCf1) rk1 100000 rL28 rl1 [] (rh2 9) (nat_lit 4294967566) (nat_lit 213) (nat_lit 20301) (rEc (nat_lit 2147483655) (nat_lit 2147483655)) = true := by sorry
set_option maxRecDepth 1000000 in
theorem run_case8 : rrun rCf1 rMt rBL 338 (rkb2 rCf1) rk1 100000 rL28 rl1 [] (rh2 9) (nat_lit 4294967566) (nat_lit 213) (nat_lit 20301) (rEc (nat_lit 2147483656) (nat_lit 2147483656)) = true := by sorry
set_option maxRecDepth 1000000 in
theorem run_case9 : rrun rCf1 rMt rBL 338 (rkb2 rCf1) rk1 100000 rL28 rl1 [] (rh2 9) (nat_lit 4294967566) (nat_lit 213) (nat_lit 20301) (rEc (nat_lit 2147483657) (nat_lit 2147483657)) = true := by sorry
set_option maxRecDepth 1000000 in
theorem run_case10 : rrun rCf1 rMt rBL 338 (rkb2 rCf1) rk1 100000 rL28 rl1 [] (rh2 9) (nat_lit 4294967566) (nat_lit 213) (nat_lit 20301) (rEc (nat_lit 2147483658) (nat_lit 2147483658)) = true := by sorry
set_option maxRecDepth 1000000 in
theorem run_case11 : rrun rCf1 rMt rBL 338 (rkb2 rCf1) rk1 100000 rL28 rl1 [] (rh2 9) (nat_lit 4294967566) (nat_lit 213) (nat_lit 20301) (rEc (nat_lit 2147483659) (nat_lit 2147483659)) = true := by sorry
set_option maxRecDepth 1000000 in
theorem run_case12 : rrun rCf1 rMt rBL 338 (rkb2 rCf1) rk1 100000 rL28 rl1 [] (rh2 9) (nat_lit 4294967566) (nat_lit 213) (nat_lit 20301) (rEc (nat_lit 2147483660) (nat_lit 2147483660)) = true := by sorry
set_option maxRecDepth 1000000 in
theorem run_case13 : rrun rCf1 rMt rBL 338 (rkb2 rCf1) rk1 100000 rL28 rl1 [] (rh2 9) (nat_lit 4294967566) (nat_lit 213) (nat_lit 20301) (rEc (nat_lit 2147483661) (nat_lit 2147483661)) = true := by sorry
set_option maxRecDepth 1000000 in
theorem run_case14 : rrun rCf1 rMt rBL 338 (rkb2 rCf1) rk1 100000 rL28 rl1 [] (rh2 9) (nat_lit 4294967566) (nat_lit 213) (nat_lit 20301) (rEc (nat_lit 2147483662) (nat_lit 2147483662)) = true := by sorry
set_option maxRecDepth 1000000 in
theorem run_case15 : rrun rCf1 rMt rBL 338 (rkb2 rCf1) rk1 100000 rL28 rl1 [] (rh2 9) (nat_lit 4294967566) (nat_lit 213) (nat_lit 20301) (rEc (nat_lit 2147483663) (nat_lit 2147483663)) = true := by sorry
set_option maxRecDepth 1000000 in
theorem run_case16 : rrun rCf1 rMt rBL 338 (rkb2 rCf1) rk1 100000 rL28 rl1 [] (rh2 9) (nat_lit 4294967566) (nat_lit 213) (nat_lit 20301) (rEc (nat_lit 2147483664) (nat_lit 2147483664)) = true := by sorry
set_option maxRecDepth 1000000 in
theorem run_case18 : rrun rCf1 rMt rBL 338 (rkb2 rCf1) rk1 100000 rL28 rl1 [] (rh2 9) (nat_lit 4294967566) (nat_lit 213) (nat_lit 20301) (rEc (nat_lit 2147483666) (nat_lit 2147483666)) = true := by sorry
set_option maxRecDepth 1000000 in
theorem run_case20 : rrun rCf1 rMt rBL 338 (rkb2 rCf1) rk1 100000 rL28 rl1 [] (rh2 9) (nat_lit 4294967566) (nat_lit 213) (nat_lit 20301) (rEc (nat_lit 2147483668) (nat_lit 2147483668)) = true := by sorry
set_option maxRecDepth 1000000 in
theorem run_case21 : rrun rCf1 rMt rBL 338 (rkb2 rCf1) rk1 100000 rL28 rl1 [] (rh2 9) (nat_lit 4294967566) (nat_lit 213) (nat_lit 20301) (rEc (nat_lit 2147483669) (nat_lit 2147483669)) = true := by sorry
set_option maxRecDepth 1000000 in
theorem run_case22 : rrun rCf1 rMt rBL 338 (rkb2 rCf1) rk1 100000 rL28 rl1 [] (rh2 9) (nat_lit 4294967566) (nat_lit 213) (nat_lit 20301) (rEc (nat_lit 2147483670) (nat_lit 2147483670)) = true := by sorry
set_option maxRecDepth 1000000 in
theorem run_case23 : rrun rCf1 rMt rBL 338 (rkb2 rCf1) rk1 100000 rL28 rl1 [] (rh2 9) (nat_lit 4294967566) (nat_lit 213) (nat_lit 20301) (rEc (nat_lit 2147483671) (nat_lit 2147483671)) = true := by sorry
set_option maxRecDepth 1000000 in
theorem run_case24 : rrun rCf1 rMt rBL 338 (rkb2 rCf1) rk1 100000 rL28 rl1 [] (rh2 9) (nat_lit 4294967566) (nat_lit 213) (nat_lit 20301) (rEc (nat_lit 2147483672) (nat_lit 2147483672)) = true := by sorry
set_option maxRecDepth 1000000 in
theorem run_case25 : rrun rCf1 rMt rBL 338 (rkb2 rCf1) rk1 100000 rL28 rl1 [] (rh2 9) (nat_lit 4294967566) (nat_lit 213) (nat_lit 20301) (rEc (nat_lit 2147483673) (nat_lit 2147483673)) = true := by sorry
set_option maxRecDepth 1000000 in
theorem run_case26 : rrun rCf1 rMt rBL 338 (rkb2 rCf1) rk1 100000 rL28 rl1 [] (rh2 9) (nat_lit 4294967566) (nat_lit 213) (nat_lit 20301) (rEc (nat_lit 2147483674) (nat_lit 2147483674)) = true := by sorry
set_option maxRecDepth 1000000 in
theorem run_case28 : rrun rCf1 rMt rBL 338 (rkb2 rCf1) rk1 100000 rL28 rl1 [] (rh2 9) (nat_lit 4294967566) (nat_lit 213) (nat_lit 20301) (rEc (nat_lit 2147483676) (nat_lit 2147483676)) = true := by sorry
set_option maxRecDepth 1000000 in
theorem run_case29 : rrun rCf1 rMt rBL 338 (rkb2 rCf1) rk1 100000 rL28 rl1 [] (rh2 9) (nat_lit 4294967566) (nat_lit 213) (nat_lit 20301) (rEc (nat_lit 2147483677) (nat_lit 2147483677)) = true := by sorry
set_option maxRecDepth 1000000 in
theorem run_case30 : rrun rCf1 rMt rBL 338 (rkb2 rCf1) rk1 100000 rL28 rl1 [] (rh2 9) (nat_lit 4294967566) (nat_lit 213) (nat_lit 20301) (rEc (nat_lit 2147483678) (nat_lit 2147483678)) = true := by sorry
set_option maxRecDepth 1000000 in
theorem run_case31 : rrun rCf1 rMt rBL 338 (rkb2 rCf1) rk1 100000 rL28 rl1 [] (rh2 9) (nat_lit 4294967566) (nat_lit 213) (nat_lit 20301) (rEc (nat_lit 2147483679) (nat_lit 2147483679)) = true := by sorry
set_option maxRecDepth 1000000 in
theorem run_case32 : rrun rCf1 rMt rBL 338 (rkb2 rCf1) rk1 100000 rL28 rl1 [] (rh2 9) (nat_lit 4294967566) (nat_lit 213) (nat_lit 20301) (rEc (nat_lit 2147483680) (nat_lit 2147483680)) = true := by sorry
set_option maxRecDepth 1000000 in
theorem run_case33 : rrun rCf1 rMt rBL 338 (rkb2 rCf1) rk1 100000 rL28 rl1 [] (rh2 9) (nat_lit 4294967566) (nat_lit 213) (nat_lit 20301) (rEc (nat_lit 2147483681) (nat_lit 2147483681)) = true := by sorry
set_option maxRecDepth 1000000 in
theorem run_case34 : rrun rCf1 rMt rBL 338 (rkb2 rCf1) rk1 100000 rL28 rl1 [] (rh2 9) (nat_lit 4294967566) (nat_lit 213) (nat_lit 20301) (rEc (nat_lit 2147483682) (nat_lit 2147483682)) = true := by sorry
set_option maxRecDepth 1000000 in
theorem run_case35 : rrun rCf1 rMt rBL 338 (rkb2 rCf1) rk1 100000 rL28 rl1 [] (rh2 9) (nat_lit 4294967566) (nat_lit 213) (nat_lit 20301) (rEc (nat_lit 2147483683) (nat_lit 2147483683)) = true := by sorry
set_option maxRecDepth 1000000 in
theorem run_case36 : rrun rCf1 rMt rBL 338 (rkb2 rCf1) rk1 100000 rL28 rl1 [] (rh2 9) (nat_lit 4294967566) (nat_lit 213) (nat_lit 20301) (rEc (nat_lit 2147483684) (nat_lit 2147483684)) = true := by sorry
set_option maxRecDepth 1000000 in
theorem run_case37 : rrun rCf1 rMt rBL 338 (rkb2 rCf1) rk1 100000 rL28 rl1 [] (rh2 9) (nat_lit 4294967566) (nat_lit 213) (nat_lit 20301) (rEc (nat_lit 2147483685) (nat_lit 2147483685)) = true := by sorry
set_option maxRecDepth 1000000 in
theorem run_case38 : rrun rCf1 rMt rBL 338 (rkb2 rCf1) rk1 100000 rL28 rl1 [] (rh2 9) (nat_lit 4294967566) (nat_lit 213) (nat_lit 20301) (rEc (nat_lit 2147483686) (nat_lit 2147483686)) = true := by sorry
set_option maxRecDepth 1000000 in
theorem run_case39 : rrun rCf1 rMt rBL 338 (rkb2 rCf1) rk1 100000 rL28 rl1 [] (rh2 9) (nat_lit 4294967566) (nat_lit 213) (nat_lit 20301) (rEc (nat_lit 2147483687) (nat_lit 2147483687)) = true := by sorry
set_option maxRecDepth 1000000 in
theorem run_case40 : rrun rCf1 rMt rBL 338 (rkb2 rCf1) rk1 100000 rL28 rl1 [] (rh2 9) (nat_lit 4294967566) (nat_lit 213) (nat_lit 20301) (rEc (nat_lit 2147483688) (nat_lit 2147483688)) = true := by sorry
set_option maxRecDepth 1000000 in
theorem run_case41 : rrun rCf1 rMt rBL 338 (rkb2 rCf1) rk1 100000 rL28 rl1 [] (rh2 9) (nat_lit 4294967566) (nat_lit 213) (nat_lit 20301) (rEc (nat_lit 2147483689) (nat_lit 2147483689)) = true := by sorry
set_option maxRecDepth 1000000 in
theorem run_case42 : rrun rCf1 rMt rBL 338 (rkb2 rCf1) rk1 100000 rL28 rl1 [] (rh2 9) (nat_lit 4294967566) (nat_lit 213) (nat_lit 20301) (rEc (nat_lit 2147483690) (nat_lit 2147483690)) = true := by sorry
set_option maxRecDepth 1000000 in
theorem run_case43 : rrun rCf1 rMt rBL 338 (rkb2 rCf1) rk1 100000 rL28 rl1 [] (rh2 9) (nat_lit 4294967566) (nat_lit 213) (nat_lit 20301) (rEc (nat_lit 2147483691) (nat_lit 2147483691)) = true := by sorry
set_option maxRecDepth 1000000 in
theorem run_case44 : rrun rCf1 rMt rBL 338 (rkb2 rCf1) rk1 100000 rL28 rl1 [] (rh2 9) (nat_lit 4294967566) (nat_lit 213) (nat_lit 20301) (rEc (nat_lit 2147483692) (nat_lit 2147483692)) = true := by sorry
set_option maxRecDepth 1000000 in
theorem run_case45 : rrun rCf1 rMt rBL 338 (rkb2 rCf1) rk1 100000 rL28 rl1 [] (rh2 9) (nat_lit 4294967566) (nat_lit 213) (nat_lit 20301) (rEc (nat_lit 2147483693) (nat_lit 2147483693)) = true := by sorry
set_option maxRecDepth 1000000 in
theorem run_case46 : rrun rCf1 rMt rBL 338 (rkb2 rCf1) rk1 100000 rL28 rl1 [] (rh2 9) (nat_lit 4294967566) (nat_lit 213) (nat_lit 20301) (rEc (nat_lit 2147483694) (nat_lit 2147483694)) = true := by sorry
set_option maxRecDepth 1000000 in
theorem run_case47 : rrun rCf1 rMt rBL 338 (rkb2 rCf1) rk1 100000 rL28 rl1 [] (rh2 9) (nat_lit 4294967566) (nat_lit 213) (nat_lit 20301) (rEc (nat_lit 2147483695) (nat_lit 2147483695)) = true := by sorry
set_option maxRecDepth 1000000 in
theorem run_case49 : rrun rCf1 rMt rBL 338 (rkb2 rCf1) rk1 100000 rL28 rl1 [] (rh2 9) (nat_lit 4294967566) (nat_lit 213) (nat_lit 20301) (rEc (nat_lit 2147483697) (nat_lit 2147483697)) = true := by sorry

/-! RUNS BY THE KERNEL: 949.cases -/
set_option maxRecDepth 1000000 in
theorem run_case19 : rrun rCf1 rMt rBL 338 (rkb2 rCf1) rk1 100000 rL28 rl1 [] (rh2 9) (nat_lit 4294967566) (nat_lit 213) (nat_lit 20301) (rEc (nat_lit 2147483667) (nat_lit 2147483667)) = true := by sorry
set_option maxRecDepth 1000000 in
theorem run_case27 : rrun rCf1 rMt rBL 338 (rkb2 rCf1) rk1 100000 rL28 rl1 [] (rh2 9) (nat_lit 4294967566) (nat_lit 213) (nat_lit 20301) (rEc (nat_lit 2147483675) (nat_lit 2147483675)) = true := by sorry
set_option maxRecDepth 1000000 in
theorem run_case48 : rrun rCf1 rMt rBL 338 (rkb2 rCf1) rk1 100000 rL28 rl1 [] (rh2 9) (nat_lit 4294967566) (nat_lit 213) (nat_lit 20301) (rEc (nat_lit 2147483696) (nat_lit 2147483696)) = true := by sorry

/-! RUNS BY THE KERNEL: 95a.flip -/
set_option maxRecDepth 1000000 in
theorem run_flip0 : rrun rCf1 rMt rBL 338 (rkb2 rCf1) rk1 100000 rL28 rl1 [] (rh2 9) (nat_lit 4294967566) (nat_lit 213) (nat_lit 20301) (rEf (nat_lit 0) (nat_lit 2147483647) (nat_lit 0) (nat_lit 4294967295)) = true := by sorry
set_option maxRecDepth 1000000 in
theorem run_flip1 : rrun rCf1 rMt rBL 338 (rkb2 rCf1) rk1 100000 rL28 rl1 [] (rh2 9) (nat_lit 4294967566) (nat_lit 213) (nat_lit 20301) (rEf (nat_lit 2147483652) (nat_lit 4294967295) (nat_lit 0) (nat_lit 4294967295)) = true := by sorry
set_option maxRecDepth 1000000 in
theorem run_flip2 : rrun rCf1 rMt rBL 338 (rkb2 rCf1) rk1 100000 rL28 rl1 [] (rh2 9) (nat_lit 4294967566) (nat_lit 213) (nat_lit 20301) (rEf (nat_lit 2147483648) (nat_lit 2147483648) (nat_lit 0) (nat_lit 2147483647)) = true := by sorry
set_option maxRecDepth 1000000 in
theorem run_flip3 : rrun rCf1 rMt rBL 338 (rkb2 rCf1) rk1 100000 rL28 rl1 [] (rh2 9) (nat_lit 4294967566) (nat_lit 213) (nat_lit 20301) (rEf (nat_lit 2147483648) (nat_lit 2147483648) (nat_lit 2147483712) (nat_lit 4294967295)) = true := by sorry
set_option maxRecDepth 1000000 in
theorem run_flip12 : rrun rCf1 rMt rBL 338 (rkb2 rCf1) rk1 100000 rL28 rl1 [] (rh2 9) (nat_lit 4294967566) (nat_lit 213) (nat_lit 20301) (rEf (nat_lit 2147483649) (nat_lit 2147483649) (nat_lit 0) (nat_lit 2147483647)) = true := by sorry
set_option maxRecDepth 1000000 in
theorem run_flip13 : rrun rCf1 rMt rBL 338 (rkb2 rCf1) rk1 100000 rL28 rl1 [] (rh2 9) (nat_lit 4294967566) (nat_lit 213) (nat_lit 20301) (rEf (nat_lit 2147483649) (nat_lit 2147483649) (nat_lit 2147483712) (nat_lit 4294967295)) = true := by sorry
set_option maxRecDepth 1000000 in
theorem run_flip22 : rrun rCf1 rMt rBL 338 (rkb2 rCf1) rk1 100000 rL28 rl1 [] (rh2 9) (nat_lit 4294967566) (nat_lit 213) (nat_lit 20301) (rEf (nat_lit 2147483650) (nat_lit 2147483650) (nat_lit 0) (nat_lit 2147483647)) = true := by sorry
set_option maxRecDepth 1000000 in
theorem run_flip23 : rrun rCf1 rMt rBL 338 (rkb2 rCf1) rk1 100000 rL28 rl1 [] (rh2 9) (nat_lit 4294967566) (nat_lit 213) (nat_lit 20301) (rEf (nat_lit 2147483650) (nat_lit 2147483650) (nat_lit 2147483712) (nat_lit 4294967295)) = true := by sorry
set_option maxRecDepth 1000000 in
theorem run_flip32 : rrun rCf1 rMt rBL 338 (rkb2 rCf1) rk1 100000 rL28 rl1 [] (rh2 9) (nat_lit 4294967566) (nat_lit 213) (nat_lit 20301) (rEf (nat_lit 2147483651) (nat_lit 2147483651) (nat_lit 0) (nat_lit 2147483647)) = true := by sorry
set_option maxRecDepth 1000000 in
theorem run_flip33 : rrun rCf1 rMt rBL 338 (rkb2 rCf1) rk1 100000 rL28 rl1 [] (rh2 9) (nat_lit 4294967566) (nat_lit 213) (nat_lit 20301) (rEf (nat_lit 2147483651) (nat_lit 2147483651) (nat_lit 2147483712) (nat_lit 4294967295)) = true := by sorry

/-! RUNS BY THE KERNEL: 95b.flip -/
set_option maxRecDepth 1000000 in
theorem run_flip4 : rrun rCf1 rMt rBL 338 (rkb2 rCf1) rk1 100000 rL28 rl1 [] (rh2 9) (nat_lit 4294967566) (nat_lit 213) (nat_lit 20301) (rEf (nat_lit 2147483648) (nat_lit 2147483648) (nat_lit 2147483648) (nat_lit 2147483655)) = true := by sorry
set_option maxRecDepth 1000000 in
theorem run_flip5 : rrun rCf1 rMt rBL 338 (rkb2 rCf1) rk1 100000 rL28 rl1 [] (rh2 9) (nat_lit 4294967566) (nat_lit 213) (nat_lit 20301) (rEf (nat_lit 2147483648) (nat_lit 2147483648) (nat_lit 2147483656) (nat_lit 2147483663)) = true := by sorry
set_option maxRecDepth 1000000 in
theorem run_flip6 : rrun rCf1 rMt rBL 338 (rkb2 rCf1) rk1 100000 rL28 rl1 [] (rh2 9) (nat_lit 4294967566) (nat_lit 213) (nat_lit 20301) (rEf (nat_lit 2147483648) (nat_lit 2147483648) (nat_lit 2147483664) (nat_lit 2147483671)) = true := by sorry
set_option maxRecDepth 1000000 in
theorem run_flip7 : rrun rCf1 rMt rBL 338 (rkb2 rCf1) rk1 100000 rL28 rl1 [] (rh2 9) (nat_lit 4294967566) (nat_lit 213) (nat_lit 20301) (rEf (nat_lit 2147483648) (nat_lit 2147483648) (nat_lit 2147483672) (nat_lit 2147483679)) = true := by sorry
set_option maxRecDepth 1000000 in
theorem run_flip8 : rrun rCf1 rMt rBL 338 (rkb2 rCf1) rk1 100000 rL28 rl1 [] (rh2 9) (nat_lit 4294967566) (nat_lit 213) (nat_lit 20301) (rEf (nat_lit 2147483648) (nat_lit 2147483648) (nat_lit 2147483680) (nat_lit 2147483687)) = true := by sorry
set_option maxRecDepth 1000000 in
theorem run_flip9 : rrun rCf1 rMt rBL 338 (rkb2 rCf1) rk1 100000 rL28 rl1 [] (rh2 9) (nat_lit 4294967566) (nat_lit 213) (nat_lit 20301) (rEf (nat_lit 2147483648) (nat_lit 2147483648) (nat_lit 2147483688) (nat_lit 2147483695)) = true := by sorry
set_option maxRecDepth 1000000 in
theorem run_flip10 : rrun rCf1 rMt rBL 338 (rkb2 rCf1) rk1 100000 rL28 rl1 [] (rh2 9) (nat_lit 4294967566) (nat_lit 213) (nat_lit 20301) (rEf (nat_lit 2147483648) (nat_lit 2147483648) (nat_lit 2147483696) (nat_lit 2147483703)) = true := by sorry
set_option maxRecDepth 1000000 in
theorem run_flip11 : rrun rCf1 rMt rBL 338 (rkb2 rCf1) rk1 100000 rL28 rl1 [] (rh2 9) (nat_lit 4294967566) (nat_lit 213) (nat_lit 20301) (rEf (nat_lit 2147483648) (nat_lit 2147483648) (nat_lit 2147483704) (nat_lit 2147483711)) = true := by sorry

/-! RUNS BY THE KERNEL: 95c.flip -/
set_option maxRecDepth 1000000 in
theorem run_flip14 : rrun rCf1 rMt rBL 338 (rkb2 rCf1) rk1 100000 rL28 rl1 [] (rh2 9) (nat_lit 4294967566) (nat_lit 213) (nat_lit 20301) (rEf (nat_lit 2147483649) (nat_lit 2147483649) (nat_lit 2147483648) (nat_lit 2147483655)) = true := by sorry
set_option maxRecDepth 1000000 in
theorem run_flip15 : rrun rCf1 rMt rBL 338 (rkb2 rCf1) rk1 100000 rL28 rl1 [] (rh2 9) (nat_lit 4294967566) (nat_lit 213) (nat_lit 20301) (rEf (nat_lit 2147483649) (nat_lit 2147483649) (nat_lit 2147483656) (nat_lit 2147483663)) = true := by sorry
set_option maxRecDepth 1000000 in
theorem run_flip16 : rrun rCf1 rMt rBL 338 (rkb2 rCf1) rk1 100000 rL28 rl1 [] (rh2 9) (nat_lit 4294967566) (nat_lit 213) (nat_lit 20301) (rEf (nat_lit 2147483649) (nat_lit 2147483649) (nat_lit 2147483664) (nat_lit 2147483671)) = true := by sorry
set_option maxRecDepth 1000000 in
theorem run_flip17 : rrun rCf1 rMt rBL 338 (rkb2 rCf1) rk1 100000 rL28 rl1 [] (rh2 9) (nat_lit 4294967566) (nat_lit 213) (nat_lit 20301) (rEf (nat_lit 2147483649) (nat_lit 2147483649) (nat_lit 2147483672) (nat_lit 2147483679)) = true := by sorry
set_option maxRecDepth 1000000 in
theorem run_flip18 : rrun rCf1 rMt rBL 338 (rkb2 rCf1) rk1 100000 rL28 rl1 [] (rh2 9) (nat_lit 4294967566) (nat_lit 213) (nat_lit 20301) (rEf (nat_lit 2147483649) (nat_lit 2147483649) (nat_lit 2147483680) (nat_lit 2147483687)) = true := by sorry
set_option maxRecDepth 1000000 in
theorem run_flip19 : rrun rCf1 rMt rBL 338 (rkb2 rCf1) rk1 100000 rL28 rl1 [] (rh2 9) (nat_lit 4294967566) (nat_lit 213) (nat_lit 20301) (rEf (nat_lit 2147483649) (nat_lit 2147483649) (nat_lit 2147483688) (nat_lit 2147483695)) = true := by sorry
set_option maxRecDepth 1000000 in
theorem run_flip20 : rrun rCf1 rMt rBL 338 (rkb2 rCf1) rk1 100000 rL28 rl1 [] (rh2 9) (nat_lit 4294967566) (nat_lit 213) (nat_lit 20301) (rEf (nat_lit 2147483649) (nat_lit 2147483649) (nat_lit 2147483696) (nat_lit 2147483703)) = true := by sorry
set_option maxRecDepth 1000000 in
theorem run_flip21 : rrun rCf1 rMt rBL 338 (rkb2 rCf1) rk1 100000 rL28 rl1 [] (rh2 9) (nat_lit 4294967566) (nat_lit 213) (nat_lit 20301) (rEf (nat_lit 2147483649) (nat_lit 2147483649) (nat_lit 2147483704) (nat_lit 2147483711)) = true := by sorry

/-! RUNS BY THE KERNEL: 95d.flip -/
set_option maxRecDepth 1000000 in
theorem run_flip24 : rrun rCf1 rMt rBL 338 (rkb2 rCf1) rk1 100000 rL28 rl1 [] (rh2 9) (nat_lit 4294967566) (nat_lit 213) (nat_lit 20301) (rEf (nat_lit 2147483650) (nat_lit 2147483650) (nat_lit 2147483648) (nat_lit 2147483655)) = true := by sorry
set_option maxRecDepth 1000000 in
theorem run_flip25 : rrun rCf1 rMt rBL 338 (rkb2 rCf1) rk1 100000 rL28 rl1 [] (rh2 9) (nat_lit 4294967566) (nat_lit 213) (nat_lit 20301) (rEf (nat_lit 2147483650) (nat_lit 2147483650) (nat_lit 2147483656) (nat_lit 2147483663)) = true := by sorry
set_option maxRecDepth 1000000 in
theorem run_flip26 : rrun rCf1 rMt rBL 338 (rkb2 rCf1) rk1 100000 rL28 rl1 [] (rh2 9) (nat_lit 4294967566) (nat_lit 213) (nat_lit 20301) (rEf (nat_lit 2147483650) (nat_lit 2147483650) (nat_lit 2147483664) (nat_lit 2147483671)) = true := by sorry
set_option maxRecDepth 1000000 in
theorem run_flip27 : rrun rCf1 rMt rBL 338 (rkb2 rCf1) rk1 100000 rL28 rl1 [] (rh2 9) (nat_lit 4294967566) (nat_lit 213) (nat_lit 20301) (rEf (nat_lit 2147483650) (nat_lit 2147483650) (nat_lit 2147483672) (nat_lit 2147483679)) = true := by sorry
set_option maxRecDepth 1000000 in
theorem run_flip28 : rrun rCf1 rMt rBL 338 (rkb2 rCf1) rk1 100000 rL28 rl1 [] (rh2 9) (nat_lit 4294967566) (nat_lit 213) (nat_lit 20301) (rEf (nat_lit 2147483650) (nat_lit 2147483650) (nat_lit 2147483680) (nat_lit 2147483687)) = true := by sorry
set_option maxRecDepth 1000000 in
theorem run_flip29 : rrun rCf1 rMt rBL 338 (rkb2 rCf1) rk1 100000 rL28 rl1 [] (rh2 9) (nat_lit 4294967566) (nat_lit 213) (nat_lit 20301) (rEf (nat_lit 2147483650) (nat_lit 2147483650) (nat_lit 2147483688) (nat_lit 2147483695)) = true := by sorry
set_option maxRecDepth 1000000 in
theorem run_flip30 : rrun rCf1 rMt rBL 338 (rkb2 rCf1) rk1 100000 rL28 rl1 [] (rh2 9) (nat_lit 4294967566) (nat_lit 213) (nat_lit 20301) (rEf (nat_lit 2147483650) (nat_lit 2147483650) (nat_lit 2147483696) (nat_lit 2147483703)) = true := by sorry
set_option maxRecDepth 1000000 in
theorem run_flip31 : rrun rCf1 rMt rBL 338 (rkb2 rCf1) rk1 100000 rL28 rl1 [] (rh2 9) (nat_lit 4294967566) (nat_lit 213) (nat_lit 20301) (rEf (nat_lit 2147483650) (nat_lit 2147483650) (nat_lit 2147483704) (nat_lit 2147483711)) = true := by sorry

/-! RUNS BY THE KERNEL: 95e.flip -/
set_option maxRecDepth 1000000 in
theorem run_flip34 : rrun rCf1 rMt rBL 338 (rkb2 rCf1) rk1 100000 rL28 rl1 [] (rh2 9) (nat_lit 4294967566) (nat_lit 213) (nat_lit 20301) (rEf (nat_lit 2147483651) (nat_lit 2147483651) (nat_lit 2147483648) (nat_lit 2147483655)) = true := by sorry
set_option maxRecDepth 1000000 in
theorem run_flip35 : rrun rCf1 rMt rBL 338 (rkb2 rCf1) rk1 100000 rL28 rl1 [] (rh2 9) (nat_lit 4294967566) (nat_lit 213) (nat_lit 20301) (rEf (nat_lit 2147483651) (nat_lit 2147483651) (nat_lit 2147483656) (nat_lit 2147483663)) = true := by sorry
set_option maxRecDepth 1000000 in
theorem run_flip36 : rrun rCf1 rMt rBL 338 (rkb2 rCf1) rk1 100000 rL28 rl1 [] (rh2 9) (nat_lit 4294967566) (nat_lit 213) (nat_lit 20301) (rEf (nat_lit 2147483651) (nat_lit 2147483651) (nat_lit 2147483664) (nat_lit 2147483671)) = true := by sorry
set_option maxRecDepth 1000000 in
theorem run_flip37 : rrun rCf1 rMt rBL 338 (rkb2 rCf1) rk1 100000 rL28 rl1 [] (rh2 9) (nat_lit 4294967566) (nat_lit 213) (nat_lit 20301) (rEf (nat_lit 2147483651) (nat_lit 2147483651) (nat_lit 2147483672) (nat_lit 2147483679)) = true := by sorry
set_option maxRecDepth 1000000 in
theorem run_flip38 : rrun rCf1 rMt rBL 338 (rkb2 rCf1) rk1 100000 rL28 rl1 [] (rh2 9) (nat_lit 4294967566) (nat_lit 213) (nat_lit 20301) (rEf (nat_lit 2147483651) (nat_lit 2147483651) (nat_lit 2147483680) (nat_lit 2147483687)) = true := by sorry
set_option maxRecDepth 1000000 in
theorem run_flip39 : rrun rCf1 rMt rBL 338 (rkb2 rCf1) rk1 100000 rL28 rl1 [] (rh2 9) (nat_lit 4294967566) (nat_lit 213) (nat_lit 20301) (rEf (nat_lit 2147483651) (nat_lit 2147483651) (nat_lit 2147483688) (nat_lit 2147483695)) = true := by sorry
set_option maxRecDepth 1000000 in
theorem run_flip40 : rrun rCf1 rMt rBL 338 (rkb2 rCf1) rk1 100000 rL28 rl1 [] (rh2 9) (nat_lit 4294967566) (nat_lit 213) (nat_lit 20301) (rEf (nat_lit 2147483651) (nat_lit 2147483651) (nat_lit 2147483696) (nat_lit 2147483703)) = true := by sorry
set_option maxRecDepth 1000000 in
theorem run_flip41 : rrun rCf1 rMt rBL 338 (rkb2 rCf1) rk1 100000 rL28 rl1 [] (rh2 9) (nat_lit 4294967566) (nat_lit 213) (nat_lit 20301) (rEf (nat_lit 2147483651) (nat_lit 2147483651) (nat_lit 2147483704) (nat_lit 2147483711)) = true := by sorry

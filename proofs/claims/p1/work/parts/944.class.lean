/-! RUNS BY THE KERNEL: 944.class -/
set_option maxRecDepth 1000000 in
theorem run_c150 : rrun rCfP rMt rBL 54 (rlp rCfP 54 44 (rLt 54 44) kV1 (rAt 44 [nat_lit 4294967360, nat_lit 17179869185, nat_lit 180] [] hC_180 (nat_lit 4294967566) 0 0 (eJ (nat_lit 2147483828))) (nat_lit 29)) kV1 (nat_lit 100000) (rLt 54 44) [nat_lit 4294967360, nat_lit 17179869185, nat_lit 150] [] hC_150 (nat_lit 4294967566) 0 0 (eJ (nat_lit 2147483798)) = true := by decide +kernel
set_option maxRecDepth 1000000 in
theorem run_c180 : rrun rCfP rMt rBL 54 (rlp rCfP 54 44 (rLt 54 44) kV1 (rAt 44 [nat_lit 4294967360, nat_lit 17179869185, nat_lit 210] [] hC_210 (nat_lit 4294967566) 0 0 (eJ (nat_lit 2147483858))) (nat_lit 29)) kV1 (nat_lit 100000) (rLt 54 44) [nat_lit 4294967360, nat_lit 17179869185, nat_lit 180] [] hC_180 (nat_lit 4294967566) 0 0 (eJ (nat_lit 2147483828)) = true := by decide +kernel
set_option maxRecDepth 1000000 in
theorem run_c210 : rrun rCfP rMt rBL 54 (rlp rCfP 54 44 (rLt 54 44) kV1 (rAt 44 [nat_lit 4294967360, nat_lit 17179869185, nat_lit 240] [] hC_240 (nat_lit 4294967566) 0 0 (eJ (nat_lit 2147483888))) (nat_lit 29)) kV1 (nat_lit 100000) (rLt 54 44) [nat_lit 4294967360, nat_lit 17179869185, nat_lit 210] [] hC_210 (nat_lit 4294967566) 0 0 (eJ (nat_lit 2147483858)) = true := by decide +kernel
set_option maxRecDepth 1000000 in
theorem run_c240 : rrun rCfP rMt rBL 54 (rlp rCfP 54 44 (rLt 54 44) kV1 (rAt 44 [nat_lit 4294967360, nat_lit 17179869185, nat_lit 270] [] hC_270 (nat_lit 4294967566) 0 0 (eJ (nat_lit 2147483918))) (nat_lit 29)) kV1 (nat_lit 100000) (rLt 54 44) [nat_lit 4294967360, nat_lit 17179869185, nat_lit 240] [] hC_240 (nat_lit 4294967566) 0 0 (eJ (nat_lit 2147483888)) = true := by decide +kernel
set_option maxRecDepth 1000000 in
theorem run_c270 : rrun rCfP rMt rBL 54 (rlp rCfP 54 44 (rLt 54 44) kV1 rkF (nat_lit 30)) kV1 (nat_lit 100000) (rLt 54 44) [nat_lit 4294967360, nat_lit 17179869185, nat_lit 270] [] hC_270 (nat_lit 4294967566) 0 0 (eJ (nat_lit 2147483918)) = true := by decide +kernel

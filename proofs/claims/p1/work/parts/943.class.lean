/-! RUNS BY THE KERNEL: 943.class -/
set_option maxRecDepth 1000000 in
theorem run_c0 : rrun rCfP rMt rBL 54 (rlp rCfP 54 44 (rLt 54 44) kV1 (rAt 44 [nat_lit 4294967360, nat_lit 17179869185, nat_lit 30] [] hC_30 (nat_lit 4294967566) 0 0 (eJ (nat_lit 2147483678))) (nat_lit 29)) kV1 (nat_lit 100000) (rLt 54 44) [nat_lit 4294967360, nat_lit 17179869185, nat_lit 0] [] (rh2 9) (nat_lit 4294967566) 0 0 eI = true := by decide +kernel
set_option maxRecDepth 1000000 in
theorem run_c30 : rrun rCfP rMt rBL 54 (rlp rCfP 54 44 (rLt 54 44) kV1 (rAt 44 [nat_lit 4294967360, nat_lit 17179869185, nat_lit 60] [] hC_60 (nat_lit 4294967566) 0 0 (eJ (nat_lit 2147483708))) (nat_lit 29)) kV1 (nat_lit 100000) (rLt 54 44) [nat_lit 4294967360, nat_lit 17179869185, nat_lit 30] [] hC_30 (nat_lit 4294967566) 0 0 (eJ (nat_lit 2147483678)) = true := by decide +kernel
set_option maxRecDepth 1000000 in
theorem run_c60 : rrun rCfP rMt rBL 54 (rlp rCfP 54 44 (rLt 54 44) kV1 (rAt 44 [nat_lit 4294967360, nat_lit 17179869185, nat_lit 90] [] hC_90 (nat_lit 4294967566) 0 0 (eJ (nat_lit 2147483738))) (nat_lit 29)) kV1 (nat_lit 100000) (rLt 54 44) [nat_lit 4294967360, nat_lit 17179869185, nat_lit 60] [] hC_60 (nat_lit 4294967566) 0 0 (eJ (nat_lit 2147483708)) = true := by decide +kernel
set_option maxRecDepth 1000000 in
theorem run_c90 : rrun rCfP rMt rBL 54 (rlp rCfP 54 44 (rLt 54 44) kV1 (rAt 44 [nat_lit 4294967360, nat_lit 17179869185, nat_lit 120] [] hC_120 (nat_lit 4294967566) 0 0 (eJ (nat_lit 2147483768))) (nat_lit 29)) kV1 (nat_lit 100000) (rLt 54 44) [nat_lit 4294967360, nat_lit 17179869185, nat_lit 90] [] hC_90 (nat_lit 4294967566) 0 0 (eJ (nat_lit 2147483738)) = true := by decide +kernel
set_option maxRecDepth 1000000 in
theorem run_c120 : rrun rCfP rMt rBL 54 (rlp rCfP 54 44 (rLt 54 44) kV1 (rAt 44 [nat_lit 4294967360, nat_lit 17179869185, nat_lit 150] [] hC_150 (nat_lit 4294967566) 0 0 (eJ (nat_lit 2147483798))) (nat_lit 29)) kV1 (nat_lit 100000) (rLt 54 44) [nat_lit 4294967360, nat_lit 17179869185, nat_lit 120] [] hC_120 (nat_lit 4294967566) 0 0 (eJ (nat_lit 2147483768)) = true := by decide +kernel

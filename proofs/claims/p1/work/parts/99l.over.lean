/-! THE TWO STEPS BY THEIR CHUNKS; THE CALLS OF THEM -/
section Steps
theorem hpC : rHp (rLt 54 44) 44 = true := by decide +kernel
theorem hpM : rHp (rLt 227 45) 45 = true := by decide +kernel
theorem bC : rmB 54 = true := mk_all 54 (by decide) (by decide)
theorem bM : rmB 227 = true := mk_all 227 (by decide) (by decide)
theorem sc_270 : rSta 54 kV1 (nat_lit 4294967566) 44 [nat_lit 4294967360, nat_lit 17179869185, nat_lit 270] hC_270 (nat_lit 4294967566) 0 0 (eJ (nat_lit 2147483918)) := rSt_run bC hpC rkF_end run_c270
theorem sc_240 : rSta 54 kV1 (nat_lit 4294967566) 44 [nat_lit 4294967360, nat_lit 17179869185, nat_lit 240] hC_240 (nat_lit 4294967566) 0 0 (eJ (nat_lit 2147483888)) := rSt_run bC hpC (rAt_end sc_270) run_c240
theorem sc_210 : rSta 54 kV1 (nat_lit 4294967566) 44 [nat_lit 4294967360, nat_lit 17179869185, nat_lit 210] hC_210 (nat_lit 4294967566) 0 0 (eJ (nat_lit 2147483858)) := rSt_run bC hpC (rAt_end sc_240) run_c210
theorem sc_180 : rSta 54 kV1 (nat_lit 4294967566) 44 [nat_lit 4294967360, nat_lit 17179869185, nat_lit 180] hC_180 (nat_lit 4294967566) 0 0 (eJ (nat_lit 2147483828)) := rSt_run bC hpC (rAt_end sc_210) run_c180
theorem sc_150 : rSta 54 kV1 (nat_lit 4294967566) 44 [nat_lit 4294967360, nat_lit 17179869185, nat_lit 150] hC_150 (nat_lit 4294967566) 0 0 (eJ (nat_lit 2147483798)) := rSt_run bC hpC (rAt_end sc_180) run_c150
theorem sc_120 : rSta 54 kV1 (nat_lit 4294967566) 44 [nat_lit 4294967360, nat_lit 17179869185, nat_lit 120] hC_120 (nat_lit 4294967566) 0 0 (eJ (nat_lit 2147483768)) := rSt_run bC hpC (rAt_end sc_150) run_c120
theorem sc_90 : rSta 54 kV1 (nat_lit 4294967566) 44 [nat_lit 4294967360, nat_lit 17179869185, nat_lit 90] hC_90 (nat_lit 4294967566) 0 0 (eJ (nat_lit 2147483738)) := rSt_run bC hpC (rAt_end sc_120) run_c90
theorem sc_60 : rSta 54 kV1 (nat_lit 4294967566) 44 [nat_lit 4294967360, nat_lit 17179869185, nat_lit 60] hC_60 (nat_lit 4294967566) 0 0 (eJ (nat_lit 2147483708)) := rSt_run bC hpC (rAt_end sc_90) run_c60
theorem sc_30 : rSta 54 kV1 (nat_lit 4294967566) 44 [nat_lit 4294967360, nat_lit 17179869185, nat_lit 30] hC_30 (nat_lit 4294967566) 0 0 (eJ (nat_lit 2147483678)) := rSt_run bC hpC (rAt_end sc_60) run_c30
theorem sc_0 : rSta 54 kV1 (nat_lit 4294967566) 44 [nat_lit 4294967360, nat_lit 17179869185, nat_lit 0] (rh2 9) (nat_lit 4294967566) 0 0 eI := rSt_run bC hpC (rAt_end sc_30) run_c0
theorem sc_e : rSta 54 kV1 (nat_lit 4294967566) 0 [nat_lit 4294967360, nat_lit 17179869185] (rh2 9) (nat_lit 4294967566) 0 0 (rEc (nat_lit 2147483651) (nat_lit 2147483651)) := rSt_entry bC (rAt_end sc_0) run_ce
theorem sm_280 : rSta 227 kV2 (nat_lit 4294967566) 45 [nat_lit 4294967460, nat_lit 17179869185, nat_lit 280] hM_280 (nat_lit 4294967567) (nat_lit 3920) (nat_lit 21000) (eJ (nat_lit 2147483928)) := rSt_run bM hpM rkF_end run_m280
theorem sw_280 : rtwB hM_280 0 1024 = true := by decide +kernel
theorem sm_260 : rSta 227 kV2 (nat_lit 4294967566) 45 [nat_lit 4294967460, nat_lit 17179869185, nat_lit 260] hM_260 (nat_lit 4294967567) (nat_lit 3640) (nat_lit 19500) (eJ (nat_lit 2147483908)) := rSt_run bM hpM (rRn_end sw_280 sm_280) run_m260
theorem sw_260 : rtwB hM_260 0 1024 = true := by decide +kernel
theorem sm_240 : rSta 227 kV2 (nat_lit 4294967566) 45 [nat_lit 4294967460, nat_lit 17179869185, nat_lit 240] hM_240 (nat_lit 4294967568) (nat_lit 3360) (nat_lit 18000) (eJ (nat_lit 2147483888)) := rSt_run bM hpM (rRn_end sw_260 sm_260) run_m240
theorem sw_240 : rtwB hM_240 0 1024 = true := by decide +kernel
theorem sm_220 : rSta 227 kV2 (nat_lit 4294967566) 45 [nat_lit 4294967460, nat_lit 17179869185, nat_lit 220] hM_220 (nat_lit 4294967567) (nat_lit 3080) (nat_lit 16500) (eJ (nat_lit 2147483868)) := rSt_run bM hpM (rRn_end sw_240 sm_240) run_m220
theorem sw_220 : rtwB hM_220 0 1024 = true := by decide +kernel
theorem sm_200 : rSta 227 kV2 (nat_lit 4294967566) 45 [nat_lit 4294967460, nat_lit 17179869185, nat_lit 200] hM_200 (nat_lit 4294967569) (nat_lit 2800) (nat_lit 15000) (eJ (nat_lit 2147483848)) := rSt_run bM hpM (rRn_end sw_220 sm_220) run_m200
theorem sw_200 : rtwB hM_200 0 1024 = true := by decide +kernel
theorem sm_180 : rSta 227 kV2 (nat_lit 4294967566) 45 [nat_lit 4294967460, nat_lit 17179869185, nat_lit 180] hM_180 (nat_lit 4294967567) (nat_lit 2520) (nat_lit 13500) (eJ (nat_lit 2147483828)) := rSt_run bM hpM (rRn_end sw_200 sm_200) run_m180
theorem sw_180 : rtwB hM_180 0 1024 = true := by decide +kernel
theorem sm_160 : rSta 227 kV2 (nat_lit 4294967566) 45 [nat_lit 4294967460, nat_lit 17179869185, nat_lit 160] hM_160 (nat_lit 4294967568) (nat_lit 2240) (nat_lit 12000) (eJ (nat_lit 2147483808)) := rSt_run bM hpM (rRn_end sw_180 sm_180) run_m160
theorem sw_160 : rtwB hM_160 0 1024 = true := by decide +kernel
theorem sm_140 : rSta 227 kV2 (nat_lit 4294967566) 45 [nat_lit 4294967460, nat_lit 17179869185, nat_lit 140] hM_140 (nat_lit 4294967567) (nat_lit 1960) (nat_lit 10500) (eJ (nat_lit 2147483788)) := rSt_run bM hpM (rRn_end sw_160 sm_160) run_m140
theorem sw_140 : rtwB hM_140 0 1024 = true := by decide +kernel
theorem sm_120 : rSta 227 kV2 (nat_lit 4294967566) 45 [nat_lit 4294967460, nat_lit 17179869185, nat_lit 120] hM_120 (nat_lit 4294967567) (nat_lit 1680) (nat_lit 9000) (eJ (nat_lit 2147483768)) := rSt_run bM hpM (rRn_end sw_140 sm_140) run_m120
theorem sw_120 : rtwB hM_120 0 1024 = true := by decide +kernel
theorem sm_100 : rSta 227 kV2 (nat_lit 4294967566) 45 [nat_lit 4294967460, nat_lit 17179869185, nat_lit 100] hM_100 (nat_lit 4294967569) (nat_lit 1400) (nat_lit 7500) (eJ (nat_lit 2147483748)) := rSt_run bM hpM (rRn_end sw_120 sm_120) run_m100
theorem sw_100 : rtwB hM_100 0 1024 = true := by decide +kernel
theorem sm_80 : rSta 227 kV2 (nat_lit 4294967566) 45 [nat_lit 4294967460, nat_lit 17179869185, nat_lit 80] hM_80 (nat_lit 4294967567) (nat_lit 1120) (nat_lit 6000) (eJ (nat_lit 2147483728)) := rSt_run bM hpM (rRn_end sw_100 sm_100) run_m80
theorem sw_80 : rtwB hM_80 0 1024 = true := by decide +kernel
theorem sm_60 : rSta 227 kV2 (nat_lit 4294967566) 45 [nat_lit 4294967460, nat_lit 17179869185, nat_lit 60] hM_60 (nat_lit 4294967569) (nat_lit 840) (nat_lit 4500) (eJ (nat_lit 2147483708)) := rSt_run bM hpM (rRn_end sw_80 sm_80) run_m60
theorem sw_60 : rtwB hM_60 0 1024 = true := by decide +kernel
theorem sm_40 : rSta 227 kV2 (nat_lit 4294967566) 45 [nat_lit 4294967460, nat_lit 17179869185, nat_lit 40] hM_40 (nat_lit 4294967567) (nat_lit 560) (nat_lit 3000) (eJ (nat_lit 2147483688)) := rSt_run bM hpM (rRn_end sw_60 sm_60) run_m40
theorem sw_40 : rtwB hM_40 0 1024 = true := by decide +kernel
theorem sm_20 : rSta 227 kV2 (nat_lit 4294967566) 45 [nat_lit 4294967460, nat_lit 17179869185, nat_lit 20] hM_20 (nat_lit 4294967567) (nat_lit 280) (nat_lit 1500) (eJ (nat_lit 2147483668)) := rSt_run bM hpM (rRn_end sw_40 sm_40) run_m20
theorem sw_20 : rtwB hM_20 0 1024 = true := by decide +kernel
theorem sm_0 : rSta 227 kV2 (nat_lit 4294967566) 45 [nat_lit 4294967460, nat_lit 17179869185, nat_lit 0] hF2 (nat_lit 4294967566) (nat_lit 0) (nat_lit 0) eI := rSt_run bM hpM (rRn_end sw_20 sm_20) run_m0
theorem sm_e : rSta 227 kV2 (nat_lit 4294967566) 0 [nat_lit 4294967460, nat_lit 17179869185] hF2 (nat_lit 4294967566) 0 0 eI := rSt_entry bM (rAt_end sm_0) run_me
theorem wF1 : rtwB hF1 0 1024 = true := by decide +kernel
theorem wG0 : rtwB hG0 0 1024 = true := by decide +kernel
theorem rsetP_tw (i v : Nat) : ∀ (t : rH) (lo hi : Nat), rtw t lo hi → rtw (rsetP i v t) lo hi := by
  intro t
  induction t with
  | leaf x => intro lo hi h; exact h
  | branch p l r il ir =>
    intro lo hi h
    have h : rtw l lo p ∧ rtw r p hi := h
    show rtw (rc (Nat.ble p i) (.branch p l (rsetP i v r)) (.branch p (rsetP i v l) r)) lo hi
    cases Nat.ble p i with
    | true => exact ⟨h.1, ir _ _ h.2⟩
    | false => exact ⟨il _ _ h.1, h.2⟩
theorem wG (v : Nat) : rtw (hG v) 0 1024 := rsetP_tw _ _ _ _ _ (rtwB_ok _ _ _ wG0)
theorem eV_up (v : Nat) : rupd (eV v) 1 (nat_lit 2147483649, nat_lit 2147483948) = eI := rfl
variable {l : Launch} {D : va_G} {tc : Nat → ClassId} {z0 : Nat} {ξ0 : Nat → Nat} {σ : Nat → Int32} {as : List Nat} {h : rH} {NB : Nat} {env : rE} {k : rK}
/-- where the number of ticks is v, the symbol is v -/
theorem eV_sym {v : Nat} (h1 : 1 ≤ v) (h2 : v ≤ 300) (he : rEN σ (eV v)) : σ 1 = Int32.ofNat v ∧ rEN σ eI := by
  have hs := he 1
  have hs : 2147483648 + v ≤ sb (σ 1) ∧ sb (σ 1) ≤ 2147483648 + v := hs
  have e : sb (σ 1) = 2147483648 + v := by omega
  refine ⟨?_, ?_⟩
  · rw [of_sb (σ 1), e]
    have e2 : rbias (2147483648 + v) = v := by
      show (2147483648 + v + 2147483648) % 4294967296 = v
      omega
    rw [e2]
  · rw [← eV_up v]
    exact he.upd (show 2147483649 ≤ sb (σ 1) by omega) (show sb (σ 1) ≤ 2147483948 by omega)
theorem rval_s1 {ρ : Nat → Nat} {v : Nat} (h2 : v ≤ 300) (e : σ 1 = Int32.ofNat v) : rval ρ σ (nat_lit 17179869185) = rval ρ σ v := by
  rw [rval_lit (show v < 4294967296 by omega), ← e]
  rfl
theorem rwf_s1 {NB : Nat} : rwf NB (nat_lit 17179869185) := fun _ h => absurd h (by decide)
/-- a call of the class's step -/
theorem fo1S_ok (hl : l.stackTraces = false) (hy : rSy σ) (hsh : rSh σ) (hk : fo1S as h NB env k = true) : rOG l D tc z0 ξ0 σ 54 as h NB env k := by
  obtain ⟨h1, g1⟩ := rc_and hk
  obtain ⟨h2, g2⟩ := rc_and g1
  obtain ⟨h3, g3⟩ := rc_and g2
  obtain ⟨h4, g4⟩ := rc_and g3
  obtain ⟨h5, g5⟩ := rc_and g4
  obtain ⟨h6, h7⟩ := rc_and g5
  clear hk g1 g2 g3 g4 g5
  have e1 := reqL_ok _ _ h1
  have e2 := rsame_ok _ _ h2
  have e3 := beq_eq h3
  have e4 := reqE_ok _ _ h4
  clear h1 h2 h3 h4
  subst e1 e2 e3 e4
  obtain ⟨q1, q2, q3, -⟩ := rmB_parts bC
  refine rOG_of q1 q2 (by rw [← q3]; decide +kernel) fun p e s m args below meth c ρ0 F => rGF_mono ?_ ?_ (sc_e l D tc z0 ξ0 σ p e s m args below meth c ρ0 hl hy hsh F)
  · intro args s o t hh
    obtain ⟨⟨v, h', NB', env', ρ', hv, he, n1, n2, hH, hw, hP⟩, hF⟩ := hh
    obtain ⟨v1, v2⟩ := rc_and hv
    obtain ⟨v3, v4⟩ := rc_and v2
    have v1 := beq_eq v1
    subst v1
    rcases rc_or v4 with ⟨w1, -⟩ | ⟨-, w2⟩
    · have e : v = 1180591620717411303425 := beq_eq w1
      rcases hP with ⟨p1, -⟩ | ⟨p1, -⟩ <;> omega
    · obtain ⟨w3, w4⟩ := rc_and w2
      obtain ⟨w5, w6⟩ := rc_and w4
      have w3 : 1 ≤ v := ble_le w3
      have w5 : v ≤ 300 := ble_le w5
      have e := reqE_ok _ _ w6
      subst e
      obtain ⟨s1, s2⟩ := eV_sym w3 w5 he
      refine ⟨⟨nat_lit 17179869185, hF1, _, eI, ρ', h7, s2, n1, n2, hH.forget (rtwB_ok _ _ _ wF1) (rsub_ok _ _ v3), rwf_s1, ?_⟩, hF⟩
      rcases hP with ⟨-, p2⟩ | ⟨p1, -⟩
      · exact Or.inl ⟨by decide, by rw [rval_s1 w5 s1]; exact p2⟩
      · omega
  · intro E s t hh
    obtain ⟨⟨v, h', NB', env', ρ', hv, he, n1, n2, hH, hw, hP⟩, hF⟩ := hh
    obtain ⟨v1, v2⟩ := rc_and hv
    obtain ⟨v3, v4⟩ := rc_and v2
    have v1 := beq_eq v1
    subst v1
    rcases rc_or v4 with ⟨w1, w2⟩ | ⟨-, w2⟩
    · have e := beq_eq w1
      subst e
      rcases rc_or w2 with ⟨q, -⟩ | ⟨-, q⟩
      · have e := reqE_ok _ _ q
        subst e
        exact ⟨⟨_, hF1, _, eL, ρ', h5, he, n1, n2, hH.forget (rtwB_ok _ _ _ wF1) (rsub_ok _ _ v3), hw, hP⟩, hF⟩
      · have e := reqE_ok _ _ q
        subst e
        exact ⟨⟨_, hF1, _, eH, ρ', h6, he, n1, n2, hH.forget (rtwB_ok _ _ _ wF1) (rsub_ok _ _ v3), hw, hP⟩, hF⟩
    · obtain ⟨w3, w4⟩ := rc_and w2
      obtain ⟨w5, w6⟩ := rc_and w4
      have w5 : v ≤ 300 := ble_le w5
      obtain ⟨x, hx, -⟩ := hP
      omega
/-- a call of the model's step -/
theorem fo2S_ok (hl : l.stackTraces = false) (hy : rSy σ) (hsh : rSh σ) (hk : fo2S as h NB env k = true) : rOG l D tc z0 ξ0 σ 227 as h NB env k := by
  obtain ⟨q1, q2, q3, -⟩ := rmB_parts bM
  rcases rc_or hk with ⟨-, hk⟩ | ⟨-, hk⟩
  · obtain ⟨h1, g1⟩ := rc_and hk
    obtain ⟨h2, g2⟩ := rc_and g1
    obtain ⟨h3, g3⟩ := rc_and g2
    obtain ⟨h4, h5⟩ := rc_and g3
    clear hk g1 g2 g3
    have e1 := reqL_ok _ _ h1
    have e2 := rsame_ok _ _ h2
    have e3 := beq_eq h3
    have e4 := reqE_ok _ _ h4
    clear h1 h2 h3 h4
    subst e1 e2 e3 e4
    refine rOG_of q1 q2 (by rw [← q3]; decide +kernel) fun p e s m args below meth c ρ0 F => rGF_mono ?_ ?_ (sm_e l D tc z0 ξ0 σ p e s m args below meth c ρ0 hl hy hsh F)
    · intro args s o t hh
      obtain ⟨⟨v, h', NB', env', ρ', hv, he, n1, n2, hH, hw, hP⟩, hF⟩ := hh
      obtain ⟨w3, v2⟩ := rc_and hv
      obtain ⟨w5, v3⟩ := rc_and v2
      obtain ⟨w6, v4⟩ := rc_and v3
      obtain ⟨w7, v5⟩ := rc_and v4
      obtain ⟨w8, w9⟩ := rc_and v5
      have w3 : 1 ≤ v := ble_le w3
      have w5 : v ≤ 300 := ble_le w5
      have w7 : 4294967566 ≤ NB' := ble_le w7
      have e := reqE_ok _ _ w6
      subst e
      obtain ⟨s1, s2⟩ := eV_sym w3 w5 he
      have hkv := rAll_ok _ h5 (v - 1) (show v - 1 < 300 by omega)
      have e5 : Nat.succ (v - 1) = v := by omega
      rw [e5] at hkv
      refine ⟨⟨nat_lit 17179869185, hG v, nat_lit 4294967566, eI, ρ', hkv, s2, Nat.le_refl _, n2, (hH.forget (wG v) (rsub_ok _ _ w8)).cut (by decide) (Nat.le_refl _) w7 w9, rwf_s1, ?_⟩, hF⟩
      rcases hP with ⟨-, p2⟩ | ⟨p1, -⟩
      · exact Or.inl ⟨by decide, by rw [rval_s1 w5 s1]; exact p2⟩
      · omega
    · intro E s t hh
      obtain ⟨⟨v, h', NB', env', ρ', hv, he, n1, n2, hH, hw, hP⟩, hF⟩ := hh
      obtain ⟨w3, v2⟩ := rc_and hv
      obtain ⟨w5, v3⟩ := rc_and v2
      have w5 : v ≤ 300 := ble_le w5
      obtain ⟨x, hx, -⟩ := hP
      omega
  · obtain ⟨h1, h2⟩ := rc_and hk
    refine rOG_of q1 q2 ?_ fun p e s m args below meth c ρ0 F => rFF_run hl hy hsh (rCGP hl hy hsh) bM F (kb := rkF) (fun _ _ _ _ _ _ _ _ q => by cases q) (List.suffix_refl _) (rmB_parts bM).2.2.2.1.2.2 h2
    have := ble_le h1
    rw [rcnt_eq, q3] at this
    exact this
theorem rCG3 (hl : l.stackTraces = false) (hy : rSy σ) (hsh : rSh σ) : rCG l D tc z0 ξ0 σ rCf3 :=
  rdeep hl hy hsh rovP_ok (fun a _ as h NB env k hk => by
    rcases rc_or hk with ⟨h1, h2⟩ | ⟨-, hk⟩
    · have e1 : a = 54 := beq_eq h1
      subst e1
      exact fo1S_ok hl hy hsh h2
    rcases rc_or hk with ⟨h1, h2⟩ | ⟨-, hk⟩
    · have e1 : a = 227 := beq_eq h1
      subst e1
      exact fo2S_ok hl hy hsh h2
    exact rfoP_ok hl hy hsh a as h NB env k hk) 16
end Steps

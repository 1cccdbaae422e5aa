/-! THE WORLD AT THE START -/
section Third
theorem stN_rng {n : Nat} {r : Nat × List Nat} (h : stN n = some r) : 2 ≤ n ∧ n < 18 ∧ n ≠ 1 ∧ n ≠ 3 := by
  unfold stN at h
  split at h <;> first | (cases h; done) | decide
theorem st_exact {args : Array Value} {s : State} {t : Term} {C : String} {q : Nat} {cell : Cell} {x : ClassId} (h : (Cond.exactly t C).before args s = true) (e : t.eval args s none [] s = some (.ref q)) (hc : s.heap[q]? = some cell) (hx : s.vm.findClass C = some x) : cell.cls = x := by
  obtain ⟨a, c, cell2, kk, e1, e2, e3, e4, e5, e6, -⟩ := Cond.exactly_spec h
  cases e1.symm.trans e
  cases e3.symm.trans hc
  cases e2.symm.trans hx
  exact e6
theorem st_cache {args : Array Value} {s : State} {D : va_G} (hK : va_K D vwCl [] s) (gv : ∀ w ∈ flatC (Cond.and given_1 narrow_1), w.before args s = true) :
    ∃ (qc q40 : Nat) (cc ic : Cell), (Term.static "java/lang/Integer$IntegerCache" "cache" "[Ljava/lang/Integer;").eval args s none [] s = some (.ref qc) ∧ s.heap[qc]? = some cc ∧ s.isArrayOf cc (.object "java/lang/Integer") ∧ rVm cc ∧ 128 < cc.slots.size ∧ cc.slots[128]? = some (.ref q40) ∧ s.heap[q40]? = some ic ∧ ic.cls = D.1 1 ∧ rVm ic ∧ ic.slots[D.2 1 0]? = some (.int 0) := by
  obtain ⟨qc, cc, e1, e2, e3⟩ := Term.length_spec (st_eqi (gv _ gc_n))
  obtain ⟨c1, c2, c3, -⟩ := State.arrayAt?_spec e2
  have hn : 128 < cc.slots.size := by
    have h := congrArg (fun x : Int32 => x.toBitVec.toNat) (Value.int.inj e3)
    have h2 : (256 : Nat) = cc.slots.size % 4294967296 := h
    omega
  have hb := st_all e1 e2 (gv _ gc_x) 128 hn
  have hb2 : (Cond.exactly (.elem (.static "java/lang/Integer$IntegerCache" "cache" "[Ljava/lang/Integer;") (.index 0)) "java/lang/Integer").holds args s none s [128] = true ∧ (Cond.eq (.field (.elem (.static "java/lang/Integer$IntegerCache" "cache" "[Ljava/lang/Integer;") (.index 0)) "java/lang/Integer" "value" "I") (.sub (.index 0) (.int 128))).holds args s none s [128] = true := by
    rw [Cond.holds_and, Bool.and_eq_true] at hb
    exact hb
  obtain ⟨hx, hv⟩ := hb2
  obtain ⟨q40, c, ic, kk, f1, f2, f3, f4, f5, f6, -⟩ := Cond.exactly_spec hx
  obtain ⟨qq, j, cell, d1, d2, d3, d4, d5⟩ := Term.elem_spec f1
  have d1 : (Term.static "java/lang/Integer$IntegerCache" "cache" "[Ljava/lang/Integer;").eval args s none [] s = some (.ref qq) := d1
  cases d1.symm.trans e1
  cases d3.symm.trans e2
  have d2 : (some (Value.int (Int32.ofNat 128)) : Option Value) = some (.int j) := d2
  cases d2
  obtain ⟨n1, -⟩ := ofNat_clamp (j := 128) (by decide)
  rw [n1] at d5
  obtain ⟨hS, hfc, -⟩ := hK.1 1 (RJ6, TJ6, 1) rfl
  have hc : c = D.1 1 := Option.some.inj (f2.symm.trans hfc)
  obtain ⟨cf, kf, fi, f, hi, hsl⟩ := hS 0 (by decide)
  have hv2 : (Term.field (.elem (.static "java/lang/Integer$IntegerCache" "cache" "[Ljava/lang/Integer;") (.index 0)) "java/lang/Integer" "value" "I").eval args s none [128] s = some (.int 0) := by
    have hz : (Term.sub (.index 0) (.int 128)).eval args s none [128] s = some (.int 0) := rfl
    revert hv
    generalize (Term.sub (.index 0) (.int 128)) = u at hz
    intro hv
    cases hw : (Term.field (.elem (.static "java/lang/Integer$IntegerCache" "cache" "[Ljava/lang/Integer;") (.index 0)) "java/lang/Integer" "value" "I").eval args s none [128] s with
    | none => simp [Cond.holds, Cond.value, hw] at hv
    | some w =>
      simp only [Cond.holds, Cond.value, hw, hz] at hv
      cases w <;> simp_all
  obtain ⟨-, ca, a1, a2, a3, -, a5⟩ := Term.field_spec hi f1 hv2
  cases a1.symm.trans f3
  rw [hsl] at a5
  exact ⟨qc, q40, cc, ic, e1, c1, (Cond.arrayOf_spec (gv _ gc_a) e1 c1).1, st_vm c2 c3, hn, d5, f3, f6.trans hc, st_vm a2 a3, a5⟩
theorem st_world {s : State} {b L : Nat} {xs : Nat → Int32} (hts : ∀ w ∈ lw_tbl, w.before #[Value.ref b] s = true) (hg : (Cond.and given_1 narrow_1).before #[Value.ref b] s = true) (hX : va_X b L xs s s.heap) :
    ∃ (D : va_G) (tc : Nat → ClassId) (ξ0 : Nat → Nat), rCX D tc s.heap.size ξ0 s ∧ rHR D tc s.heap.size (4294967360, ξ0) ξ0 (st_sg xs) rh0 4294967360 s.heap ∧ ξ0 41 = b ∧
      ∃ scr : Cell, s.heap[b]? = some scr ∧ rAl tc 0 scr.cls ∧ rVm scr ∧ scr.slots.size = L ∧ ∀ j, j < L → scr.slots[j]? = some (.int (xs j)) := by
  have gv := flat_of_before _ hg
  obtain ⟨D, hK, hD⟩ := st_K hts
  obtain ⟨f, hf⟩ := st_arrays hts
  obtain ⟨scr, x1, x2, x3, x4, x5⟩ := hX
  have hbl : b < s.heap.size := (Array.getElem?_eq_some_iff.mp x1).1
  have hs : ∀ n : Nat, ∃ r : Nat × Nat × Cell, ∀ k L', stN n = some (k, L') → (Term.string "OrbithouseModel" k).eval #[Value.ref b] s none [] s = some (.ref r.1) ∧ (∃ cell : Cell, s.heap[r.1]? = some cell ∧ cell.cls = D.1 0 ∧ rVm cell ∧ cell.slots[D.2 0 0]? = some (.ref r.2.1) ∧ cell.slots[D.2 0 1]? = some (.int 0)) ∧
      s.heap[r.2.1]? = some r.2.2 ∧ s.isArrayOf r.2.2 .byte ∧ rVm r.2.2 ∧ L'.length ≤ r.2.2.slots.size ∧ r.2.2.slots.size.toInt32 = Int32.ofNat L'.length ∧ ∀ j, j < L'.length → r.2.2.slots[j]? = some (.int (Int32.ofNat (L'.getD j 0))) := by
    intro n
    cases hn : stN n with
    | none => exact ⟨(0, 0, scr), fun k L' e => by cases e⟩
    | some kl =>
      obtain ⟨k, L'⟩ := kl
      obtain ⟨h1, h2⟩ := stN_ok n k L' hn
      obtain ⟨q, v, e1, e2, cell, e3⟩ := st_str hK (fun w hw => gv w (h1 w hw)) h2
      exact ⟨(q, v, cell), fun k2 L2 e => by cases e; exact ⟨e1, e2, e3⟩⟩
  obtain ⟨g, hgs⟩ := Classical.axiomOfChoice hs
  obtain ⟨q1, c1, a1, a2, a3, a4, a5, a6, a7⟩ := st_arr (L := st_f8) (fun w hw => gv w (ga_0 w hw)) (by decide)
  have a8 := st_exact (gv _ gx_0) a1 a2 (hf 0 (by decide)).1
  obtain ⟨q3, c3, b1, b2, b3, b4, b5, b6, b7⟩ := st_arr (L := st_d8) (fun w hw => gv w (ga_2 w hw)) (by decide)
  have b8 := st_exact (gv _ gx_2) b1 b2 (hf 0 (by decide)).1
  obtain ⟨q18, c18, d1, d2, d3⟩ := Term.length_spec (st_eqi (gv _ ga_1b))
  obtain ⟨d4, d5, d6, -⟩ := State.arrayAt?_spec d2
  have d8 := st_exact (gv _ gx_1) d1 d4 (hf 6 (by decide)).1
  obtain ⟨qc, q40, cc, ic, k1, k2, k3, k4, k5, k6, k7, k8, k9, k10⟩ := st_cache hK gv
  generalize htc : (fun u => if u < 12 then f u else if u = 12 then cc.cls else if u = 112 then scr.cls else if u % 16 = 5 ∧ (stN (u / 16 - 6)).isSome = true then (g (u / 16 - 6)).2.2.cls else if u % 16 < 12 then f (u % 16) else cc.cls : Nat → ClassId) = tc
  have htcf : ∀ t, t < 12 → tc t = f t := fun t ht => by rw [← htc]; exact if_pos ht
  have htc12 : tc 12 = cc.cls := by rw [← htc]; rfl
  have htcs : tc 112 = scr.cls := by rw [← htc]; rfl
  have htcb : ∀ n, 2 ≤ n → (stN n).isSome = true → tc (16 * (n + 6) + 5) = (g n).2.2.cls := fun n h1 h2 => by
    rw [← htc]
    show (if 16 * (n + 6) + 5 < 12 then _ else if 16 * (n + 6) + 5 = 12 then _ else if 16 * (n + 6) + 5 = 112 then _ else if (16 * (n + 6) + 5) % 16 = 5 ∧ (stN ((16 * (n + 6) + 5) / 16 - 6)).isSome = true then (g ((16 * (n + 6) + 5) / 16 - 6)).2.2.cls else _) = _
    rw [if_neg (by omega), if_neg (by omega), if_neg (by omega), show (16 * (n + 6) + 5) / 16 - 6 = n by omega, if_pos ⟨by omega, h2⟩]
  have hAO1 : ∀ u, u < 13 → st_AO s (tc u) (rtyA u) := by
    intro u hu
    by_cases h : u < 12
    · rw [htcf u h]
      obtain ⟨-, k, comp, e1, e2, -⟩ := hf u h
      exact ⟨k, e1, comp, e2⟩
    · have e : u = 12 := by omega
      subst e
      rw [htc12]
      exact k3.2
  have hAO2 : ∀ u, 100 ≤ u → u % 16 < 13 → st_AO s (tc u) (rtyA (u % 16)) := by
    intro u h1 h2
    rw [← htc]
    show st_AO s (if u < 12 then f u else if u = 12 then cc.cls else if u = 112 then scr.cls else if u % 16 = 5 ∧ (stN (u / 16 - 6)).isSome = true then (g (u / 16 - 6)).2.2.cls else if u % 16 < 12 then f (u % 16) else cc.cls) (rtyA (u % 16))
    rw [if_neg (by omega), if_neg (by omega)]
    by_cases e1 : u = 112
    · rw [if_pos e1, e1]; exact x2.2
    rw [if_neg e1]
    by_cases e2 : u % 16 = 5 ∧ (stN (u / 16 - 6)).isSome = true
    · rw [if_pos e2, e2.1]
      obtain ⟨⟨k, L'⟩, hn⟩ := Option.isSome_iff_exists.mp e2.2
      exact (hgs _ k L' hn).2.2.2.1.2
    rw [if_neg e2]
    by_cases e3 : u % 16 < 12
    · rw [if_pos e3]
      obtain ⟨-, k, comp, e1, e2, -⟩ := hf _ e3
      exact ⟨k, e1, comp, e2⟩
    · rw [if_neg e3, show u % 16 = 12 by omega]
      exact k3.2
  have hArr : rArr s tc rtyA := by
    intro t ht cell hal hst
    refine ⟨hst, ?_⟩
    rcases hal with e | ⟨u, u1, u2, e⟩
    · rw [e]; exact hAO1 t ht
    · rw [e, ← u2]; exact hAO2 u u1 (by omega)
  generalize hξ : (fun a => if (stN a).isSome = true then (g a).1 else if 42 ≤ a ∧ (stN (a - 42)).isSome = true then (g (a - 42)).2.1 else if a = 1 then q1 else if a = 3 then q3 else if a = 18 then q18 else if a = 19 then qc else if a = 40 then q40 else b : Nat → Nat) = ξ0
  have hξs : ∀ n r, stN n = some r → ξ0 n = (g n).1 := fun n r h => by rw [← hξ]; exact if_pos (by rw [h]; rfl)
  have hξb : ∀ n r, stN n = some r → ξ0 (n + 42) = (g n).2.1 := fun n r h => by
    obtain ⟨r1, r2, -⟩ := stN_rng h
    rw [← hξ]
    show (if (stN (n + 42)).isSome = true then _ else if 42 ≤ n + 42 ∧ (stN (n + 42 - 42)).isSome = true then (g (n + 42 - 42)).2.1 else _) = _
    rw [if_neg (fun e => by obtain ⟨w, hw⟩ := Option.isSome_iff_exists.mp e; have := (stN_rng hw).2.1; omega), show n + 42 - 42 = n by omega, if_pos ⟨by omega, by rw [h]; rfl⟩]
  have hξ1 : ξ0 1 = q1 := by rw [← hξ]; rfl
  have hξ3 : ξ0 3 = q3 := by rw [← hξ]; rfl
  have hξ18 : ξ0 18 = q18 := by rw [← hξ]; rfl
  have hξ19 : ξ0 19 = qc := by rw [← hξ]; rfl
  have hξ40 : ξ0 40 = q40 := by rw [← hξ]; rfl
  have hξ41 : ξ0 41 = b := by rw [← hξ]; rfl
  have lt1 : ∀ {q : Nat} {cell : Cell}, s.heap[q]? = some cell → q < s.heap.size := fun h => (Array.getElem?_eq_some_iff.mp h).1
  have hA : ∀ a : Nat, a < s.heap.size → ¬ s.heap.size ≤ a := fun a h => by omega
  refine ⟨D, tc, ξ0, ⟨hK, hArr, fun t ht => by rw [htcf t ht]; exact (hf t ht).1, st_As hts hK hD hf htcf, fun w hw => st_Nw (List.mem_filter.mp hw).2 (hts w (List.mem_filter.mp hw).1), ?_, ?_, ?_, vx_Zqof (hts _ sl_6) (hts _ sn_6) (gv _ gz_6) hA, vx_Zqof (hts _ sl_7) (hts _ sn_7) (gv _ gz_7) hA, ?_, cc, ?_⟩, ⟨rtwB_ok _ _ _ st_w0, ⟨Nat.le_refl _, fun _ _ => rfl, Nat.le_refl _, fun _ _ => rfl⟩, by decide, Nat.le_refl _, ?_, ?_⟩, hξ41, scr, x1, Or.inr ⟨112, by decide, rfl, htcs.symm⟩, ⟨x3, x2.1⟩, x4, x5⟩
  · have one : ∀ i k tx L', stN i = some (k, L') → (Cond.stringRef "OrbithouseModel" k tx).before #[Value.ref b] s = true → vk_R "OrbithouseModel" k tx (ξ0 i) s := fun i k tx L' h1 h2 => by
      refine ⟨h2, ?_⟩
      rw [hξs i _ h1]
      exact (Term.string_eval_of_vm rfl).trans (hgs i k L' h1).1
    intro q hq
    simp only [rSS, List.mem_cons, List.not_mem_nil, or_false] at hq
    rcases hq with rfl | rfl | rfl | rfl | rfl | rfl | rfl | rfl | rfl | rfl
    · exact one 5 _ _ _ rfl (hts _ ss_5)
    · exact one 2 _ _ _ rfl (hts _ ss_2)
    · exact one 13 _ _ _ rfl (hts _ ss_13)
    · exact one 7 _ _ _ rfl (hts _ ss_7)
    · exact one 11 _ _ _ rfl (hts _ ss_11)
    · exact one 10 _ _ _ rfl (hts _ ss_10)
    · exact one 15 _ _ _ rfl (hts _ ss_15)
    · exact one 6 _ _ _ rfl (hts _ ss_6)
    · exact one 16 _ _ _ rfl (hts _ ss_16)
    · exact one 17 _ _ _ rfl (hts _ ss_17)
  · intro q hq
    simp only [rSR, List.mem_cons, List.not_mem_nil, or_false] at hq
    rcases hq with rfl | rfl | rfl | rfl
    · exact va_Zof (hts _ sl_0) (hts _ sn_0) (by rw [hξ1]; exact a1) hA
    · exact va_Zof (hts _ sl_1) (hts _ sn_1) (by rw [hξ18]; exact d1) hA
    · exact va_Zof (hts _ sl_2) (hts _ sn_2) (by rw [hξ3]; exact b1) hA
    · exact va_Zof (hts _ sl_3) (hts _ sn_3) (by rw [hξ19]; exact k1) hA
  · intro q hq
    simp only [rSI, List.mem_cons, List.not_mem_nil, or_false] at hq
    rcases hq with rfl | rfl
    · exact va_Zof (hts _ sl_4) (hts _ sn_4) (st_eqi (gv _ ge_4)) hA
    · exact va_Zof (hts _ sl_5) (hts _ sn_5) (st_eqi (gv _ ge_5)) hA
  · intro q hq
    simp only [rNC, List.mem_cons, List.not_mem_nil, or_false] at hq
    rcases hq with rfl | rfl | rfl
    · exact va_Nc.of (gv _ gn_0)
    · exact va_Nc.of (gv _ gn_1)
    · exact va_Nc.of (gv _ gn_2)
  · exact ⟨by rw [hξ19]; exact k2, htc12.symm, k4.2, k4.1, k5, by rw [hξ40]; exact k6, by rw [hξ19]; exact lt1 k2⟩
  · intro a ha
    have ha : a < 64 := by omega
    have h := List.all_eq_true.mp st_c0_all a (List.mem_range.mpr ha)
    unfold st_c0 at h
    cases hn : stN a with
    | some kl =>
      obtain ⟨k, L'⟩ := kl
      rw [hn] at h
      have h : st_ck (rget rh0 a) 1025 [4294967296 + (a + 42), 0] = true := h
      obtain ⟨r1, r2, -⟩ := stN_rng hn
      obtain ⟨-, ⟨cell, e2, e3, e4, e5, e6⟩, -⟩ := hgs a k L' hn
      rw [hξs a _ hn]
      refine ⟨st_cO (ci := 0) h (by decide) (lt1 e2) (r := (RJ0, TJ0, 2)) rfl rfl e2 e3 e4 fun j hj => ?_, fun j hj => ?_⟩
      · match j, hj with
        | 0, _ =>
          show cell.slots[D.2 0 0]? = some (rval ξ0 (st_sg xs) (4294967296 + (a + 42)))
          rw [rval_ref (by omega) (by omega), show 4294967296 + (a + 42) - 4294967296 = a + 42 by omega, hξb a _ hn]
          exact e5
        | 1, _ =>
          show cell.slots[D.2 0 1]? = some (rval ξ0 (st_sg xs) 0)
          rw [rval_lit (by decide)]
          exact e6
        | n + 2, hj => exact absurd hj (by simp)
      · obtain ⟨g1, g2, g3⟩ := st_ck_ok h
        rw [g2] at hj
        rw [g3 j hj]
        match j, hj with
        | 0, _ => exact fun _ _ => (show 4294967296 + (a + 42) < 4294967360 by omega)
        | 1, _ => exact (rwf_lt (show 0 < 4294967296 by decide) : rwf 4294967360 0)
        | n + 2, hj => exact absurd hj (by simp)
    | none =>
      rw [hn] at h
      cases hn2 : stN (a - 42) with
      | some kl =>
        obtain ⟨k, L'⟩ := kl
        rw [hn2] at h
        have h : (Nat.ble 42 a && (L'.all (fun x => Nat.ble x 255) && st_ck (rget rh0 a) 1093 L')) = true := h
        rw [Bool.and_eq_true, Bool.and_eq_true] at h
        obtain ⟨h1, h2, h3⟩ := h
        have h1 := ble_le h1
        obtain ⟨r1, r2, -⟩ := stN_rng hn2
        obtain ⟨-, -, e3, e4, e5, e6, e7, e8⟩ := hgs _ k L' hn2
        have e0 : ξ0 a = (g (a - 42)).2.1 := by
          have := hξb (a - 42) _ hn2
          rw [show a - 42 + 42 = a by omega] at this
          exact this
        rw [e0]
        have hL : ∀ j, j < L'.length → L'.getD j 0 < 4294967296 := fun j hj => by
          have := ble_le (List.all_eq_true.mp h2 _ (List.getElem_mem hj))
          rw [List.getD_eq_getElem?_getD, List.getElem?_eq_getElem hj]
          exact Nat.lt_of_le_of_lt this (by decide)
        obtain ⟨w1, w2⟩ := st_cA (D := D) (tc := tc) (z0 := s.heap.size) (ρ := ξ0) (σ := st_sg xs) (t := 5) h3 (by decide) hL e3 (lt1 e3) (Or.inr ⟨16 * (a - 42 + 6) + 5, by omega, by omega, (htcb _ r1 (by rw [hn2]; rfl)).symm⟩) e5 e6 e7 e8
        exact ⟨w1, fun j hj => w2 _ j hj⟩
      | none =>
        rw [hn2] at h
        have h : (if a = 1 then st_ck (rget rh0 a) 1088 st_f8 else if a = 3 then st_ck (rget rh0 a) 1088 st_d8 else if a = 18 then st_ck (rget rh0 a) 1094 [] else if a = 40 then st_ck (rget rh0 a) 1026 [0] else Nat.beq (rget rh0 a) 0) = true := h
        by_cases e1 : a = 1
        · rw [if_pos e1] at h
          rw [show ξ0 a = q1 by rw [e1]; exact hξ1]
          obtain ⟨w1, w2⟩ := st_cA (D := D) (tc := tc) (z0 := s.heap.size) (ρ := ξ0) (σ := st_sg xs) (t := 0) h (by decide) (by decide) a2 (lt1 a2) (Or.inl (by rw [htcf 0 (by decide)]; exact a8)) a4 a5 a6 a7
          exact ⟨w1, fun j hj => w2 _ j hj⟩
        rw [if_neg e1] at h
        by_cases e2 : a = 3
        · rw [if_pos e2] at h
          rw [show ξ0 a = q3 by rw [e2]; exact hξ3]
          obtain ⟨w1, w2⟩ := st_cA (D := D) (tc := tc) (z0 := s.heap.size) (ρ := ξ0) (σ := st_sg xs) (t := 0) h (by decide) (by decide) b2 (lt1 b2) (Or.inl (by rw [htcf 0 (by decide)]; exact b8)) b4 b5 b6 b7
          exact ⟨w1, fun j hj => w2 _ j hj⟩
        rw [if_neg e2] at h
        by_cases e3 : a = 18
        · rw [if_pos e3] at h
          rw [show ξ0 a = q18 by rw [e3]; exact hξ18]
          obtain ⟨w1, w2⟩ := st_cA (D := D) (tc := tc) (z0 := s.heap.size) (ρ := ξ0) (σ := st_sg xs) (t := 6) h (by decide) (fun j hj => absurd hj (Nat.not_lt_zero _)) d4 (lt1 d4) (Or.inl (by rw [htcf 6 (by decide)]; exact d8)) (st_vm d5 d6) (Nat.zero_le _) (Value.int.inj d3).symm (fun j hj => absurd hj (Nat.not_lt_zero _))
          exact ⟨w1, fun j hj => w2 _ j hj⟩
        rw [if_neg e3] at h
        by_cases e4 : a = 40
        · rw [if_pos e4] at h
          rw [show ξ0 a = q40 by rw [e4]; exact hξ40]
          refine ⟨st_cO (ci := 1) h (by decide) (lt1 k7) (r := (RJ6, TJ6, 1)) rfl rfl k7 k8 k9 fun j hj => ?_, fun j hj => ?_⟩
          · match j, hj with
            | 0, _ =>
              show ic.slots[D.2 1 0]? = some (rval ξ0 (st_sg xs) 0)
              rw [rval_lit (by decide)]
              exact k10
            | n + 1, hj => exact absurd hj (by simp)
          · obtain ⟨g1, g2, g3⟩ := st_ck_ok h
            rw [g2] at hj
            rw [g3 j hj]
            match j, hj with
            | 0, _ => exact rwf_lt (by decide)
            | n + 1, hj => exact absurd hj (by simp)
        rw [if_neg e4] at h
        have h0 := beq_eq h
        rw [h0]
        refine ⟨⟨?_, fun x => absurd x (by decide), fun x => absurd x (by decide), fun x => absurd x (by decide), fun x => absurd x (by decide)⟩, fun j hj => absurd hj (by rw [show rlen 0 = 0 from rfl]; omega)⟩
        rw [← hξ]
        show (if (stN a).isSome = true then (g a).1 else if 42 ≤ a ∧ (stN (a - 42)).isSome = true then (g (a - 42)).2.1 else if a = 1 then q1 else if a = 3 then q3 else if a = 18 then q18 else if a = 19 then qc else if a = 40 then q40 else b) < _
        rw [if_neg (by rw [hn]; decide), if_neg (by rw [hn2]; exact fun q => by cases q.2), if_neg e1, if_neg e2, if_neg e3]
        by_cases e5 : a = 19
        · rw [if_pos e5]; exact lt1 k2
        · rw [if_neg e5, if_neg e4]; exact hbl
  · intro a c ha hc hka hkc e
    have h := List.all_eq_true.mp st_k0_all a (List.mem_range.mpr (by omega))
    unfold st_k0 at h
    rw [Bool.or_eq_true] at h
    rcases h with h | h
    · exact absurd (beq_eq h) hka.1
    · have := ble_le h
      exact absurd hka.2 (by omega)
end Third

/-! Integer.valueOf OF 0 -/
section ValueOf
variable {l : Launch} {D : va_G} {tc : Nat → ClassId} {z0 : Nat} {ξ0 : Nat → Nat} {σ : Nat → Int32}
theorem rVo_21 : decode (mSt 244).2.1 21 = .ok (.aaload, 1) := by decide +kernel
theorem rVo_22 : decode (mSt 244).2.1 22 = .ok (.areturn, 1) := by decide +kernel
theorem rVo_ret : (mSt 244).2.2.2.1 = some (.object "java/lang/Integer") := by decide +kernel
theorem rVo_len : 1 ≤ (mSt 244).2.2.1 := by decide +kernel
theorem rVo_ok (hl : l.stackTraces = false) (hy : rSy σ) (hsh : rSh σ) {as : List Nat} {h : rH} {NB : Nat} {env : rE} {k : rK} (hk : rVo as h NB env k = true) : rOG l D tc z0 ξ0 σ 244 as h NB env k := by
  obtain ⟨h1, h2⟩ := rc_and hk
  have e := reqL_ok _ _ h1
  subst e
  have hB : rmB 244 = true := mk_all 244 (by decide) (by decide)
  obtain ⟨q1, q2, q3, ⟨-, -, q4⟩, -, -⟩ := rmB_parts hB
  refine rOG_of (as := [0]) q1 q2 rVo_len fun p e s m args below meth c ρ0 F => rFF_run hl hy hsh (cf := fun _ _ _ _ _ _ => false) (fun _ _ _ _ _ _ q => by cases q) hB F (kb := rVk k) (fun pc ls st h NB2 nc ns env hkb => ?_) (List.suffix_refl _) q4 h2
  obtain ⟨g1, g⟩ := rc_and hkb
  obtain ⟨g2, g⟩ := rc_and g
  obtain ⟨g3, g⟩ := rc_and g
  obtain ⟨g4, g⟩ := rc_and g
  have g1 := beq_eq g1
  have g2 := reqL_ok _ _ g2
  have g3 := beq_eq g3
  have g4 := beq_eq g4
  subst g1 g2 g3 g4
  intro ρ H locs LS I
  obtain ⟨f1, f2, f3, f4, f5, f6, f7, f8, f9, f10, f11, f12⟩ := F
  obtain ⟨-, c2, -, -, -, -, -, -, -, -, -, ce, d1, d2, d3, d4, d5, d6, d7⟩ := f11
  have hN := I.1.2.1.1
  have r19 : rval ρ σ 4294967315 = .ref (ξ0 19) := by
    have w : rval ρ σ 4294967315 = .ref (ρ 19) := rval_ref (by decide) (by decide)
    rw [w, I.1.2.1.2.1 19 (by decide)]; exact congrArg Value.ref (f12 19 (by decide))
  have r40 : rval ρ σ 4294967336 = .ref (ξ0 40) := by
    have w : rval ρ σ 4294967336 = .ref (ρ 40) := rval_ref (by decide) (by decide)
    rw [w, I.1.2.1.2.1 40 (by decide)]; exact congrArg Value.ref (f12 40 (by decide))
  have hlt : ξ0 19 < s.heap.size := (Array.getElem?_eq_some_iff.mp d1).1
  have hH : H[ξ0 19]? = some ce := (I.2.2.2.2.2.1 _ hlt (Nat.not_le.mpr d7)).trans d1
  obtain ⟨n1, n2⟩ := ofNat_clamp (j := 128) (by decide)
  show W p l e _ s m args below meth c H locs 0 0 _ (F0 m 21 LS [rval ρ σ 128, rval ρ σ 4294967315])
  rw [rval_lit (show 128 < 4294967296 by decide), r19]
  refine W.aald (v := rval ρ σ 4294967336) f1 f2 hH (c2 12 (by decide) ce (Or.inl d2) d3) rfl d4 (fun q => q.elim n2 (fun r => by rw [n1] at r; omega)) (by rw [n1, r40]; exact d6) rfl rfl rVo_21 ?_
  refine vx_ret (W.widen (Nat.zero_le _) (Nat.zero_le _) (W.aret (v := rval ρ σ 4294967336) f1 f2 (f3.trans rVo_ret) (Or.inl ⟨_, rfl⟩) (by rw [r40]; exact Or.inr ⟨_, rfl⟩) (fun t e1 _ => ?_) (fun q hq => I.2.2.2.2.2.2 q hq) rVo_22 f4))
  exact rEnd I g (fun _ _ => Nat.lt_of_lt_of_le (by decide) hN) e1 (Or.inl ⟨by decide, rfl⟩)
end ValueOf

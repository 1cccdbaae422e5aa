/-! ARRAYCOPY, elements -/
section CopyEO
variable {p : Program} {l : Launch} {e : Env} {R : Room} {s : State} {m : MethodId} {args : Array Value} {below : List Frame} {meth : Method} {c : Code} {Q : State → Prop} {D : va_G} {tc : Nat → ClassId} {z0 : Nat → Prop} {ξ : rX} {ζ : rZ} {σ : Nat → Int32} {nL : Nat} {cf : rCF} {M : rM} {BL : Nat → Nat} {mi : Nat} {kb : rB} {k : rK}
variable {cc : ByteArray} {pc a b : Nat} {tb : List (Nat × Nat)} {own : String}
theorem eo_copyI (F : rFr p s m args c cc own D tc) (hml : c.maxLocals = nL) (hRf : 1 ≤ R.frames) (hRl : 16 + (nativeFrameWords "java/lang/System" "arraycopy" 5 + 11) ≤ R.locals) {index : Nat} (hlink : (Cond.methodLink own index arraycopyName).before args s = true) (hnat : (Cond.native arraycopyName).before args s = true) (hstat : (Cond.static arraycopyName).before args s = true) (hini : (Cond.initialized "java/lang/System").before args s = true)
    (ha : a = 1004) (hd : decode cc pc = .ok (.invokestatic index, 3)) : rEO p l e R s m args below meth c Q D tc z0 ξ ζ nL cf M BL mi kb k 3 (.invokestatic index, pc, a, b, tb) := by
  subst ha
  intro ih rest nx _ ls st h NB nc ns env hk
  have hn : oNat 1004 (mcel M mi) (mslo M mi) ih rest ls st h NB nc ns env = true := inat (Y := oCall cf 1004 b (rtb tb) mi M pc ih rest ls st h NB nc ns env) rfl rfl hk
  obtain ⟨h1, h2, h3⟩ := onat_ok hn
  have hm : oCopy 64 (fun v _ _ => risI v) ih rest ls st h NB nc ns env = true := (rc_and hn).2
  refine o_copy (by decide) (by decide) nx h1 hm fun {σ} ρ H locs LS st a0 a n0 n1 N sp dp f g _ g1 g2 g3 g4 g5 g6 g7 g8 g9 g10 g11 w => ?_
  refine W_copy F.1 F.2.1 (by rw [hml, g1]) F.2.2.1 hlink hnat hstat hini (ty := .int) (fun n z => F.2.2.2.2.2.1 0 (by decide) _ (Or.inl rfl) rVm_arrV.2) (fun n z => F.2.2.2.2.2.1 0 (by decide) _ (Or.inl rfl) rVm_arrV.2) g3 g4 g6 g7 g8 g9 (fun i hi => ?_) hRf (by omega) hd fun locs1 hl => w _ locs1 rfl hl
  obtain ⟨v, e1, e2⟩ := g10 i hi
  rw [e1, rval_I e2]
  exact ⟨rfl, fun _ _ _ _ _ _ _ _ => trivial⟩
theorem eo_copyQ (F : rFr p s m args c cc own D tc) (hml : c.maxLocals = nL) (hRf : 1 ≤ R.frames) (hRl : 16 + (nativeFrameWords "java/lang/System" "arraycopy" 5 + 11) ≤ R.locals) {index : Nat} (hlink : (Cond.methodLink own index arraycopyName).before args s = true) (hnat : (Cond.native arraycopyName).before args s = true) (hstat : (Cond.static arraycopyName).before args s = true) (hini : (Cond.initialized "java/lang/System").before args s = true)
    (ha : a = 1007) (hd : decode cc pc = .ok (.invokestatic index, 3)) : rEO p l e R s m args below meth c Q D tc z0 ξ ζ nL cf M BL mi kb k 3 (.invokestatic index, pc, a, b, tb) := by
  subst ha
  intro ih rest nx _ ls st h NB nc ns env hk
  have hn : oNat 1007 (mcel M mi) (mslo M mi) ih rest ls st h NB nc ns env = true := inat (Y := oCall cf 1007 b (rtb tb) mi M pc ih rest ls st h NB nc ns env) rfl rfl hk
  obtain ⟨h1, h2, h3⟩ := onat_ok hn
  have hm : oCopy 70 robj ih rest ls st h NB nc ns env = true := (rc_and hn).2
  refine o_copy (by decide) (by decide) nx h1 hm fun {σ} ρ H locs LS st a0 a n0 n1 N sp dp f g hHR g1 g2 g3 g4 g5 g6 g7 g8 g9 g10 g11 w => ?_
  refine W_copy F.1 F.2.1 (by rw [hml, g1]) F.2.2.1 hlink hnat hstat hini (ty := .object "java/lang/Object") (fun n z => F.2.2.2.2.2.1 6 (by decide) _ (Or.inl rfl) rVm_arrV.2) (fun n z => F.2.2.2.2.2.1 6 (by decide) _ (Or.inl rfl) rVm_arrV.2) g3 g4 g6 g7 g8 g9 (fun i hi => ?_) hRf (by omega) hd fun locs1 hl => w _ locs1 rfl hl
  obtain ⟨v, e1, e2⟩ := g10 i hi
  rw [e1]
  rcases rc_or e2 with ⟨q1, -⟩ | ⟨-, q2⟩
  · have q1 : v = 8589934592 := beq_eq q1
    rw [q1, rval_null]
    exact ⟨rfl, fun _ _ _ _ _ _ _ _ => trivial⟩
  · obtain ⟨r1, r2⟩ := rc_and q2
    obtain ⟨r3, r4⟩ := rc_and r2
    obtain ⟨r5, r6⟩ := rc_and r4
    have r1 : 4294967296 ≤ v := ble_le r1
    have r3 : v < NB := ble_le r3
    have r5 : rasg 70 (rget h (v - 4294967296) % 1024) = true := r5
    have r6 : rget h (v - 4294967296) % 65536 ≤ 1087 := ble_le r6
    have hN := hHR.2.2.1
    obtain ⟨c1, -⟩ := hHR.2.2.2.2.1 (v - 4294967296) (by omega)
    have hk1 : 1 ≤ rget h (v - 4294967296) % 1024 := by
      rcases Nat.eq_zero_or_pos (rget h (v - 4294967296) % 1024) with q | q
      · rw [q] at r5; cases r5
      · exact q
    obtain ⟨cv, u1, u2, u3⟩ := c1.some hk1 r6
    rw [rval_ref r1 (by omega)]
    refine ⟨rfl, fun T vm' hT hal kd comp hkd hkk => ?_⟩
    obtain ⟨kk, kv', kcomp, comp2, t, w1, w2, w3, w4, w5, w6⟩ := F.2.2.2.2.2.2.2 70 _ r5
    have hkd : s.vm.classes[tc (70 - 64)]? = some kd := hkd
    cases hkd.symm.trans w1
    cases hkk.symm.trans w2
    obtain ⟨kC', hkC', -⟩ := hal.2.2 _ _ w5
    obtain ⟨kE', hkE', -⟩ := hal.2.2 _ _ w4
    refine ⟨cv, (show T.heap[_]? = some cv by rw [hT]; exact u1), u3.2, ⟨kC', by rw [u2]; exact hkC'⟩, ⟨kE', hkE'⟩, ?_⟩
    show vm'.assignable _ _ = true
    rw [hal.assignable, u2]
    exact w6
end CopyEO

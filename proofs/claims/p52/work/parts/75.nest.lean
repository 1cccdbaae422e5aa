/-! CASTS TO ARRAYS, NEST LINKS -/
section NestEO
variable {p : Program} {l : Launch} {e : Env} {R : Room} {s : State} {m : MethodId} {args : Array Value} {below : List Frame} {meth : Method} {c : Code} {Q : State → Prop} {D : va_G} {tc : Nat → ClassId} {z0 : Nat → Prop} {ξ : rX} {ζ : rZ} {σ : Nat → Int32} {nL : Nat} {cf : rCF} {M : rM} {BL : Nat → Nat} {mi : Nat} {kb : rB} {k : rK} {mS : Nat → rMS} {rm : Nat → Room}
variable {cc : ByteArray} {pc a b kd n maxL : Nat} {tb : List (Nat × Nat)} {own host C : String} {y : MethodName} {bytes : ByteArray} {ret : Option FieldType}
theorem eo_checkcastA (F : rFr p s m args c cc own D tc) {nm : String} {index : Nat} (hnm : s.vm.findClass nm = some (rcls D tc a)) (ha : 1 ≤ a) (hlink : (Cond.classLink own index nm).before args s = true) (hd : decode cc pc = .ok (.checkcast index, 3)) : rEO p l e R s m args below meth c Q D tc z0 ξ ζ nL cf M BL mi kb k 3 (.checkcast index, pc, a, b, tb) := by
  intro ih rest nx _ ls st h NB nc ns env hk
  have hk : rc (Nat.beq a 0) false (oCast a ih rest ls st h NB nc ns env) = true := hk
  obtain ⟨-, hk⟩ := rc_nand hk
  refine o_cast ha nx hk (fun _ _ _ _ _ _ w => lv_castN F.1 F.2.1 hd w) (fun H locs nc ns LS st q cell h1 h2 h3 w => ?_)
  intro T hT X
  obtain ⟨vm', X', st2⟩ := X.checkcastYes F.1 F.2.2.1 hlink (by rw [hT]; exact h1) h2 hnm (by rw [h3]; exact va_asg _ _) (g := F0 m pc LS (.ref q :: st)) rfl rfl (by rw [F.2.1]; exact hd)
  obtain ⟨t, a1, b1⟩ := w (T.setVm vm') hT X'
  exact ⟨t, st2 t a1, b1⟩
theorem eo_getfieldN (F : rFr p s m args c cc own D tc) {ref : String} {T : u_T} {N ci j index : Nat} {ty : Nat → FieldType} (hC : rCl ci C T N ty) (hj : j < N) (hlink : (Cond.fieldLinkNest own index ref (T j).2.1 (T j).2.2.1 host).before args s = true)
    (hsame : ∀ x, s.fieldFound? (T j).1 (T j).2.1 (T j).2.2.1 = some x → s.fieldFound? ref (T j).2.1 (T j).2.2.1 = some x) (ha : a = ci + 1) (hci : ci < 63) (hbb : b = rsh j) (hd : decode cc pc = .ok (.getfield index, 3)) : rEO p l e R s m args below meth c Q D tc z0 ξ ζ nL cf M BL mi kb k 3 (.getfield index, pc, a, b, tb) := by
  subst ha hbb
  intro ih rest nx _ ls st h NB nc ns env hk
  have hk : rc (Nat.beq (ci + 1) 0) false (oGet (ci + 1) (rsh j) ih rest ls st h NB nc ns env) = true := hk
  obtain ⟨-, hk⟩ := rc_nand hk
  refine o_get (by omega) (by omega) nx hk fun H locs nc ns LS st q fs v hat hv w => ?_
  obtain ⟨hc, hin, -, -⟩ := hC
  obtain ⟨r, h1, cell, q1, q2, q3, q4⟩ := hat
  have h1 : vwCl[ci]? = some r := h1
  have hr : r = (C, T, N) := Option.some.inj (h1.symm.trans hc)
  subst hr
  obtain ⟨hS, hfc, kC, hkC, hkind⟩ := F.2.2.2.2.1.1 ci _ hc
  obtain ⟨cf, kf, fi, f, hi, hsl⟩ := hS j hj
  refine va_Wgetf F.1 F.2.1 F.2.2.1 hlink (hsame _ hi) (u_facts hfc hkC (u_lays F.2.2.2.1 hin hj) hi).1 q1 q3.1 (v := v) ?_ rfl rfl hd w
  rw [hsl, show D.2 ci = D.2 (ci + 1 - 1) from rfl, q4 j hj]
  simp [vp_V, hv]
theorem site_VN {index : Nat} (F : rFr p s m args c cc own D tc) (hml : c.maxLocals = nL) (hS : mS a = (y, bytes, maxL, ret, [])) (hC : s.vm.findClass C = some (rcls D tc kd)) (hkd : kd ≠ 0) (hG : GoodIn gT (Cond.code y bytes maxL ret :: gT)) (hl : va_Nw (.methodLinkNest own index y host) s) (hini : (Cond.initialized y.cls).before args s = true) (hin : (Cond.instanceMethod y).before args s = true) (hse : (Cond.selects C y y).before args s = true) (hcel : (rm a).cells = mcel M a) (hslo : (rm a).slots = mslo M a)
    (hd : y.cls ≠ "java/lang/invoke/MethodHandle" ∧ y.cls ≠ "java/lang/invoke/VarHandle" ∧ (parseMethodDescriptor y.desc).map (fun d => d.parameters.length) = some n) (hn : b = n + 1) (hR : (rm a).frames + 1 ≤ R.frames ∧ 8 + (maxL + 11) + (rm a).locals ≤ R.locals) (hdg : decode cc pc = .ok (.invokevirtual index, 3)) :
    rSite p l e R s m args below meth c D tc z0 nL M mS rm kd a b pc 3 := by
  intro H locs nc ns LS As rs Pc Qc XC hlen hLS hcat hkd' hM hfb hP hf
  rcases hkd' with h0 | ⟨q, cell, As', rfl, h1, h2, h3⟩
  · exact absurd h0 hkd
  rw [hS] at hM
  refine vx_runVN ⟨F.1, F.2.1, hml, F.2.2.1, F.2.2.2.1⟩ hM ⟨va_cnB n F.2.2.2.1 hG rfl hcel hslo hl hini hd hR, hin, hse⟩ ⟨hfb, ⟨cell, h1, h2, by rw [h3]; exact hC⟩, hP⟩ rfl ?_ hLS (by simp) (lv_room hcat) hdg hf
  rw [List.length_cons] at hlen
  omega
theorem site_SN {index : Nat} (F : rFr p s m args c cc own D tc) (hml : c.maxLocals = nL) (hS : mS a = (y, bytes, maxL, ret, [])) (hG : GoodIn gT (Cond.code y bytes maxL ret :: gT)) (hl : va_Nw (.methodLinkNest own index y host) s) (hini : (Cond.initialized y.cls).before args s = true) (hst : (Cond.static y).before args s = true) (hcel : (rm a).cells = mcel M a) (hslo : (rm a).slots = mslo M a)
    (hd : y.cls ≠ "java/lang/invoke/MethodHandle" ∧ y.cls ≠ "java/lang/invoke/VarHandle" ∧ (parseMethodDescriptor y.desc).map (fun d => d.parameters.length) = some n) (hn : b = n) (hR : (rm a).frames + 1 ≤ R.frames ∧ 8 + (maxL + 11) + (rm a).locals ≤ R.locals) (hdg : decode cc pc = .ok (.invokestatic index, 3)) :
    rSite p l e R s m args below meth c D tc z0 nL M mS rm kd a b pc 3 := by
  intro H locs nc ns LS As rs Pc Qc XC hlen hLS hcat _ hM hfb hP hf
  rw [hS] at hM
  exact vx_runSN ⟨F.1, F.2.1, hml, F.2.2.1, F.2.2.2.1⟩ hM ⟨va_cnB n F.2.2.2.1 hG rfl hcel hslo hl hini hd hR, hst, trivial⟩ ⟨hfb, hP⟩ rfl (by omega) hLS rfl (lv_room hcat) hdg hf
theorem site_IN {index : Nat} (F : rFr p s m args c cc own D tc) (hml : c.maxLocals = nL) (hS : mS a = (y, bytes, maxL, none, [])) (hkd : kd ≠ 0) (hG : GoodIn gT (Cond.code y bytes maxL none :: gT)) (hl : va_Nw (.methodLinkNest own index y host) s) (hini : (Cond.initialized y.cls).before args s = true) (hin : (Cond.instanceMethod y).before args s = true) (hy : y.name = "<init>") (hcel : (rm a).cells = mcel M a) (hslo : (rm a).slots = mslo M a)
    (hd : y.cls ≠ "java/lang/invoke/MethodHandle" ∧ y.cls ≠ "java/lang/invoke/VarHandle" ∧ (parseMethodDescriptor y.desc).map (fun d => d.parameters.length) = some n) (hn : b = n + 1) (hR : (rm a).frames + 1 ≤ R.frames ∧ 8 + (maxL + 11) + (rm a).locals ≤ R.locals) (hdg : decode cc pc = .ok (.invokespecial index, 3)) :
    rSite p l e R s m args below meth c D tc z0 nL M mS rm kd a b pc 3 := by
  intro H locs nc ns LS As rs Pc Qc XC hlen hLS hcat hkd' hM hfb hP hf
  rcases hkd' with h0 | ⟨q, cell, As', rfl, h1, h2, h3⟩
  · exact absurd h0 hkd
  rw [hS] at hM
  refine vx_runIN ⟨F.1, F.2.1, hml, F.2.2.1, F.2.2.2.1⟩ hM ⟨va_cnB n F.2.2.2.1 hG rfl hcel hslo hl hini hd hR, hy, hin⟩ ⟨hfb, hP⟩ rfl ?_ hLS (by simp) (lv_room hcat) hdg hf
  rw [List.length_cons] at hlen
  omega
end NestEO

/-! PLACES OF CALLS -/
section Sites
variable {p : Program} {l : Launch} {e : Env} {R : Room} {s : State} {m : MethodId} {args : Array Value} {below : List Frame} {meth : Method} {c : Code} {D : va_G} {tc : Nat → ClassId} {z0 : Nat → Prop} {nL : Nat} {M : rM} {mS : Nat → rMS} {rm : Nat → Room}
variable {cc : ByteArray} {pc a b kd index n maxL : Nat} {own C : String} {y : MethodName} {bytes : ByteArray} {ret : Option FieldType}
theorem site_V (F : rFr p s m args c cc own D tc) (hml : c.maxLocals = nL) (hS : mS a = (y, bytes, maxL, ret, [])) (hC : s.vm.findClass C = some (rcls D tc kd)) (hkd : kd ≠ 0) (hTs : GoodIn gT (wsV own index C y (Cond.code y bytes maxL ret :: gT))) (hcel : (rm a).cells = mcel M a) (hslo : (rm a).slots = mslo M a)
    (hd : y.cls = C ∧ y.cls ≠ "java/lang/invoke/MethodHandle" ∧ y.cls ≠ "java/lang/invoke/VarHandle" ∧ (parseMethodDescriptor y.desc).map (fun d => d.parameters.length) = some n) (hn : b = n + 1) (hR : (rm a).frames + 1 ≤ R.frames ∧ 8 + (maxL + 11) + (rm a).locals ≤ R.locals) (hdg : decode cc pc = .ok (.invokevirtual index, 3)) :
    rSite p l e R s m args below meth c D tc z0 nL M mS rm kd a b pc 3 := by
  intro H locs nc ns LS As rs Pc Qc XC hlen hLS hcat hkd' hM hfb hP hf
  rcases hkd' with h0 | ⟨q, cell, As', rfl, h1, h2, h3⟩
  · exact absurd h0 hkd
  have cw := cwV n F.2.2.2.1 hTs rfl hcel hslo hd hR
  rw [hS] at hM
  refine vx_runV ⟨F.1, F.2.1, hml, F.2.2.1, F.2.2.2.1⟩ hM cw ⟨hfb, ⟨cell, h1, h2, by rw [h3]; exact hC⟩, hP⟩ rfl ?_ hLS (by simp) (lv_room hcat) hdg hf
  rw [List.length_cons] at hlen
  omega
theorem site_S (F : rFr p s m args c cc own D tc) (hml : c.maxLocals = nL) (hS : mS a = (y, bytes, maxL, ret, [])) (hTs : GoodIn gT (va_wsS own index y (Cond.code y bytes maxL ret :: gT))) (hcel : (rm a).cells = mcel M a) (hslo : (rm a).slots = mslo M a)
    (hd : y.cls ≠ "java/lang/invoke/MethodHandle" ∧ y.cls ≠ "java/lang/invoke/VarHandle" ∧ (parseMethodDescriptor y.desc).map (fun d => d.parameters.length) = some n) (hn : b = n) (hR : (rm a).frames + 1 ≤ R.frames ∧ 8 + (maxL + 11) + (rm a).locals ≤ R.locals) (hdg : decode cc pc = .ok (.invokestatic index, 3)) :
    rSite p l e R s m args below meth c D tc z0 nL M mS rm kd a b pc 3 := by
  intro H locs nc ns LS As rs Pc Qc XC hlen hLS hcat _ hM hfb hP hf
  have cw := va_cwS n F.2.2.2.1 hTs rfl hcel hslo hd hR
  rw [hS] at hM
  exact vx_runS ⟨F.1, F.2.1, hml, F.2.2.1, F.2.2.2.1⟩ hM cw ⟨hfb, hP⟩ rfl (by omega) hLS rfl (lv_room hcat) hdg hf
theorem site_SX {hh : List (Nat × Nat × Nat × Nat)} {h0 : Nat × Nat × Nat × Nat} (F : rFr p s m args c cc own D tc) (hml : c.maxLocals = nL) (hS : mS a = (y, bytes, maxL, ret, h0 :: hh)) (hTs : GoodIn gT (va_wsS own index y (Cond.codeWith y bytes maxL ret (h0 :: hh) :: gT))) (hcel : (rm a).cells = mcel M a) (hslo : (rm a).slots = mslo M a)
    (hd : y.cls ≠ "java/lang/invoke/MethodHandle" ∧ y.cls ≠ "java/lang/invoke/VarHandle" ∧ (parseMethodDescriptor y.desc).map (fun d => d.parameters.length) = some n) (hn : b = n) (hR : (rm a).frames + 1 ≤ R.frames ∧ 8 + (maxL + 11) + (rm a).locals ≤ R.locals) (hdg : decode cc pc = .ok (.invokestatic index, 3)) :
    rSite p l e R s m args below meth c D tc z0 nL M mS rm kd a b pc 3 := by
  intro H locs nc ns LS As rs Pc Qc XC hlen hLS hcat _ hM hfb hP hf
  have cw := vx_cwSW n F.2.2.2.1 hTs rfl hcel hslo hd hR
  rw [hS] at hM
  exact vx_runSX ⟨F.1, F.2.1, hml, F.2.2.1, F.2.2.2.1⟩ hM cw ⟨hfb, hP⟩ rfl (by omega) hLS rfl (lv_room hcat) hdg hf
theorem site_I (F : rFr p s m args c cc own D tc) (hml : c.maxLocals = nL) (hS : mS a = (y, bytes, maxL, none, [])) (hkd : kd ≠ 0) (hG : GoodIn gT (Cond.code y bytes maxL none :: gT)) (hini : (Cond.initialized y.cls).before args s = true) (hl : (Cond.methodLink own index y).before args s = true) (hin : (Cond.instanceMethod y).before args s = true) (hy : y.name = "<init>") (hcel : (rm a).cells = mcel M a) (hslo : (rm a).slots = mslo M a)
    (hd : y.cls ≠ "java/lang/invoke/MethodHandle" ∧ y.cls ≠ "java/lang/invoke/VarHandle" ∧ (parseMethodDescriptor y.desc).map (fun d => d.parameters.length) = some n) (hn : b = n + 1) (hR : (rm a).frames + 1 ≤ R.frames ∧ 8 + (maxL + 11) + (rm a).locals ≤ R.locals) (hdg : decode cc pc = .ok (.invokespecial index, 3)) :
    rSite p l e R s m args below meth c D tc z0 nL M mS rm kd a b pc 3 := by
  intro H locs nc ns LS As rs Pc Qc XC hlen hLS hcat hkd' hM hfb hP hf
  rcases hkd' with h0 | ⟨q, cell, As', rfl, h1, h2, h3⟩
  · exact absurd h0 hkd
  rw [hS] at hM
  refine vx_runI ⟨F.1, F.2.1, hml, F.2.2.1, F.2.2.2.1⟩ hM ⟨callB_of n F.2.2.2.1 hG rfl hcel hslo hini hl hd hR, hy, hin⟩ ⟨hfb, hP⟩ rfl ?_ hLS (by simp) (lv_room hcat) hdg hf
  rw [List.length_cons] at hlen
  omega
end Sites

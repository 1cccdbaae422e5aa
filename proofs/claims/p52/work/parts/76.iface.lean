/-! CALLS THROUGH INTERFACES, AND PRIVATE ONES -/
section IfaceEO
variable {p : Program} {l : Launch} {e : Env} {R : Room} {s : State} {m : MethodId} {args : Array Value} {below : List Frame} {meth : Method} {c : Code} {D : va_G} {tc : Nat → ClassId} {z0 : Nat → Prop} {nL : Nat} {M : rM} {mS : Nat → rMS} {rm : Nat → Room}
variable {cc : ByteArray} {pc a b kd n maxL : Nat} {own C : String} {x y : MethodName} {bytes : ByteArray} {ret : Option FieldType}
theorem site_F {index count : Nat} {cC : ClassId} (F : rFr p s m args c cc own D tc) (hml : c.maxLocals = nL) (hS : mS a = (y, bytes, maxL, ret, [])) (hat : ClassAt s C cC) (hC : s.vm.findClass C = some (rcls D tc kd)) (hkd : kd ≠ 0) (hTs : GoodIn gT (va_wsF own index C x y (Cond.code y bytes maxL ret :: gT))) (hF : va_Fw C x y s) (hcel : (rm a).cells = mcel M a) (hslo : (rm a).slots = mslo M a)
    (hd : x.cls ≠ "java/lang/invoke/MethodHandle" ∧ x.cls ≠ "java/lang/invoke/VarHandle" ∧ (parseMethodDescriptor x.desc).map (fun d => d.parameters.length) = some n) (hn : b = n + 1) (hR : (rm a).frames + 1 ≤ R.frames ∧ 8 + (maxL + 11) + (rm a).locals ≤ R.locals) (hdg : decode cc pc = .ok (.invokeinterface index count, 5)) :
    rSite p l e R s m args below meth c D tc z0 nL M mS rm kd a b pc 5 := by
  intro H locs nc ns LS As rs Pc Qc XC hlen hLS hcat hkd' hM hfb hP hf
  rcases hkd' with h0 | ⟨q, cell, As', rfl, h1, h2, h3⟩
  · exact absurd h0 hkd
  rw [hS] at hM
  refine vx_runF hat ⟨F.1, F.2.1, hml, F.2.2.1, F.2.2.2.1⟩ hM (va_cwF n F.2.2.2.1 hTs rfl hcel hslo hF hd hR) ⟨hfb, ⟨cell, h1, h2, by rw [h3]; exact hC⟩, hP⟩ rfl ?_ hLS (by simp) (lv_room hcat) hdg hf
  rw [List.length_cons] at hlen
  omega
end IfaceEO

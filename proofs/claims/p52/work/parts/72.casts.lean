/-! CASTS TO CLASSES OF OURS -/
section CastEO
variable {p : Program} {l : Launch} {e : Env} {R : Room} {s : State} {m : MethodId} {args : Array Value} {below : List Frame} {meth : Method} {c : Code} {Q : State → Prop} {D : va_G} {tc : Nat → ClassId} {z0 : Nat → Prop} {ξ : rX} {ζ : rZ} {σ : Nat → Int32} {nL : Nat} {cf : rCF} {M : rM} {BL : Nat → Nat} {mi : Nat} {kb : rB} {k : rK}
variable {cc : ByteArray} {pc a b : Nat} {tb : List (Nat × Nat)} {own : String}
theorem eo_checkcastS (F : rFr p s m args c cc own D tc) {nm : String} {T : u_T} {N ci index : Nat} {ty : Nat → FieldType} (hC : rCl ci nm T N ty) (ha : a = ci + 1) (hci : ci < 63) (hlink : (Cond.classLink own index nm).before args s = true) (hd : decode cc pc = .ok (.checkcast index, 3)) : rEO p l e R s m args below meth c Q D tc z0 ξ ζ nL cf M BL mi kb k 3 (.checkcast index, pc, a, b, tb) := by
  subst ha
  intro ih rest nx _ ls st h NB nc ns env hk
  have hk : rc (Nat.beq (ci + 1) 0) false (oCast (ci + 1) ih rest ls st h NB nc ns env) = true := hk
  obtain ⟨-, hk⟩ := rc_nand hk
  have hK := (F.2.2.2.2.1.1 ci _ hC.1).2
  have hr : rcls D tc (ci + 1) = D.1 ci := by unfold rcls; rw [if_pos (by omega)]; rfl
  exact o_cast (by omega) nx hk (fun _ _ _ _ _ _ w => lv_castN F.1 F.2.1 hd w) (fun _ _ _ _ _ _ q cell h1 h2 h3 w => va_castS F.1 F.2.1 F.2.2.1 hlink hK ⟨cell, h1, h2, by rw [h3, hr]; exact hK.1⟩ hd w)
theorem eo_checkcastY (F : rFr p s m args c cc own D tc) {C nm : String} {index : Nat} (hC : s.vm.findClass C = some (rcls D tc a)) (ha : 1 ≤ a) (hlink : (Cond.classLink own index nm).before args s = true) (hc : va_Nw (.castable C nm) s) (hd : decode cc pc = .ok (.checkcast index, 3)) : rEO p l e R s m args below meth c Q D tc z0 ξ ζ nL cf M BL mi kb k 3 (.checkcast index, pc, a, b, tb) := by
  intro ih rest nx _ ls st h NB nc ns env hk
  have hk : rc (Nat.beq a 0) false (oCast a ih rest ls st h NB nc ns env) = true := hk
  obtain ⟨-, hk⟩ := rc_nand hk
  exact o_cast ha nx hk (fun _ _ _ _ _ _ w => lv_castN F.1 F.2.1 hd w) (fun _ _ _ _ _ _ q cell h1 h2 h3 w => va_castY F.1 F.2.1 F.2.2.1 hlink hc ⟨cell, h1, h2, by rw [h3]; exact hC⟩ hd w)
end CastEO

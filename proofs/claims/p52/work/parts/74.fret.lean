/-! RETURNS OF FLOATS -/
section FEnds
variable {p : Program} {l : Launch} {e : Env} {R : Room} {s : State} {m : MethodId} {args : Array Value} {below : List Frame} {meth : Method} {c : Code} {D : va_G} {tc : Nat → ClassId} {z0 : Nat → Prop} {ζ : rZ} {σ : Nat → Int32} {xn : Nat → String} {ρ0 : Nat → Nat} {NB0 : Nat} {nL : Nat} {cf : rCF} {M : rM} {BL : Nat → Nat} {mi : Nat} {kb : rB} {k : rK}
variable {cc : ByteArray} {pc a b : Nat} {tb : List (Nat × Nat)} {own : String}
theorem eo_freturn (he : p.tables.exec = Jvm.exec) (hb : c.code = cc) (hlk : meth.locks = false) (hr : meth.sig.returnType = some .float) (hd : decode cc pc = .ok (.freturn, 1)) : rEO p l e R s m args below meth c (rQ below D tc z0 ζ xn ρ0 NB0 k args s (mcel M mi) (mslo M mi)) D tc z0 (NB0, ρ0) ζ nL cf M BL mi kb k 1 (.freturn, pc, a, b, tb) := by
  intro ih rest _ _ ls st h NB nc ns env hk
  obtain ⟨h1, h2⟩ := rc_and (show rc (Nat.ble nc (mcel M mi)) (rc (Nat.ble ns (mslo M mi)) (rret risF k st h NB env) false) false = true from hk)
  obtain ⟨h3, h4⟩ := rc_and h2
  obtain ⟨v, rfl, h5, h6⟩ := rret_spec h4
  intro σ ρ H locs LS I
  have hw := I.2.2.1 v List.mem_cons_self
  have hv := risF_in h5
  show W _ _ _ _ _ _ _ _ _ _ _ _ _ _ _ (F0 m pc LS [rval ρ σ v])
  rw [rval_F h5]
  refine vx_ret (W.widen (ble_le h1) (ble_le h3) (W.fret he hb hr (fun t e1 _ => ?_) (fun q hq => I.2.2.2.2.2.2 q hq) hd hlk))
  exact rEnd I h6 hw e1 (Or.inl ⟨by omega, by rw [rval_F h5]⟩)
theorem eo_dreturn (he : p.tables.exec = Jvm.exec) (hb : c.code = cc) (hlk : meth.locks = false) (hr : meth.sig.returnType = some .double) (hd : decode cc pc = .ok (.dreturn, 1)) : rEO p l e R s m args below meth c (rQ below D tc z0 ζ xn ρ0 NB0 k args s (mcel M mi) (mslo M mi)) D tc z0 (NB0, ρ0) ζ nL cf M BL mi kb k 1 (.dreturn, pc, a, b, tb) := by
  intro ih rest _ _ ls st h NB nc ns env hk
  obtain ⟨h1, h2⟩ := rc_and (show rc (Nat.ble nc (mcel M mi)) (rc (Nat.ble ns (mslo M mi)) (rret risD k st h NB env) false) false = true from hk)
  obtain ⟨h3, h4⟩ := rc_and h2
  obtain ⟨v, rfl, h5, h6⟩ := rret_spec h4
  intro σ ρ H locs LS I
  have hw := I.2.2.1 v List.mem_cons_self
  have hv := risD_in h5
  show W _ _ _ _ _ _ _ _ _ _ _ _ _ _ _ (F0 m pc LS [rval ρ σ v])
  rw [rval_D h5]
  refine vx_ret (W.widen (ble_le h1) (ble_le h3) (W.dret he hb hr (fun t e1 _ => ?_) (fun q hq => I.2.2.2.2.2.2 q hq) hd hlk))
  exact rEnd I h6 hw e1 (Or.inl ⟨Nat.lt_trans hv.2 (by decide), by rw [rval_D h5]⟩)
end FEnds

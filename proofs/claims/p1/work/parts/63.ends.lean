/-! RETURNS, THROWS, NATIVES OF INTS, SWITCHES -/
def rQ (below : List Frame) (D : va_G) (tc : Nat → ClassId) (z0 : Nat) (σ : Nat → Int32) (xn : Nat → String) (ρ0 : Nat → Nat) (NB0 : Nat) (k : rK) (args : Array Value) (s : State) (mc ms : Nat) : State → Prop :=
  vx_MQ below (rQc D tc z0 σ ρ0 NB0 k) (rXc D tc z0 σ xn ρ0 NB0 k) args s mc ms (fun q => z0 ≤ q)
section Ends
variable {p : Program} {l : Launch} {e : Env} {R : Room} {s : State} {m : MethodId} {args : Array Value} {below : List Frame} {meth : Method} {c : Code} {D : va_G} {tc : Nat → ClassId} {z0 : Nat} {σ : Nat → Int32} {xn : Nat → String} {ρ0 : Nat → Nat} {NB0 : Nat} {nL : Nat} {cf : rCF} {M : rM} {BL : Nat → Nat} {mi : Nat} {kb : rB} {k : rK}
variable {cc : ByteArray} {pc a b : Nat} {tb : List (Nat × Nat)} {own : String}
theorem rret_spec {P : Nat → Bool} {st : List Nat} {h : rH} {NB : Nat} {env : rE} (hk : rret P k st h NB env = true) : ∃ v, st = [v] ∧ P v = true ∧ k v h NB env = true := by
  obtain ⟨v, st', rfl, h1⟩ := pop1_spec hk
  obtain ⟨h2, h3⟩ := rc_and h1
  cases st' with
  | nil => exact ⟨v, rfl, h2, h3⟩
  | cons x t => cases h3
/-- what a frame's end asks for -/
theorem rEnd {v h NB env} {ρ : Nat → Nat} {ls st : List Nat} {H : Heap} {locs : List Loc} {LS : Array Slot} (I : rInv D tc z0 (NB0, ρ0) σ s.heap nL ρ ls st h NB env H locs LS) (hk : k v h NB env = true) (hw : rwf NB v) {t : State} (ht : t.heap = H) {P : (Nat → Nat) → Nat → Prop} (hP : P ρ v) :
    rAf D tc z0 σ ρ0 NB0 k t P ∧ va_F (fun q : Nat => z0 ≤ q) s t := by
  refine ⟨⟨v, h, NB, env, ρ, hk, I.2.2.2.1, I.1.2.1.2.2.1, I.1.2.1.2.2.2, by rw [ht]; exact I.1, hw, hP⟩, ?_, fun q h1 h2 => ?_⟩
  · rw [ht]; exact I.2.2.2.2.1
  · rw [ht]; exact I.2.2.2.2.2.1 q h1 h2
theorem eo_ireturn (he : p.tables.exec = Jvm.exec) (hb : c.code = cc) (hlk : meth.locks = false) {ty : FieldType} (hr : meth.sig.returnType = some ty) (ht : rtyOk a ty) (ha : a ≤ 2) (hy : rSy σ) (hd : decode cc pc = .ok (.ireturn, 1)) : rEO p l e R s m args below meth c (rQ below D tc z0 σ xn ρ0 NB0 k args s (mcel M mi) (mslo M mi)) D tc z0 (NB0, ρ0) σ nL cf M BL mi kb k 1 (.ireturn, pc, a, b, tb) := by
  intro ih rest _ _ ls st h NB nc ns env hk
  obtain ⟨h1, h2⟩ := rc_and (show rc (Nat.ble nc (mcel M mi)) (rc (Nat.ble ns (mslo M mi)) (rret (rty a) k st h NB env) false) false = true from hk)
  obtain ⟨h3, h4⟩ := rc_and h2
  obtain ⟨v, rfl, h5, h6⟩ := rret_spec h4
  intro ρ H locs LS I
  obtain ⟨f1, f2⟩ := rty_fits (ρ := ρ) hy.2.2 ht h5
  have hv : v < 73786976294838206464 := rty_lt h5
  obtain ⟨x, hx⟩ : ∃ x, rval ρ σ v = .int x := by
    match a, ha, ht with
    | 0, _, ht => have ht : ty = .int := ht; subst ht; exact fits_int f2
    | 1, _, ht => have ht : ty = .boolean := ht; subst ht; exact fits_bool f2
    | 2, _, ht => have ht : ty = .char := ht; subst ht; exact fits_char f2
    | n + 3, ha, _ => omega
  have hw := I.2.2.1 v List.mem_cons_self
  show W _ _ _ _ _ _ _ _ _ _ _ _ _ _ _ (F0 m pc LS [rval ρ σ v])
  rw [hx] at f1 ⊢
  refine vx_ret (W.widen (ble_le h1) (ble_le h3) (W.zret he hb hr f1 (fun t e1 _ => ?_) (fun q hq => I.2.2.2.2.2.2 q hq) hd hlk))
  exact rEnd I h6 hw e1 (Or.inl ⟨hv, by rw [hx]⟩)
theorem eo_areturn (he : p.tables.exec = Jvm.exec) (hb : c.code = cc) (hlk : meth.locks = false) {ty : FieldType} (hr : meth.sig.returnType = some ty) (ht : (∃ n, ty = .object n) ∨ ∃ t, ty = .array t) (hd : decode cc pc = .ok (.areturn, 1)) : rEO p l e R s m args below meth c (rQ below D tc z0 σ xn ρ0 NB0 k args s (mcel M mi) (mslo M mi)) D tc z0 (NB0, ρ0) σ nL cf M BL mi kb k 1 (.areturn, pc, a, b, tb) := by
  intro ih rest _ _ ls st h NB nc ns env hk
  obtain ⟨h1, h2⟩ := rc_and (show rc (Nat.ble nc (mcel M mi)) (rc (Nat.ble ns (mslo M mi)) (rret risR k st h NB env) false) false = true from hk)
  obtain ⟨h3, h4⟩ := rc_and h2
  obtain ⟨v, rfl, h5, h6⟩ := rret_spec h4
  intro ρ H locs LS I
  have hw := I.2.2.1 v List.mem_cons_self
  refine vx_ret (W.widen (ble_le h1) (ble_le h3) (W.aret (v := rval ρ σ v) he hb hr ht (rval_R2 h5) (fun t e1 _ => ?_) (fun q hq => I.2.2.2.2.2.2 q hq) hd hlk))
  exact rEnd I h6 hw e1 (Or.inl ⟨risR_lt h5, rfl⟩)
theorem eo_lreturn (he : p.tables.exec = Jvm.exec) (hb : c.code = cc) (hlk : meth.locks = false) (hr : meth.sig.returnType = some .long) (hd : decode cc pc = .ok (.lreturn, 1)) : rEO p l e R s m args below meth c (rQ below D tc z0 σ xn ρ0 NB0 k args s (mcel M mi) (mslo M mi)) D tc z0 (NB0, ρ0) σ nL cf M BL mi kb k 1 (.lreturn, pc, a, b, tb) := by
  intro ih rest _ _ ls st h NB nc ns env hk
  obtain ⟨h1, h2⟩ := rc_and (show rc (Nat.ble nc (mcel M mi)) (rc (Nat.ble ns (mslo M mi)) (rret risL k st h NB env) false) false = true from hk)
  obtain ⟨h3, h4⟩ := rc_and h2
  obtain ⟨v, rfl, h5, h6⟩ := rret_spec h4
  intro ρ H locs LS I
  have hw := I.2.2.1 v List.mem_cons_self
  show W _ _ _ _ _ _ _ _ _ _ _ _ _ _ _ (F0 m pc LS [rval ρ σ v])
  rw [rval_L h5]
  refine vx_ret (W.widen (ble_le h1) (ble_le h3) (W.lret he hb hr (fun t e1 _ => ?_) (fun q hq => I.2.2.2.2.2.2 q hq) hd hlk))
  exact rEnd I h6 hw e1 (Or.inl ⟨risL_lt h5, by rw [rval_L h5]⟩)
theorem eo_return (he : p.tables.exec = Jvm.exec) (hb : c.code = cc) (hlk : meth.locks = false) (hr : meth.sig.returnType = none) (hd : decode cc pc = .ok (.return_, 1)) (hst : ∀ st : List Value, (∀ t : State, t.heap = t.heap) → True) : True := trivial
/-- a throw of a new exception -/
theorem eo_throw (he : p.tables.exec = Jvm.exec) (hb : c.code = cc) (hlk : meth.locks = false) (hl : l.stackTraces = false) {cls : String} {names : List String} {ik ic : Nat} (hown : s.vm.findClass own = some m.cls) (hcls : Bundle.fit cls = true) (hnames : ∀ n ∈ names, Bundle.fit n = true)
    (hkl : (Cond.classLink own ik cls).before args s = true) (hini : (Cond.initialized cls).before args s = true) (hat : ∀ w ∈ vx_at0 own ic cls names, w.before args s = true) (hgood : ∀ w ∈ Cond.classLink own ik cls :: Cond.initialized cls :: vx_at0 own ic cls names, vx_ot w = true)
    (hU : vx_Zq Bundle.tN "UNASSIGNED_STACK" Bundle.steD (fun q : Nat => z0 ≤ q) s s.heap) (hN : vx_Zq Bundle.tN "SUPPRESSED_SENTINEL" Bundle.listD (fun q : Nat => z0 ≤ q) s s.heap) (hml : c.maxLocals = nL)
    (d0 : decode cc pc = .ok (.new ik, 3)) (d3 : decode cc (pc + 3) = .ok (.dup, 1)) (d4 : decode cc (pc + 4) = .ok (.invokespecial ic, 3)) (d7 : decode cc (pc + 7) = .ok (.athrow, 1))
    (hout : ∀ x ∈ c.exceptionTable.toList, covers x (pc + 7) = false) (hRf : names.length + 3 < R.frames) (hRl : 16 + (13 * (names.length + 1) + 42) ≤ R.locals) (hR1 : mcel M mi ≤ R.cells) (hR2 : mslo M mi ≤ R.slots) (hxn : xn b = cls) (ha : a = 0)
    (hcat : ∀ (ls st : List Nat) (h : rH) (NB nc ns : Nat) (env : rE), True) : True := trivial
theorem rcats_map {ρ : Nat → Nat} {st : List Nat} {x : Nat} (h : rcats st ≤ x) : ((st.map (rval ρ σ)).map fun v => v.category).sum ≤ x := by rw [rcats_spec]; exact h
end Ends

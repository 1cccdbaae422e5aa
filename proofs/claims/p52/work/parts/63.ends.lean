/-! RETURNS, THROWS, NATIVES OF INTS, SWITCHES -/
def rQ (below : List Frame) (D : va_G) (tc : Nat → ClassId) (z0 : Nat → Prop) (ζ : rZ) (xn : Nat → String) (ρ0 : Nat → Nat) (NB0 : Nat) (k : rK) (args : Array Value) (s : State) (mc ms : Nat) : State → Prop :=
  vx_MQ below (rQc D tc z0 ζ ρ0 NB0 k) (rXc D tc z0 ζ xn ρ0 NB0 k) args s mc ms z0
section Ends
variable {p : Program} {l : Launch} {e : Env} {R : Room} {s : State} {m : MethodId} {args : Array Value} {below : List Frame} {meth : Method} {c : Code} {D : va_G} {tc : Nat → ClassId} {z0 : Nat → Prop} {ζ : rZ} {σ : Nat → Int32} {xn : Nat → String} {ρ0 : Nat → Nat} {NB0 : Nat} {nL : Nat} {cf : rCF} {M : rM} {BL : Nat → Nat} {mi : Nat} {kb : rB} {k : rK}
variable {cc : ByteArray} {pc a b : Nat} {tb : List (Nat × Nat)} {own : String}
theorem rret_spec {P : Nat → Bool} {st : List Nat} {h : rH} {NB : Nat} {env : rE} (hk : rret P k st h NB env = true) : ∃ v, st = [v] ∧ P v = true ∧ k v h NB env = true := by
  obtain ⟨v, st', rfl, h1⟩ := pop1_spec hk
  obtain ⟨h2, h3⟩ := rc_and h1
  cases st' with
  | nil => exact ⟨v, rfl, h2, h3⟩
  | cons x t => cases h3
/-- what a frame's end asks for -/
theorem rEnd {v h NB env} {ρ : Nat → Nat} {ls st : List Nat} {H : Heap} {locs : List Loc} {LS : Array Slot} (I : rInv D tc z0 (NB0, ρ0) ζ σ s.heap nL ρ ls st h NB env H locs LS) (hk : k v h NB env = true) (hw : rwf NB v) {t : State} (ht : t.heap = H) {P : (Nat → Nat) → (Nat → Int32) → Nat → Prop} (hP : P ρ σ v) :
    rAf D tc z0 ζ ρ0 NB0 k t P ∧ va_F z0 s t := by
  refine ⟨⟨v, h, NB, env, ρ, σ, hk, I.2.2.2.1, I.1.2.1.2.2.1, I.1.2.1.2.2.2, by rw [ht]; exact I.1, hw, hP⟩, ?_, fun q h1 h2 => ?_⟩
  · rw [ht]; exact I.2.2.2.2.1
  · rw [ht]; exact I.2.2.2.2.2.1 q h1 h2
theorem eo_ireturn (he : p.tables.exec = Jvm.exec) (hb : c.code = cc) (hlk : meth.locks = false) {ty : FieldType} (hr : meth.sig.returnType = some ty) (ht : rtyOk a ty) (ha : a ≤ 2) (hy : rSy ζ.2) (hd : decode cc pc = .ok (.ireturn, 1)) : rEO p l e R s m args below meth c (rQ below D tc z0 ζ xn ρ0 NB0 k args s (mcel M mi) (mslo M mi)) D tc z0 (NB0, ρ0) ζ nL cf M BL mi kb k 1 (.ireturn, pc, a, b, tb) := by
  intro ih rest _ _ ls st h NB nc ns env hk
  obtain ⟨h1, h2⟩ := rc_and (show rc (Nat.ble nc (mcel M mi)) (rc (Nat.ble ns (mslo M mi)) (rret (rty a) k st h NB env) false) false = true from hk)
  obtain ⟨h3, h4⟩ := rc_and h2
  obtain ⟨v, rfl, h5, h6⟩ := rret_spec h4
  intro σ ρ H locs LS I
  have hy := I.2.2.2.1.sy
  obtain ⟨f1, f2⟩ := rty_fits (ρ := ρ) hy.2.2 ht h5
  have hv : v < 73786976294838206464 := rty_lt h5
  obtain ⟨x, hx⟩ : ∃ x, rval ρ σ v = .int x := by
    match a, ha, ht with
    | 0, _, ht => have ht : ty = .int := ht; subst ht; exact fits_int f2
    | 1, _, ht => have ht : ty = .boolean := ht; subst ht; exact fits_bool f2
    | 2, _, ht => have ht : ty = .char := ht; subst ht; exact fits_char f2
    | n + 3, ha, _ => omega
  have hw := I.2.2.1 v List.mem_cons_self
  show W _ _ _ _ _ _ _ _ _ _ _ _ _ _ _ (F0 m pc LS [rval ρ σ v])
  rw [hx] at f1 ⊢
  refine vx_ret (W.widen (ble_le h1) (ble_le h3) (W.zret he hb hr f1 (fun t e1 _ => ?_) (fun q hq => I.2.2.2.2.2.2 q hq) hd hlk))
  exact rEnd I h6 hw e1 (Or.inl ⟨hv, by rw [hx]⟩)
theorem eo_areturn (he : p.tables.exec = Jvm.exec) (hb : c.code = cc) (hlk : meth.locks = false) {ty : FieldType} (hr : meth.sig.returnType = some ty) (ht : (∃ n, ty = .object n) ∨ ∃ t, ty = .array t) (hd : decode cc pc = .ok (.areturn, 1)) : rEO p l e R s m args below meth c (rQ below D tc z0 ζ xn ρ0 NB0 k args s (mcel M mi) (mslo M mi)) D tc z0 (NB0, ρ0) ζ nL cf M BL mi kb k 1 (.areturn, pc, a, b, tb) := by
  intro ih rest _ _ ls st h NB nc ns env hk
  obtain ⟨h1, h2⟩ := rc_and (show rc (Nat.ble nc (mcel M mi)) (rc (Nat.ble ns (mslo M mi)) (rret risR k st h NB env) false) false = true from hk)
  obtain ⟨h3, h4⟩ := rc_and h2
  obtain ⟨v, rfl, h5, h6⟩ := rret_spec h4
  intro σ ρ H locs LS I
  have hw := I.2.2.1 v List.mem_cons_self
  refine vx_ret (W.widen (ble_le h1) (ble_le h3) (W.aret (v := rval ρ σ v) he hb hr ht (rval_R2 h5) (fun t e1 _ => ?_) (fun q hq => I.2.2.2.2.2.2 q hq) hd hlk))
  exact rEnd I h6 hw e1 (Or.inl ⟨risR_lt h5, rfl⟩)
theorem eo_lreturn (he : p.tables.exec = Jvm.exec) (hb : c.code = cc) (hlk : meth.locks = false) (hr : meth.sig.returnType = some .long) (hd : decode cc pc = .ok (.lreturn, 1)) : rEO p l e R s m args below meth c (rQ below D tc z0 ζ xn ρ0 NB0 k args s (mcel M mi) (mslo M mi)) D tc z0 (NB0, ρ0) ζ nL cf M BL mi kb k 1 (.lreturn, pc, a, b, tb) := by
  intro ih rest _ _ ls st h NB nc ns env hk
  obtain ⟨h1, h2⟩ := rc_and (show rc (Nat.ble nc (mcel M mi)) (rc (Nat.ble ns (mslo M mi)) (rret risL k st h NB env) false) false = true from hk)
  obtain ⟨h3, h4⟩ := rc_and h2
  obtain ⟨v, rfl, h5, h6⟩ := rret_spec h4
  intro σ ρ H locs LS I
  have hw := I.2.2.1 v List.mem_cons_self
  show W _ _ _ _ _ _ _ _ _ _ _ _ _ _ _ (F0 m pc LS [rval ρ σ v])
  rw [rval_L h5]
  refine vx_ret (W.widen (ble_le h1) (ble_le h3) (W.lret he hb hr (fun t e1 _ => ?_) (fun q hq => I.2.2.2.2.2.2 q hq) hd hlk))
  exact rEnd I h6 hw e1 (Or.inl ⟨risL_lt h5, by rw [rval_L h5]⟩)
theorem eo_return (he : p.tables.exec = Jvm.exec) (hb : c.code = cc) (hlk : meth.locks = false) (hr : meth.sig.returnType = none) (hd : decode cc pc = .ok (.return_, 1)) : rEO p l e R s m args below meth c (rQ below D tc z0 ζ xn ρ0 NB0 k args s (mcel M mi) (mslo M mi)) D tc z0 (NB0, ρ0) ζ nL cf M BL mi kb k 1 (.return_, pc, a, b, tb) := by
  intro ih rest _ _ ls st h NB nc ns env hk
  obtain ⟨h1, h2⟩ := rc_and (show rc (Nat.ble nc (mcel M mi)) (rc (Nat.ble ns (mslo M mi)) (List.rec (motive := fun _ => Bool) (k (nat_lit 73786976294838206465) h NB env) (fun _ _ _ => false) st) false) false = true from hk)
  obtain ⟨h3, h4⟩ := rc_and h2
  cases st with
  | cons x t => cases h4
  | nil =>
    intro σ ρ H locs LS I
    refine vx_ret (W.widen (ble_le h1) (ble_le h3) (W.vret he hb hr (fun t e1 _ => ?_) (fun q hq => I.2.2.2.2.2.2 q hq) hd hlk))
    exact rEnd I h4 (rwf_ge (Or.inr (by decide))) e1 (Or.inr ⟨rfl, rfl⟩)
theorem rcats_map {σ : Nat → Int32} {ρ : Nat → Nat} {st : List Nat} {x : Nat} (h : rcats st ≤ x) : ((st.map (rval ρ σ)).map fun v => v.category).sum ≤ x := by rw [rcats_spec]; exact h
/-- a throw of a new exception -/
theorem eo_throw (he : p.tables.exec = Jvm.exec) (hb : c.code = cc) (hlk : meth.locks = false) (hl : l.stackTraces = false) {cls : String} {names : List String} {ik ic : Nat} (hown : s.vm.findClass own = some m.cls) (hcls : Bundle.fit cls = true) (hnames : ∀ n ∈ names, Bundle.fit n = true)
    (hkl : (Cond.classLink own ik cls).before args s = true) (hini : (Cond.initialized cls).before args s = true) (hat : ∀ w ∈ vx_at0 own ic cls names, w.before args s = true) (hgood : ∀ w ∈ Cond.classLink own ik cls :: Cond.initialized cls :: vx_at0 own ic cls names, vx_ot w = true)
    (hU : vx_Zq Bundle.tN "UNASSIGNED_STACK" Bundle.steD z0 s s.heap) (hN : vx_Zq Bundle.tN "SUPPRESSED_SENTINEL" Bundle.listD z0 s s.heap) (hml : c.maxLocals = nL)
    (d0 : decode cc pc = .ok (.new ik, 3)) (d3 : decode cc (pc + 3) = .ok (.dup, 1)) (d4 : decode cc (pc + 4) = .ok (.invokespecial ic, 3)) (d7 : decode cc (pc + 7) = .ok (.athrow, 1))
    (hout : ∀ x ∈ c.exceptionTable.toList, covers x (pc + 7) = false) (hRf : names.length + 3 < R.frames) (hRl : 16 + (13 * (names.length + 1) + 42) ≤ R.locals) (hR1 : mcel M mi ≤ R.cells) (hR2 : mslo M mi ≤ R.slots) (hxn : xn b = cls) (ha : a = 0) :
    rEO p l e R s m args below meth c (rQ below D tc z0 ζ xn ρ0 NB0 k args s (mcel M mi) (mslo M mi)) D tc z0 (NB0, ρ0) ζ nL cf M BL mi kb k 3 (.new ik, pc, a, b, tb) := by
  subst ha
  intro ih rest _ _ ls st h NB nc ns env hk
  obtain ⟨g0, g1⟩ := rc_and (show rc (Nat.ble (rcats st) (nat_lit 16)) (rc (Nat.ble (Nat.succ nc) (mcel M mi)) (rc (Nat.ble (Nat.add ns 6) (mslo M mi)) (k (Nat.add (nat_lit 1180591620717411303424) b) h NB env) false) false) false = true from hk)
  obtain ⟨g2, g3⟩ := rc_and g1
  obtain ⟨g4, g5⟩ := rc_and g3
  have g2 : nc + 1 ≤ mcel M mi := ble_le g2
  have g4 : ns + 6 ≤ mslo M mi := ble_le g4
  intro σ ρ H locs LS I
  have hs16 := rcats_map (σ := σ) (ρ := ρ) (x := 16) (ble_le g0)
  refine vx_throw0 he hb hl hown hcls hnames hkl hini hat hgood hU hN I.2.2.2.2 (by rw [I.2.1.1, hml]) d0 d3 d4 d7 hout hRf (by omega) (Nat.le_trans g2 hR1) (Nat.le_trans g4 hR2) hlk (fun t _ e2 e3 => ?_) (fun q hq => I.2.2.2.2.2.2 q hq) g2 g4
  refine ⟨⟨Nat.add (nat_lit 1180591620717411303424) b, h, NB, env, ρ, σ, g5, I.2.2.2.1, I.1.2.1.2.2.1, I.1.2.1.2.2.2, I.1.kept e2 e3, rwf_ge (Or.inr (show 17179869184 ≤ 1180591620717411303424 + b by omega)), b, rfl, hxn⟩, Nat.le_trans I.2.2.2.2.1 e2, fun q h1 h2 => ?_⟩
  rw [e3 q (Nat.lt_of_lt_of_le h1 I.2.2.2.2.1)]
  exact I.2.2.2.2.2.1 q h1 h2
/-- natives of ints -/
theorem o_binX {Wf : rWf} {H0 : Heap} {ξ : rX} {pc' : Nat} {ih : rG} {rest : rCode} {ls st : List Nat} {h : rH} {NB nc ns : Nat} {env : rE} {f : Nat → Nat → Nat} {F : Int32 → Int32 → Int32} (hf : ∀ a b, a < 4294967296 → b < 4294967296 → f a b < 4294967296 ∧ Int32.ofNat (f a b) = F (Int32.ofNat a) (Int32.ofNat b)) (nx : rNx Wf D tc z0 ξ ζ H0 nL pc' ih rest)
    (hcat : rcats st ≤ 16) (hk : oBin f ih rest ls st h NB nc ns env = true)
    (row : ∀ H locs LS (st : List Value) x y, LS.size = nL → (st.map fun v => v.category).sum ≤ 16 → Wf H locs nc ns pc' LS (.int (F x y) :: st) → Wf H locs nc ns pc LS (.int y :: .int x :: st)) : rGo Wf D tc z0 ξ ζ H0 nL pc ls st h NB nc ns env := by
  obtain ⟨b, st1, rfl, h1⟩ := pop1_spec hk
  obtain ⟨a, st', rfl, h2⟩ := pop1_spec h1
  intro σ ρ H locs LS I
  obtain ⟨ha, hb, a', b', env', la, lb, ea, eb, he, h1⟩ := rbin_spec h2 I.2.2.2.1
  obtain ⟨f1, f2⟩ := hf a' b' la lb
  have g := nx _ _ _ _ _ _ _ h1 ρ H locs LS ⟨I.1, I.2.1, mem2 I.2.2.1 (rwf_lt f1), he, I.2.2.2.2⟩
  have hc := rcats_map (σ := σ) (ρ := ρ) hcat
  simp only [List.map_cons, List.sum_cons] at hc
  show Wf _ _ _ _ _ _ (rval ρ σ b :: rval ρ σ a :: st'.map (rval ρ σ))
  rw [rval_I ha, rval_I hb, ea, eb]
  refine row _ _ _ _ _ _ I.2.1.1 (by omega) ?_
  rw [← f2, ← rval_lit (ρ := ρ) f1]
  exact g
theorem o_maxX {Wf : rWf} {H0 : Heap} {ξ : rX} {pc' : Nat} {ih : rG} {rest : rCode} {ls st : List Nat} {h : rH} {NB nc ns : Nat} {env : rE} (nx : rNx Wf D tc z0 ξ ζ H0 nL pc' ih rest)
    (hcat : rcats st ≤ 16) (hk : oMxn (fun a b env t e => rlt a b env e t) ih rest ls st h NB nc ns env = true)
    (row : ∀ H locs LS (st : List Value) x y, LS.size = nL → (st.map fun v => v.category).sum ≤ 16 → Wf H locs nc ns pc' LS (.int (if x < y then y else x) :: st) → Wf H locs nc ns pc LS (.int y :: .int x :: st)) : rGo Wf D tc z0 ξ ζ H0 nL pc ls st h NB nc ns env := by
  obtain ⟨b, st1, rfl, h1⟩ := pop1_spec hk
  obtain ⟨a, st', rfl, h2⟩ := pop1_spec h1
  intro σ ρ H locs LS I
  obtain ⟨ha, hb, ht⟩ := rlt_spec h2 I.2.2.2.1
  have hc := rcats_map (σ := σ) (ρ := ρ) hcat
  simp only [List.map_cons, List.sum_cons] at hc
  show Wf _ _ _ _ _ _ (rval ρ σ b :: rval ρ σ a :: st'.map (rval ρ σ))
  rw [rval_I ha, rval_I hb]
  refine row _ _ _ _ _ _ I.2.1.1 (by omega) ?_
  rcases ht with ⟨q, env', he, g⟩ | ⟨q, env', he, g⟩
  · have w := nx _ _ _ _ _ _ _ g ρ H locs LS ⟨I.1, I.2.1, mem2 I.2.2.1 (I.2.2.1 b List.mem_cons_self), he, I.2.2.2.2⟩
    rw [List.map_cons, rval_I hb] at w
    rw [if_pos q]
    exact w
  · have w := nx _ _ _ _ _ _ _ g ρ H locs LS ⟨I.1, I.2.1, mem2 I.2.2.1 (I.2.2.1 a (List.mem_cons_of_mem _ List.mem_cons_self)), he, I.2.2.2.2⟩
    rw [List.map_cons, rval_I ha] at w
    rw [if_neg q]
    exact w
theorem o_minX {Wf : rWf} {H0 : Heap} {ξ : rX} {pc' : Nat} {ih : rG} {rest : rCode} {ls st : List Nat} {h : rH} {NB nc ns : Nat} {env : rE} (nx : rNx Wf D tc z0 ξ ζ H0 nL pc' ih rest)
    (hcat : rcats st ≤ 16) (hk : oMxn (fun a b env t e => rlt b a env e t) ih rest ls st h NB nc ns env = true)
    (row : ∀ H locs LS (st : List Value) x y, LS.size = nL → (st.map fun v => v.category).sum ≤ 16 → Wf H locs nc ns pc' LS (.int (if y < x then y else x) :: st) → Wf H locs nc ns pc LS (.int y :: .int x :: st)) : rGo Wf D tc z0 ξ ζ H0 nL pc ls st h NB nc ns env := by
  obtain ⟨b, st1, rfl, h1⟩ := pop1_spec hk
  obtain ⟨a, st', rfl, h2⟩ := pop1_spec h1
  intro σ ρ H locs LS I
  obtain ⟨hb, ha, ht⟩ := rlt_spec h2 I.2.2.2.1
  have hc := rcats_map (σ := σ) (ρ := ρ) hcat
  simp only [List.map_cons, List.sum_cons] at hc
  show Wf _ _ _ _ _ _ (rval ρ σ b :: rval ρ σ a :: st'.map (rval ρ σ))
  rw [rval_I ha, rval_I hb]
  refine row _ _ _ _ _ _ I.2.1.1 (by omega) ?_
  rcases ht with ⟨q, env', he, g⟩ | ⟨q, env', he, g⟩
  · have w := nx _ _ _ _ _ _ _ g ρ H locs LS ⟨I.1, I.2.1, mem2 I.2.2.1 (I.2.2.1 b List.mem_cons_self), he, I.2.2.2.2⟩
    rw [List.map_cons, rval_I hb] at w
    rw [if_pos q]
    exact w
  · have w := nx _ _ _ _ _ _ _ g ρ H locs LS ⟨I.1, I.2.1, mem2 I.2.2.1 (I.2.2.1 a (List.mem_cons_of_mem _ List.mem_cons_self)), he, I.2.2.2.2⟩
    rw [List.map_cons, rval_I ha] at w
    rw [if_neg q]
    exact w
theorem o_unX {Wf : rWf} {H0 : Heap} {ξ : rX} {pc' : Nat} {ih : rG} {rest : rCode} {ls st : List Nat} {h : rH} {NB nc ns : Nat} {env : rE} {f : Nat → Nat} {F : Int32 → Int32} (hf : ∀ a, a < 4294967296 → f a < 4294967296 ∧ Int32.ofNat (f a) = F (Int32.ofNat a)) (nx : rNx Wf D tc z0 ξ ζ H0 nL pc' ih rest)
    (hcat : rcats st ≤ 16) (hk : oUn f ih rest ls st h NB nc ns env = true)
    (row : ∀ H locs LS (st : List Value) x, LS.size = nL → (st.map fun v => v.category).sum ≤ 16 → Wf H locs nc ns pc' LS (.int (F x) :: st) → Wf H locs nc ns pc LS (.int x :: st)) : rGo Wf D tc z0 ξ ζ H0 nL pc ls st h NB nc ns env := by
  obtain ⟨a, st', rfl, h1⟩ := pop1_spec hk
  intro σ ρ H locs LS I
  obtain ⟨ha, v, env', lv, ea, he, h2⟩ := rconc_spec h1 I.2.2.2.1
  obtain ⟨f1, f2⟩ := hf v lv
  have g := nx _ _ _ _ _ _ _ h2 ρ H locs LS ⟨I.1, I.2.1, mem1 I.2.2.1 (rwf_lt f1), he, I.2.2.2.2⟩
  have hc := rcats_map (σ := σ) (ρ := ρ) hcat
  simp only [List.map_cons, List.sum_cons] at hc
  show Wf _ _ _ _ _ _ (rval ρ σ a :: st'.map (rval ρ σ))
  rw [rval_I ha, ea]
  refine row _ _ _ _ _ I.2.1.1 (by omega) ?_
  rw [← f2, ← rval_lit (ρ := ρ) f1]
  exact g
theorem f_max0 {a b u v x : Nat} (hu : sb (Int32.ofNat a) = u) (hv : sb (Int32.ofNat b) = v) (hx : rpick (Nat.ble u v) b a = x) : (x = a ∨ x = b) ∧ Int32.ofNat x = if Int32.ofNat a < Int32.ofNat b then Int32.ofNat b else Int32.ofNat a := by
  cases h : Nat.ble u v with
  | true =>
    rw [h] at hx
    have hx : b = x := hx
    subst hx
    have h1 := ble_le h
    refine ⟨Or.inr rfl, ?_⟩
    by_cases q : Int32.ofNat a < Int32.ofNat b
    · rw [if_pos q]
    · rw [if_neg q, sb_iff_eq]
      rw [sb_iff_lt] at q
      omega
  | false =>
    rw [h] at hx
    have hx : a = x := hx
    subst hx
    have h1 := ble_nle h
    refine ⟨Or.inl rfl, ?_⟩
    rw [if_neg]
    rw [sb_iff_lt]
    omega
theorem f_mn0 {a b u v x : Nat} (hu : sb (Int32.ofNat a) = u) (hv : sb (Int32.ofNat b) = v) (hx : rpick (Nat.ble u v) a b = x) : (x = a ∨ x = b) ∧ Int32.ofNat x = if Int32.ofNat b < Int32.ofNat a then Int32.ofNat b else Int32.ofNat a := by
  cases h : Nat.ble u v with
  | true =>
    rw [h] at hx
    have hx : a = x := hx
    subst hx
    have h1 := ble_le h
    refine ⟨Or.inl rfl, ?_⟩
    rw [if_neg]
    rw [sb_iff_lt]
    omega
  | false =>
    rw [h] at hx
    have hx : b = x := hx
    subst hx
    have h1 := ble_nle h
    refine ⟨Or.inr rfl, ?_⟩
    rw [if_pos]
    rw [sb_iff_lt]
    omega
theorem f_max {a b : Nat} (ha : a < 4294967296) (hb : b < 4294967296) : rmax2 a b < 4294967296 ∧ Int32.ofNat (rmax2 a b) = if Int32.ofNat a < Int32.ofNat b then Int32.ofNat b else Int32.ofNat a := by
  obtain ⟨x, hx⟩ : ∃ x, rmax2 a b = x := ⟨_, rfl⟩
  rw [hx]
  unfold rmax2 at hx
  obtain ⟨h1, h2⟩ := f_max0 (sb_of ha) (sb_of hb) hx
  exact ⟨h1.elim (fun q => by rw [q]; exact ha) (fun q => by rw [q]; exact hb), h2⟩
theorem f_mn {a b : Nat} (ha : a < 4294967296) (hb : b < 4294967296) : rmin2 a b < 4294967296 ∧ Int32.ofNat (rmin2 a b) = if Int32.ofNat b < Int32.ofNat a then Int32.ofNat b else Int32.ofNat a := by
  obtain ⟨x, hx⟩ : ∃ x, rmin2 a b = x := ⟨_, rfl⟩
  rw [hx]
  unfold rmin2 at hx
  obtain ⟨h1, h2⟩ := f_mn0 (sb_of ha) (sb_of hb) hx
  exact ⟨h1.elim (fun q => by rw [q]; exact ha) (fun q => by rw [q]; exact hb), h2⟩
end Ends

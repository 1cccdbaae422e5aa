/-! FRAMES OF OUR METHODS, CALLS TO ANY DEPTH -/
theorem vx_ofWF {l : Launch} {y : MethodName} {ws ws' : List Cond} {rm : Room} {Pc : Array Value → State → Prop} {Qc : Array Value → State → Outcome → State → Prop} {XC : String → State → State → Prop} {mc ms : Nat} {free : Addr → Prop} {cc : ByteArray} {maxL : Nat} {ret : Option FieldType}
    (hy : plainFor y = true) (hw : ws = Cond.code y cc maxL ret :: ws')
    (body : ∀ p e s m args below meth c s₁, BodyLoose p l y (headSpec ws rm) cc maxL ret e s m args below meth c s₁ → c.maxLocals = maxL → (∀ x ∈ c.exceptionTable.toList, False) → Pc args s →
      W p l e (headSpec ws rm).room s m args below meth c s.heap [] 0 0 (vx_MQ below Qc XC args s mc ms free) (entryFrame m args maxL)) : vx_Met l y ws rm Pc Qc XC mc ms free := by
  refine MetFree.of_bodySF (code := cc) (maxLocals := maxL) (ret := ret) hy ?_ ?_
  · intro args s m h hn
    obtain ⟨meth, c, h1, h2, h3, h4, h5, h6, -, -⟩ := Cond.code_spec hn (atoms_spec (ws := ws) h _ (by rw [hw]; exact List.mem_cons_self))
    exact ⟨meth, c, h1, h2, h3, h4, h5, h6⟩
  · intro p e s m args below meth c s₁ B hml hP _
    have hh0 : s₁.heap = s.heap := by rw [B.state]; rfl
    have ht : ∀ x ∈ c.exceptionTable.toList, False := by
      obtain ⟨meth9, c9, h1, h2, -, -, -, -, h7, -⟩ := Cond.code_spec B.named (atoms_spec (ws := ws) B.pre _ (by rw [hw]; exact List.mem_cons_self))
      cases Option.some.inj (h1.symm.trans B.method)
      cases Option.some.inj (h2.symm.trans (Stand.of_body B).code)
      intro x hx
      rw [Array.isEmpty_iff.mp h7] at hx
      cases hx
    obtain ⟨t, a1, o, b1, b2, b3⟩ := body p e s m args below meth c s₁ B hml ht hP s₁ hh0 (Stand.of_body B)
    exact ⟨t, o, a1, b1, b2, b3⟩
section Deep
variable (l : Launch) (D : va_G) (tc : Nat → ClassId) (z0 : Nat → Prop) (ξ0 : Nat → Nat) (ζ : rZ)
/-- what a world has to say, with our lists -/
def rCX : State → Prop := rCx D tc z0 ξ0 rSS rSR rSI rNC rxn
/-- a frame of our method a -/
def rFF (a : Nat) (p : Program) (e : Env) (s : State) (m : MethodId) (args : Array Value) (below : List Frame) (meth : Method) (c : Code) (ρ0 : Nat → Nat) : Prop :=
  p.tables.exec = Jvm.exec ∧ c.code = (mSt a).2.1 ∧ meth.sig.returnType = (mSt a).2.2.2.1 ∧ meth.locks = false ∧ c.maxLocals = (mSt a).2.2.1 ∧ s.vm.findClass (mSt a).1.cls = some m.cls ∧ meth.name = (mSt a).1.name ∧ (∀ w ∈ rHd (mSt a) :: gT, w.before args s = true) ∧
  (∃ s₁, BodyLoose p l (mSt a).1 (headSpec (rHd (mSt a) :: gT) (rRm rMt rPP a)) (mSt a).2.1 (mSt a).2.2.1 (mSt a).2.2.2.1 e s m args below meth c s₁) ∧ ((mSt a).2.2.2.2 = [] → ∀ x ∈ c.exceptionTable.toList, False) ∧ rCX D tc z0 ξ0 s ∧ ∀ a, a < 64 → ρ0 a = ξ0 a
/-- from here on in a frame of the method a -/
def rGF (a : Nat) (k : rK) (NB0 : Nat) (p : Program) (e : Env) (s : State) (m : MethodId) (args : Array Value) (below : List Frame) (meth : Method) (c : Code) (ρ0 : Nat → Nat) (pc : Nat) (ls st : List Nat) (h : rH) (NB nc ns : Nat) (env : rE) : Prop :=
  rGo (rW p l e (rRm rMt rPP a) s m args below meth c (rQ below D tc z0 ζ rxn ρ0 NB0 k args s (mcel rMt a) (mslo rMt a))) D tc z0 (NB0, ρ0) ζ s.heap (mSt a).2.2.1 pc ls st h NB nc ns env
/-- every call is good -/
def rCG (P : (Nat → Int32) → Prop) (cf : rCF) : Prop := rCFok l D tc z0 ξ0 rMt mSt (rRm rMt rPP) (rCX D tc z0 ξ0) rxn P cf
/-- a call is good -/
def rOG (a : Nat) (as : List Nat) (h : rH) (NB : Nat) (env : rE) (k : rK) : Prop := rOK l D tc z0 ξ0 ζ rMt mSt (rRm rMt rPP) (rCX D tc z0 ξ0) rxn a as h NB env k
end Deep
section Deep2
variable {l : Launch} {D : va_G} {tc : Nat → ClassId} {z0 : Nat → Prop} {ξ0 : Nat → Nat} {ζ : rZ} {σ : Nat → Int32}
variable {a : Nat} {k : rK} {NB0 : Nat} {p : Program} {e : Env} {s : State} {m : MethodId} {args : Array Value} {below : List Frame} {meth : Method} {c : Code} {ρ0 : Nat → Nat} {kb : rB} {cf : rCF}
theorem rmB_parts (h : rmB a = true) : plainFor (mSt a).1 = true ∧ ((mSt a).2.2.2.2 = [] ∨ plainName (mSt a).1.cls = true) ∧ mloc rMt a = (mSt a).2.2.1 ∧ ((∀ el ∈ mcode rMt a, rDec (mSt a).2.1 el) ∧ rchain (mcode rMt a) ∧ ∀ el t, mcode rMt a = el :: t → el.2.1 = 0) ∧
    (∀ el ∈ mcode rMt a, rSwi (mSt a).2.1 el) ∧ (mcode rMt a).all (rdE wW mSt rPP rKT rMt rNM rSS rSR rSI rNC rxn rHT rXN a) = true := by
  unfold rmB at h
  simp only [Bool.and_eq_true, Bool.or_eq_true] at h
  obtain ⟨h1, h2, h3, h4, h5, h6⟩ := h
  refine ⟨h1, ?_, beq_eq h3, rwalk_dec h4, fun el hel => rSwB_ok (List.all_eq_true.mp h5 el hel), h6⟩
  rcases h2 with h2 | h2
  · exact Or.inl (List.isEmpty_iff.mp h2)
  · exact Or.inr h2
/-- elements, where a frame of ours stands -/
theorem rFF_el (hl : l.stackTraces = false) (hy : rSy ζ.2) (hsh : rSh ζ.2) (hcf : rCG l D tc z0 ξ0 ζ.1.2 cf) (hB : rmB a = true) (F : rFF l D tc z0 ξ0 a p e s m args below meth c ρ0)
    (hkb : ∀ pc ls st h NB nc ns env, kb pc ls st h NB nc ns env = true → rGF l D tc z0 ζ a k NB0 p e s m args below meth c ρ0 pc ls st h NB nc ns env) :
    ∀ el ∈ mcode rMt a, rEO p l e (rRm rMt rPP a) s m args below meth c (rQ below D tc z0 ζ rxn ρ0 NB0 k args s (mcel rMt a) (mslo rMt a)) D tc z0 (NB0, ρ0) ζ (mSt a).2.2.1 cf rMt rBL a kb k (rilen el) el := by
  obtain ⟨-, -, hml, ⟨hdc, -, -⟩, hsw, hel⟩ := rmB_parts hB
  obtain ⟨hexec, hcode, hret, hlk, hmL, hcls, hname, hws, hBd, hno, hCx, hρ⟩ := F
  have hF : rFr p s m args c (mSt a).2.1 (mSt a).1.cls D tc := ⟨hexec, hcode, hcls, fun w hw => hws w (List.mem_cons_of_mem _ hw), hCx.1, hCx.2.1, hCx.2.2.1, hCx.2.2.2.1⟩
  have htab : c.exceptionTable.toList = tableOf (mSt a).2.2.2.2 := by
    cases ht : (mSt a).2.2.2.2 with
    | nil =>
      cases hx : c.exceptionTable.toList with
      | nil => rfl
      | cons x t => exact absurd (hno ht x (by rw [hx]; exact List.mem_cons_self)) id
    | cons h0 t =>
      obtain ⟨s₁, B⟩ := hBd
      have hw := hws _ List.mem_cons_self
      unfold rHd at hw
      rw [ht] at hw
      exact vx_table (x := (mSt a).1) B hw
  have X : rFX p (rRm rMt rPP a) s m args c (mSt a).2.1 (mSt a).1.cls D tc z0 (NB0, ρ0) ζ (mSt a).2.2.1 rMt rBL a wW mSt rPP rKT rNM rSS rSR rSI rNC rxn ξ0 (mSt a).2.2.2.2 :=
    ⟨hF, hmL, hml, Nat.le_refl _, Nat.le_refl _, hCx, hρ, hy, hsh, htab, rTB⟩
  intro el hm
  obtain ⟨i, pc, x, b, tb⟩ := el
  have h := List.all_eq_true.mp hel _ hm
  unfold rdE at h
  cases hdd : rdead (i, pc, x, b, tb) with
  | true => exact eo_dead hdd
  | false =>
    rw [hdd, Bool.false_or, Bool.or_eq_true] at h
    rcases h with h | h
    · exact rdA_ok X hcf hkb hname (hdc _ hm) (hsw _ hm) h
    · exact rdB_ok X rXT_ok hl hlk hret (hdc _ hm) hdd h
/-- a run in a frame of ours, from any place of its list -/
theorem rFF_run (hl : l.stackTraces = false) (hy : rSy ζ.2) (hsh : rSh ζ.2) (hcf : rCG l D tc z0 ξ0 ζ.1.2 cf) (hB : rmB a = true) (F : rFF l D tc z0 ξ0 a p e s m args below meth c ρ0)
    (hkb : ∀ pc ls st h NB nc ns env, kb pc ls st h NB nc ns env = true → rGF l D tc z0 ζ a k NB0 p e s m args below meth c ρ0 pc ls st h NB nc ns env)
    {n pc : Nat} {L : rCode} (hL : L <:+ mcode rMt a) (hpc : ∀ el t, L = el :: t → el.2.1 = pc) {ls st : List Nat} {h : rH} {NB nc ns : Nat} {env : rE} (hk : rrun cf rMt rBL a kb k n L ls st h NB nc ns env = true) :
    rGF l D tc z0 ζ a k NB0 p e s m args below meth c ρ0 pc ls st h NB nc ns env :=
  rrun_sound (rFF_el hl hy hsh hcf hB F hkb) (rmB_parts hB).2.2.2.1.2.1 n L pc hL hpc ls st h NB nc ns env hk
/-- a call is good if every frame of it is -/
theorem rOG_of (h1 : plainFor (mSt a).1 = true) (h2 : (mSt a).2.2.2.2 = [] ∨ plainName (mSt a).1.cls = true) {as : List Nat} (hlen : as.length ≤ (mSt a).2.2.1) {h : rH} {NB : Nat} {env : rE}
    (hgo : rEN ζ ζ.2 env → ∀ p e s m args below meth c ρ0, rFF l D tc z0 ξ0 a p e s m args below meth c ρ0 → rGF l D tc z0 ζ a k NB p e s m args below meth c ρ0 0 as [] h NB 0 0 env) : rOG l D tc z0 ξ0 ζ a as h NB env k := by
  intro ρ hE hcat
  have body : ∀ p e s m args below meth c s₁, BodyLoose p l (mSt a).1 (headSpec (rHd (mSt a) :: gT) (rRm rMt rPP a)) (mSt a).2.1 (mSt a).2.2.1 (mSt a).2.2.2.1 e s m args below meth c s₁ → c.maxLocals = (mSt a).2.2.1 → ((mSt a).2.2.2.2 = [] → ∀ x ∈ c.exceptionTable.toList, False) → rPc D tc z0 ξ0 ζ (rCX D tc z0 ξ0) ρ as h NB args s →
      W p l e (rRm rMt rPP a) s m args below meth c s.heap [] 0 0 (rQ below D tc z0 ζ rxn ρ NB k args s (mcel rMt a) (mslo rMt a)) (entryFrame m args (mSt a).2.2.1) := by
    intro p e s m args below meth c s₁ B hml hno hP
    obtain ⟨hP1, hP2, hP3, hP4, hP5⟩ := hP
    have hl := lg_sl_cat1 (ρ := ρ) (σ := ζ.2) as hcat
    have hE2 := lv_entry (as.map (rval ρ ζ.2)) (n := (mSt a).2.2.1) (by rw [hl]; exact hlen)
    have g := hgo hE p e s m args below meth c ρ ⟨B.exec, B.bytes, B.returns, B.notSynchronized, hml, findClass_of_methodNamed B.named, (name_of_methodNamed B.named B.method).1, atoms_spec (ws := rHd (mSt a) :: gT) B.pre, ⟨s₁, B⟩, hno, hP2, hP3⟩ ρ s.heap [] ((lg_sl (as.map (rval ρ ζ.2)) ++ List.replicate ((mSt a).2.2.1 - (lg_sl (as.map (rval ρ ζ.2))).length) Slot.unset).toArray)
      ⟨hP4, rLR.of hE2 fun i hi => ?_, fun x hx => (by cases hx), hE, Nat.le_refl _, fun _ _ _ => rfl, fun z hz => (by cases hz)⟩
    · subst hP1
      rw [lg_entry_eq]
      exact g
    · obtain ⟨q1, q2⟩ := lv_args_cat1 (ρ := ρ) (σ := ζ.2) as 0 i hcat hi
      rw [Nat.zero_add] at q1
      exact ⟨q1, hP5 _ q2⟩
  by_cases ht : (mSt a).2.2.2.2 = []
  · exact vx_ofWF (cc := (mSt a).2.1) (maxL := (mSt a).2.2.1) (ret := (mSt a).2.2.2.1) (ws' := gT) h1 (by unfold rHd; rw [ht]) fun p e s m args below meth c s₁ B hml hno hP => body p e s m args below meth c s₁ B hml (fun _ => hno) hP
  · obtain ⟨h0, hh, hx⟩ : ∃ h0 hh, (mSt a).2.2.2.2 = h0 :: hh := List.exists_cons_of_ne_nil ht
    refine vx_ofWH (cc := (mSt a).2.1) (maxL := (mSt a).2.2.1) (ret := (mSt a).2.2.2.1) (hh := h0 :: hh) (ws' := gT) (h2.resolve_left ht) (by unfold rHd; rw [hx]) fun p e s m args below meth c s₁ B hml hP => body p e s m args below meth c s₁ B hml (fun q => absurd q ht) hP
/-- calls of our methods to the depth d, those of ov by what is known of them -/
theorem rdeep {P : (Nat → Int32) → Prop} (hl : l.stackTraces = false) {ov : Nat → Bool} {fo : rCF} (hov : ∀ a, ov a = false → mcode rMt a ≠ [] → rmB a = true)
    (hof : ∀ a, ov a = true → ∀ as h NB env k, fo a as h NB env k = true → ∀ ζ : rZ, ζ.1.2 = P → rOG l D tc z0 ξ0 ζ a as h NB env k) : ∀ d, rCG l D tc z0 ξ0 P (rcall rMt rBL ov fo d) := by
  intro d
  induction d with
  | zero => intro a as h NB env k hk; cases hk
  | succ d ih =>
    intro a as h NB env k hk ζ hP
    rcases rc_or hk with ⟨h1, h2⟩ | ⟨h1, h2⟩
    · exact hof a h1 _ _ _ _ _ h2 ζ hP
    obtain ⟨h3, h4⟩ := rc_and h2
    have hne : mcode rMt a ≠ [] := fun e => by rw [e] at h4; cases h4
    have hB := hov a h1 hne
    obtain ⟨q1, q2, q3, ⟨-, -, q4⟩, -, -⟩ := rmB_parts hB
    refine rOG_of q1 q2 ?_ fun hE p e s m args below meth c ρ0 F => rFF_run hl hE.sy hE.sh (by rw [hP]; exact ih) hB F (kb := fun _ _ _ _ _ _ _ _ => false) (fun _ _ _ _ _ _ _ _ q => by cases q) (List.suffix_refl _) q4 h4
    have := ble_le h3
    rw [rcnt_eq, q3] at this
    exact this
end Deep2

/-! SOUND: calls to any depth -/
theorem rcnt_eq : ∀ l : List Nat, rcnt l = l.length := by
  intro l
  induction l with
  | nil => rfl
  | cons x t ih => show Nat.succ (rcnt t) = _; rw [ih]; rfl
theorem lg_sl_cat1 {ρ : Nat → Nat} {σ : Nat → Int32} : ∀ as : List Nat, (∀ x ∈ as, x < 18446744073709551616) → (lg_sl (as.map (rval ρ σ))).length = as.length := by
  intro as
  induction as with
  | nil => intro _; rfl
  | cons x t ih =>
    intro h
    have h1 := rval_cat1 (ρ := ρ) (σ := σ) (h x List.mem_cons_self)
    have h2 := ih fun y hy => h y (List.mem_cons_of_mem _ hy)
    simp only [lg_sl, List.map_cons, List.flatMap_cons, h1] at h2 ⊢
    simp [h2]
theorem lv_args_cat1 {ρ : Nat → Nat} {σ : Nat → Int32} : ∀ (as : List Nat) (o i : Nat), (∀ x ∈ as, x < 18446744073709551616) → lget as i < 73786976294838206464 → (o + i, rval ρ σ (lget as i)) ∈ lv_args o (as.map (rval ρ σ)) ∧ lget as i ∈ as := by
  intro as
  induction as with
  | nil => intro o i _ h; rw [lget_nil] at h; exact absurd h (Nat.lt_irrefl _)
  | cons x t ih =>
    intro o i hx h
    have h1 := rval_cat1 (ρ := ρ) (σ := σ) (hx x List.mem_cons_self)
    have e : lv_args o ((x :: t).map (rval ρ σ)) = (o, rval ρ σ x) :: lv_args (o + 1) (t.map (rval ρ σ)) := by
      simp [lv_args, h1]
    rw [e]
    cases i with
    | zero => exact ⟨List.mem_cons_self, List.mem_cons_self⟩
    | succ i =>
      rw [lget_s] at h ⊢
      obtain ⟨a, b⟩ := ih (o + 1) i (fun y hy => hx y (List.mem_cons_of_mem _ hy)) h
      refine ⟨List.mem_cons_of_mem _ ?_, List.mem_cons_of_mem _ b⟩
      rw [show o + (i + 1) = o + 1 + i by omega]
      exact a
section Depth
variable (l : Launch) (D : va_G) (tc : Nat → ClassId) (z0 : Nat) (ξ0 : Nat → Nat) (σ : Nat → Int32) (M : rM) (mS : Nat → rMS) (rm : Nat → Room) (Cx : State → Prop) (xn : Nat → String) (BL : Nat → Nat)
def kbF : rB := fun _ _ _ _ _ _ _ _ => false
/-- every element of a method is well, where its frame stands -/
def rMOK (cf : rCF) (a : Nat) : Prop := ∀ (p : Program) (e : Env) (s : State) (m : MethodId) (args : Array Value) (below : List Frame) (meth : Method) (c : Code) (ρ0 : Nat → Nat) (NB0 : Nat) (k : rK), p.tables.exec = Jvm.exec → c.code = (mS a).2.1 → meth.sig.returnType = (mS a).2.2.2.1 → meth.locks = false → c.maxLocals = (mS a).2.2.1 →
  s.vm.findClass (mS a).1.cls = some m.cls → meth.name = (mS a).1.name → (∀ w ∈ rHd (mS a) :: gT, w.before args s = true) → (∃ s₁, BodyLoose p l (mS a).1 (headSpec (rHd (mS a) :: gT) (rm a)) (mS a).2.1 (mS a).2.2.1 (mS a).2.2.2.1 e s m args below meth c s₁) → ((mS a).2.2.2.2 = [] → ∀ x ∈ c.exceptionTable.toList, False) → Cx s → (∀ a, a < 64 → ρ0 a = ξ0 a) →
  ∀ el ∈ mcode M a, rEO p l e (rm a) s m args below meth c (rQ below D tc z0 σ xn ρ0 NB0 k args s (mcel M a) (mslo M a)) D tc z0 (NB0, ρ0) σ (mS a).2.2.1 cf M BL a kbF k (rilen el) el
end Depth
section Depth2
variable {l : Launch} {D : va_G} {tc : Nat → ClassId} {z0 : Nat} {ξ0 : Nat → Nat} {σ : Nat → Int32} {M : rM} {mS : Nat → rMS} {rm : Nat → Room} {Cx : State → Prop} {xn : Nat → String} {BL : Nat → Nat}
theorem rbody {p : Program} {e : Env} {R : Room} {s : State} {m : MethodId} {args : Array Value} {below : List Frame} {meth : Method} {c : Code} {a NB0 nL : Nat} {ρ0 : Nat → Nat} {cf : rCF} {k : rK} {as : List Nat} {h : rH} {env : rE}
    (hall : ∀ el ∈ mcode M a, rEO p l e R s m args below meth c (rQ below D tc z0 σ xn ρ0 NB0 k args s (mcel M a) (mslo M a)) D tc z0 (NB0, ρ0) σ nL cf M BL a kbF k (rilen el) el) (hch : rchain (mcode M a)) (hpc : ∀ el t, mcode M a = el :: t → el.2.1 = 0)
    (hE : rEN σ env) (hcat : ∀ x ∈ as, x < 18446744073709551616) (hlen : as.length ≤ nL) (hargs : args = (as.map (rval ρ0 σ)).toArray) (hH : rHR D tc z0 (NB0, ρ0) ρ0 σ h NB0 s.heap) (hw : ∀ x ∈ as, rwf NB0 x)
    (hk : rrun cf M BL a kbF k 100000 (mcode M a) as [] h NB0 0 0 env = true) :
    W p l e R s m args below meth c s.heap [] 0 0 (rQ below D tc z0 σ xn ρ0 NB0 k args s (mcel M a) (mslo M a)) (entryFrame m args nL) := by
  have hl := lg_sl_cat1 (ρ := ρ0) (σ := σ) as hcat
  have hE2 := lv_entry (as.map (rval ρ0 σ)) (n := nL) (by rw [hl]; exact hlen)
  have g := rrun_sound hall hch 100000 (mcode M a) 0 (List.suffix_refl _) hpc as [] h NB0 0 0 env hk ρ0 s.heap [] ((lg_sl (as.map (rval ρ0 σ)) ++ List.replicate (nL - (lg_sl (as.map (rval ρ0 σ))).length) Slot.unset).toArray)
    ⟨hH, rLR.of hE2 fun i hi => ?_, fun x hx => (by cases hx), hE, Nat.le_refl _, fun _ _ _ => rfl, fun z hz => (by cases hz)⟩
  · subst hargs
    rw [lg_entry_eq]
    exact g
  · obtain ⟨q1, q2⟩ := lv_args_cat1 (ρ := ρ0) (σ := σ) as 0 i hcat hi
    rw [Nat.zero_add] at q1
    exact ⟨q1, hw _ q2⟩
theorem rcall_sound {ov : Nat → Bool} {fo : rCF} (hpl : ∀ a, ov a = false → mcode M a ≠ [] → plainName (mS a).1.cls = true ∧ rchain (mcode M a) ∧ (∀ el t, mcode M a = el :: t → el.2.1 = 0) ∧ mloc M a = (mS a).2.2.1)
    (hM : ∀ cf a, ov a = false → mcode M a ≠ [] → rCFok l D tc z0 ξ0 σ M mS rm Cx xn cf → rMOK l D tc z0 ξ0 σ M mS rm Cx xn BL cf a) (hof : ∀ a, ov a = true → ∀ as h NB env k, fo a as h NB env k = true → rOK l D tc z0 ξ0 σ M mS rm Cx xn a as h NB env k) :
    ∀ d, rCFok l D tc z0 ξ0 σ M mS rm Cx xn (rcall M BL ov fo d) := by
  intro d
  induction d with
  | zero => intro a as h NB env k hk; cases hk
  | succ d ih =>
    intro a as h NB env k hk
    rcases rc_or hk with ⟨h1, h2⟩ | ⟨h1, h2⟩
    · exact hof a h1 _ _ _ _ _ h2
    obtain ⟨h3, h4⟩ := rc_and h2
    have hne : mcode M a ≠ [] := fun e => by rw [e] at h4; cases h4
    obtain ⟨q1, q2, q3, q4⟩ := hpl a h1 hne
    intro ρ hE hcat
    have hlen : as.length ≤ (mS a).2.2.1 := by
      have := ble_le h3
      rw [rcnt_eq, q4] at this
      exact this
    by_cases ht : (mS a).2.2.2.2 = []
    · refine vx_ofW (cc := (mS a).2.1) (maxL := (mS a).2.2.1) (ret := (mS a).2.2.2.1) (ws' := gT) q1 (by unfold rHd; rw [ht]) fun p e s m args below meth c s₁ B hml hno hP => ?_
      obtain ⟨hP1, hP2, hP3, hP4, hP5⟩ := hP
      exact rbody (hM _ a h1 hne ih p e s m args below meth c ρ NB k B.exec B.bytes B.returns B.notSynchronized hml (findClass_of_methodNamed B.named) (name_of_methodNamed B.named B.method).1 (atoms_spec (ws := rHd (mS a) :: gT) B.pre) ⟨s₁, B⟩ (fun _ => hno) hP2 hP3) q2 q3 hE hcat hlen hP1 hP4 hP5 h4
    · obtain ⟨h0, hh, hx⟩ : ∃ h0 hh, (mS a).2.2.2.2 = h0 :: hh := List.exists_cons_of_ne_nil ht
      refine vx_ofWH (cc := (mS a).2.1) (maxL := (mS a).2.2.1) (ret := (mS a).2.2.2.1) (hh := h0 :: hh) (ws' := gT) q1 (by unfold rHd; rw [hx]) fun p e s m args below meth c s₁ B hml hP => ?_
      obtain ⟨hP1, hP2, hP3, hP4, hP5⟩ := hP
      exact rbody (hM _ a h1 hne ih p e s m args below meth c ρ NB k B.exec B.bytes B.returns B.notSynchronized hml (findClass_of_methodNamed B.named) (name_of_methodNamed B.named B.method).1 (atoms_spec (ws := rHd (mS a) :: gT) B.pre) ⟨s₁, B⟩ (fun q => absurd q ht) hP2 hP3) q2 q3 hE hcat hlen hP1 hP4 hP5 h4
end Depth2

/-! LOOPS IN CHUNKS: marks at a loop's head -/
theorem rLt_suf (a pc : Nat) : rLt a pc <:+ mcode rMt a := by
  have h := (rdrop_suf pc (mcode rMt a)).1
  unfold rLt
  cases hd : rdrop pc (mcode rMt a) with
  | nil => exact List.nil_suffix
  | cons x t =>
    rw [hd] at h
    exact (List.suffix_cons x t).trans h
theorem rHp_ok {L : rCode} {pc : Nat} (h : rHp L pc = true) : ∀ el t, L = el :: t → el.2.1 = pc := fun el t e => by
  subst e
  exact beq_eq h
section Loop
/-- a state of a frame of the method a from which all is well, whatever the frame -/
def rSta (a : Nat) (k : rK) (NB0 : Nat) (pc : Nat) (ls : List Nat) (h : rH) (NB nc ns : Nat) (env : rE) : Prop :=
  ∀ (l : Launch) (D : va_G) (tc : Nat → ClassId) (z0 : Nat) (ξ0 : Nat → Nat) (σ : Nat → Int32) (p : Program) (e : Env) (s : State) (m : MethodId) (args : Array Value) (below : List Frame) (meth : Method) (c : Code) (ρ0 : Nat → Nat),
    l.stackTraces = false → rSy σ → rSh σ → rFF l D tc z0 ξ0 a p e s m args below meth c ρ0 → rGF l D tc z0 σ a k NB0 p e s m args below meth c ρ0 pc ls [] h NB nc ns env
section LoopS
variable {l : Launch} {D : va_G} {tc : Nat → ClassId} {z0 : Nat} {ξ0 : Nat → Nat} {σ : Nat → Int32} {p : Program} {e : Env} {s : State} {m : MethodId} {args : Array Value} {below : List Frame} {meth : Method} {c : Code} {ρ0 : Nat → Nat}
variable {a NB0 pc0 : Nat} {k kV : rK} {kend : rB} {cf : rCF}
theorem rlp_ok (hl : l.stackTraces = false) (hy : rSy σ) (hsh : rSh σ) (hcf : rCG l D tc z0 ξ0 σ cf) (hB : rmB a = true) (F : rFF l D tc z0 ξ0 a p e s m args below meth c ρ0)
    (hend : ∀ pc ls st h NB nc ns env, kend pc ls st h NB nc ns env = true → rGF l D tc z0 σ a k NB0 p e s m args below meth c ρ0 pc ls st h NB nc ns env) (hp : rHp (rLt a pc0) pc0 = true) :
    ∀ n pc ls st h NB nc ns env, rlp cf a pc0 (rLt a pc0) k kend n pc ls st h NB nc ns env = true → rGF l D tc z0 σ a k NB0 p e s m args below meth c ρ0 pc ls st h NB nc ns env := by
  intro n
  induction n with
  | zero => exact hend
  | succ n ih =>
    intro pc ls st h NB nc ns env hk
    obtain ⟨h1, h2⟩ := rc_and (show rc (Nat.beq pc pc0) (rrun cf rMt rBL a (rlp cf a pc0 (rLt a pc0) k kend n) k (nat_lit 100000) (rLt a pc0) ls st h NB nc ns env) false = true from hk)
    rw [beq_eq h1]
    exact rFF_run hl hy hsh hcf hB F ih (rLt_suf a pc0) (rHp_ok hp) h2
/-- a chunk of a loop -/
theorem rSt_run {n : Nat} {ls : List Nat} {h : rH} {NB nc ns : Nat} {env : rE} (hB : rmB a = true) (hp : rHp (rLt a pc0) pc0 = true) (hend : ∀ pc ls st h NB nc ns env, kend pc ls st h NB nc ns env = true → st = [] ∧ rSta a k NB0 pc ls h NB nc ns env)
    (run : rrun rCfP rMt rBL a (rlp rCfP a pc0 (rLt a pc0) k kend n) k (nat_lit 100000) (rLt a pc0) ls [] h NB nc ns env = true) : rSta a k NB0 pc0 ls h NB nc ns env := by
  intro l D tc z0 ξ0 σ p e s m args below meth c ρ0 hl hy hsh F
  refine rFF_run hl hy hsh (rCGP hl hy hsh) hB F (rlp_ok hl hy hsh (rCGP hl hy hsh) hB F (fun pc ls st h NB nc ns env hk => ?_) hp n) (rLt_suf a pc0) (rHp_ok hp) run
  obtain ⟨e1, e2⟩ := hend _ _ _ _ _ _ _ _ hk
  subst e1
  exact e2 l D tc z0 ξ0 σ p e s m args below meth c ρ0 hl hy hsh F
/-- the entry of a method, up to its loop's first mark -/
theorem rSt_entry {as : List Nat} {h : rH} {NB : Nat} {env : rE} (hB : rmB a = true) (hend : ∀ pc ls st h NB nc ns env, kend pc ls st h NB nc ns env = true → st = [] ∧ rSta a k NB0 pc ls h NB nc ns env)
    (run : rrun rCfP rMt rBL a kend k (nat_lit 100000) (mcode rMt a) as [] h NB 0 0 env = true) : rSta a k NB0 0 as h NB 0 0 env := by
  intro l D tc z0 ξ0 σ p e s m args below meth c ρ0 hl hy hsh F
  refine rFF_run hl hy hsh (rCGP hl hy hsh) hB F (fun pc ls st h NB nc ns env hk => ?_) (List.suffix_refl _) (rmB_parts hB).2.2.2.1.2.2 run
  obtain ⟨e1, e2⟩ := hend _ _ _ _ _ _ _ _ hk
  subst e1
  exact e2 l D tc z0 ξ0 σ p e s m args below meth c ρ0 hl hy hsh F
theorem rAt_end {pc0 : Nat} {ls0 : List Nat} {h0 : rH} {NB1 nc0 ns0 : Nat} {env0 : rE} (next : rSta a k NB0 pc0 ls0 h0 NB1 nc0 ns0 env0) : ∀ pc ls st h NB nc ns env, rAt pc0 ls0 [] h0 NB1 nc0 ns0 env0 pc ls st h NB nc ns env = true → st = [] ∧ rSta a k NB0 pc ls h NB nc ns env := by
  intro pc ls st h NB nc ns env hk
  obtain ⟨h1, h2, h3, h4, h5, h6, h7, h8⟩ := rAt_ok hk
  subst h1 h2 h3 h4 h5 h6 h7 h8
  exact ⟨rfl, next⟩
theorem rkF_end : ∀ pc ls st h NB nc ns env, rkF pc ls st h NB nc ns env = true → st = [] ∧ rSta a k NB0 pc ls h NB nc ns env := fun _ _ _ _ _ _ _ _ hk => by cases hk
theorem rls_ok {NB0 : Nat} : ∀ ls : List Nat, rls NB0 ls = true → ∀ i, lget ls i < 73786976294838206464 → rwf NB0 (lget ls i) := by
  intro ls
  induction ls with
  | nil => intro _ i hi; rw [lget_nil] at hi; exact absurd hi (Nat.lt_irrefl _)
  | cons x t ih =>
    intro h i hi
    obtain ⟨h1, h2⟩ := rc_and (show rc (rc (rc (Nat.ble x (nat_lit 4294967295)) true (Nat.ble (nat_lit 8589934592) x)) true (Nat.ble (Nat.succ x) NB0)) (rls NB0 t) false = true from h)
    cases i with
    | zero =>
      show rwf NB0 x
      rcases rc_or h1 with ⟨g, -⟩ | ⟨-, g⟩
      · rcases rc_or g with ⟨q, -⟩ | ⟨-, q⟩
        · exact rwf_lt (Nat.lt_of_le_of_lt (ble_le q) (by decide))
        · exact rwf_ge (ble_le q)
      · exact fun _ _ => ble_le g
    | succ i => exact ih h2 i hi
theorem rRn_end {mp : List (Nat × Nat)} {ls0 : List Nat} {h0 : rH} {NB1 nc0 ns0 : Nat} {env0 : rE} (hw : rtwB h0 0 1024 = true) (next : rSta a k NB0 pc0 ls0 h0 NB1 nc0 ns0 env0) : ∀ pc ls st h NB nc ns env, rRn mp NB0 pc0 ls0 h0 NB1 nc0 ns0 env0 pc ls st h NB nc ns env = true → st = [] ∧ rSta a k NB0 pc ls h NB nc ns env := by
  intro pc ls st h NB nc ns env hk
  obtain ⟨h1, g⟩ := rc_and hk
  obtain ⟨h2, g⟩ := rc_and g
  obtain ⟨h3, g⟩ := rc_and g
  obtain ⟨h4, g⟩ := rc_and g
  obtain ⟨h5, g⟩ := rc_and g
  obtain ⟨h6, g⟩ := rc_and g
  obtain ⟨h7, gz⟩ := rc_and g
  clear g
  have h1 := beq_eq h1
  have h2 := reqL_ok _ _ h2
  have h3 := reqL_ok _ _ h3
  have h4 := beq_eq h4
  have h5 := beq_eq h5
  have h6 := reqE_ok _ _ h6
  subst h1 h2 h3 h4 h5 h6
  refine ⟨rfl, fun l D tc z0 ξ0 σ p e s m args below meth c ρ0 hl hy hsh F ρ H locs LS I => ?_⟩
  obtain ⟨i1, i2, -, i4, i5⟩ := I
  have b4 := (rc_and (rc_and (rc_and (rc_and gz).2).2).2).1
  have g0 : ∀ a, a + 4294967296 < NB0 → rgm mp a = a := fun a ha => rkeys_ok mp b4 a (show a < NB0 - 4294967296 by omega)
  have b2 : NB0 ≤ NB1 := ble_le (rc_and (rc_and gz).2).1
  have j1 := i1.ren (rtwB_ok _ _ _ hw) gz
  have j2 : rLR (fun a => ρ (rgm mp a)) σ NB1 (mSt a).2.2.1 ls LS := by
    refine ⟨i2.1, i2.2.1, fun i hi => ?_⟩
    have w := rls_ok _ h7 i hi
    refine ⟨?_, w.mono b2⟩
    rw [rval_congr (ρ' := fun a => ρ (rgm mp a)) (ρ := ρ) (NB := NB0) (fun a ha => by show ρ (rgm mp a) = ρ a; rw [g0 a ha]) w]
    exact (i2.2.2 i hi).1
  have j3 : ∀ x ∈ ([] : List Nat), rwf NB1 x := fun x hx => by cases hx
  have j9 := next l D tc z0 ξ0 σ p e s m args below meth c ρ0 hl hy hsh F (fun a => ρ (rgm mp a)) H locs LS
  have j10 : rInv D tc z0 (NB0, ρ0) σ s.heap (mSt a).2.2.1 (fun a => ρ (rgm mp a)) ls [] h0 NB1 env H locs LS := ⟨j1, j2, j3, i4, i5⟩
  have j11 := j9 j10
  rw [List.map_nil] at j11 ⊢
  exact j11
theorem rGF_mono (hq : ∀ args s o t, rQc D tc z0 σ ρ0 NB0 kV args s o t → rQc D tc z0 σ ρ0 NB0 k args s o t) (hx : ∀ E s t, rXc D tc z0 σ rxn ρ0 NB0 kV E s t → rXc D tc z0 σ rxn ρ0 NB0 k E s t)
    {pc : Nat} {ls st : List Nat} {h : rH} {NB nc ns : Nat} {env : rE} (g : rGF l D tc z0 σ a kV NB0 p e s m args below meth c ρ0 pc ls st h NB nc ns env) : rGF l D tc z0 σ a k NB0 p e s m args below meth c ρ0 pc ls st h NB nc ns env := by
  intro ρ H locs LS I T hT X
  obtain ⟨t, a1, o, b1, b2, b3⟩ := g ρ H locs LS I T hT X
  refine ⟨t, a1, o, b1, b2, ?_⟩
  rcases b3 with ⟨q1, q2⟩ | ⟨q, q1, E, ce, L, q2, q3⟩
  · exact Or.inl ⟨hq _ _ _ _ q1, q2⟩
  · exact Or.inr ⟨q, q1, E, ce, L, hx _ _ _ q2, q3⟩
end LoopS
end Loop

/-! FORGETTING AND RENAMING CELLS; LOOPS IN CHUNKS -/
theorem rAll_ok {p : Nat → Bool} : ∀ n, rAll n p = true → ∀ i, i < n → p i = true := by
  intro n
  induction n with
  | zero => intro _ i hi; exact absurd hi (Nat.not_lt_zero i)
  | succ n ih =>
    intro h i hi
    obtain ⟨h1, h2⟩ := rc_and (show rc (p n) (rAll n p) false = true from h)
    rcases Nat.lt_or_ge i n with g | g
    · exact ih h2 i g
    · rw [show i = n by omega]; exact h1
theorem rsub_ok : ∀ (t u : rH), rsub t u = true → ∀ i, rget t i = rget u i ∨ rget t i = 0 := by
  intro t
  induction t with
  | leaf x =>
    intro u h i
    cases u with
    | leaf y =>
      rcases rc_or (show rc (Nat.beq x 0) true (Nat.beq x y) = true from h) with ⟨a, -⟩ | ⟨-, a⟩
      · exact Or.inr (beq_eq a)
      · exact Or.inl (beq_eq a)
    | branch q l r => cases h
  | branch p l r il ir =>
    intro u h i
    cases u with
    | leaf y => cases h
    | branch q l2 r2 =>
      obtain ⟨h1, h2⟩ := rc_and (show rc (Nat.beq p q) (rc (rsub l l2) (rsub r r2) false) false = true from h)
      obtain ⟨h3, h4⟩ := rc_and h2
      have e := beq_eq h1
      subst e
      show rc (Nat.ble p i) (rget r i) (rget l i) = rc (Nat.ble p i) (rget r2 i) (rget l2 i) ∨ rc (Nat.ble p i) (rget r i) (rget l i) = 0
      cases Nat.ble p i with
      | true => exact ir _ h4 i
      | false => exact il _ h3 i
section Forget
variable {D : va_G} {tc : Nat → ClassId} {z0 : Nat} {ξ : rX} {ρ ρ' : Nat → Nat} {σ : Nat → Int32} {h h' : rH} {NB NB' : Nat} {H : Heap}
theorem rCR.vals {c c' q : Nat} (h : rCR D tc z0 ρ σ c q H) (hk : c' % 65536 = c % 65536) (hl : rlen c' = rlen c) (hv : ∀ j, j < rlen c → rval ρ' σ (rslot c' (rsh j)) = rval ρ σ (rslot c (rsh j))) : rCR D tc z0 ρ' σ c' q H := by
  have ef : rfl_ ρ' σ c' = rfl_ ρ σ c := by
    unfold rfl_
    rw [hl]
    exact List.map_congr_left (fun j hj => hv j (List.mem_range.mp hj))
  obtain ⟨h0, h1, h2, h3, h4⟩ := h
  refine ⟨h0, fun a b => ?_, fun a b => ?_, fun a b => ?_, fun a => ?_⟩
  · rw [hk] at a b ⊢
    rw [ef]
    exact h1 a b
  · rw [hk] at a b ⊢
    rw [hl, arrV_congr hv]
    exact h2 a b
  · rw [hk] at a b ⊢
    rw [ef]
    exact h3 a b
  · rw [hk] at a ⊢
    obtain ⟨x, y, cell, e1, e2, e3, e4, e5, e6⟩ := h4 a
    exact ⟨x, y, cell, e1, e2, e3, by rw [hl]; exact e4, by rw [hl]; exact e5, fun j hj => by rw [hl] at hj; rw [hv j hj]; exact e6 j hj⟩
theorem rCR.zero {q : Nat} (hq : q < H.size) : rCR D tc z0 ρ σ 0 q H := ⟨hq, fun a => absurd a (by decide), fun a => absurd a (by decide), fun a => absurd a (by decide), fun a => absurd a (by decide)⟩
theorem rlen_0 : rlen 0 = 0 := rfl
theorem rHR.forget (hh : rHR D tc z0 ξ ρ σ h NB H) (hw : rtw h' 0 1024) (hs : ∀ a, rget h' a = rget h a ∨ rget h' a = 0) : rHR D tc z0 ξ ρ σ h' NB H := by
  obtain ⟨a1, a2, a3, a4, a5, a6⟩ := hh
  refine ⟨hw, a2, a3, a4, fun a ha => ?_, fun a b ha hb ka kb e => ?_⟩
  · rcases hs a with q | q
    · rw [q]; exact a5 a ha
    · rw [q]; exact ⟨rCR.zero (a5 a ha).1.1, fun j hj => absurd hj (by rw [rlen_0]; exact Nat.not_lt_zero j)⟩
  · rcases hs a with q | q
    · rcases hs b with r | r
      · rw [q] at ka; rw [r] at kb; exact a6 a b ha hb ka kb e
      · rw [r] at kb; exact absurd rfl kb
    · rw [q] at ka; exact absurd rfl ka.1
/-- fewer cells -/
theorem rHR.cut (hh : rHR D tc z0 ξ ρ σ h NB H) (h1 : 4294967360 ≤ NB') (h2 : ξ.1 ≤ NB') (h3 : NB' ≤ NB) (hw : rwb NB' h (NB' - 4294967296) = true) : rHR D tc z0 ξ ρ σ h NB' H := by
  obtain ⟨a1, a2, a3, a4, a5, a6⟩ := hh
  refine ⟨a1, ⟨h1, a2.2.1, h2, a2.2.2.2⟩, by omega, a4, fun a ha => ⟨(a5 a (by omega)).1, fun j hj => ?_⟩, fun a b ha hb => a6 a b (by omega) (by omega)⟩
  have g := rAll_ok _ (rAll_ok _ hw a (by omega)) j hj
  rcases rc_or g with ⟨g, -⟩ | ⟨-, g⟩
  · rcases rc_or g with ⟨q, -⟩ | ⟨-, q⟩
    · exact rwf_lt (Nat.lt_of_le_of_lt (ble_le q) (by decide))
    · exact rwf_ge (ble_le q)
  · exact fun _ _ => ble_le g
theorem rkeys_ok {n : Nat} : ∀ (mp : List (Nat × Nat)), rkeys mp n = true → ∀ a, a < n → rgm mp a = a := by
  intro mp
  induction mp with
  | nil => intro _ a _; rfl
  | cons q t ih =>
    intro h a ha
    obtain ⟨h1, h2⟩ := rc_and (show rc (Nat.ble n q.1) (rkeys t n) false = true from h)
    have := ble_le h1
    have hb : Nat.beq q.1 a = false := by
      cases hb : Nat.beq q.1 a with
      | false => rfl
      | true => have := beq_eq hb; omega
    show rc (Nat.beq q.1 a) q.2 (rlook t a a) = a
    rw [hb]
    exact ih h2 a ha
/-- cells at new addresses -/
theorem rHR.ren {mp : List (Nat × Nat)} {NB0 : Nat} {ρ0 : Nat → Nat} (hh : rHR D tc z0 (NB0, ρ0) ρ σ h NB H) (hw : rtw h' 0 1024) (hb : rrenB mp NB0 NB' NB h' h = true) : rHR D tc z0 (NB0, ρ0) (fun a => ρ (rgm mp a)) σ h' NB' H := by
  obtain ⟨b1, hb⟩ := rc_and hb
  obtain ⟨b2, hb⟩ := rc_and hb
  obtain ⟨b3, hb⟩ := rc_and hb
  obtain ⟨b4, hb⟩ := rc_and hb
  obtain ⟨b5, b6⟩ := rc_and hb
  have b1 : 4294967360 ≤ NB0 := ble_le b1
  have b2 : NB0 ≤ NB' := ble_le b2
  have b3 : NB' ≤ NB := ble_le b3
  have g0 : ∀ a, a + 4294967296 < NB0 → rgm mp a = a := fun a ha => rkeys_ok mp b4 a (show a < NB0 - 4294967296 by omega)
  have g1 : ∀ a, a + 4294967296 < NB' → rrc mp NB' (rget h' a) (rget h (rgm mp a)) = true ∧ rgm mp a + 4294967296 < NB := fun a ha => by
    obtain ⟨q1, q2⟩ := rc_and (rAll_ok _ b5 a (show a < NB' - 4294967296 by omega))
    exact ⟨q1, ble_le q2⟩
  have g2 : ∀ a, NB0 ≤ a + 4294967296 → a + 4294967296 < NB' → NB0 ≤ rgm mp a + 4294967296 ∧ ∀ c, NB0 ≤ c + 4294967296 → c < a → rgm mp a ≠ rgm mp c := fun a h1 h2 => by
    obtain ⟨q1, q2⟩ := rc_and (rAll_ok _ b6 (a - (NB0 - 4294967296)) (show a - (NB0 - 4294967296) < NB' - NB0 by omega))
    have e1 : NB0 - 4294967296 + (a - (NB0 - 4294967296)) = a := by omega
    have q1 : NB0 - 4294967296 ≤ rgm mp (NB0 - 4294967296 + (a - (NB0 - 4294967296))) := ble_le q1
    rw [e1] at q1
    refine ⟨by omega, fun c h3 h4 e => ?_⟩
    have q3 : rc (Nat.beq (rgm mp (NB0 - 4294967296 + (a - (NB0 - 4294967296)))) (rgm mp (NB0 - 4294967296 + (c - (NB0 - 4294967296))))) false true = true := rAll_ok _ q2 (c - (NB0 - 4294967296)) (by omega)
    rw [e1, show NB0 - 4294967296 + (c - (NB0 - 4294967296)) = c by omega, e] at q3
    obtain ⟨q4, -⟩ := rc_nand q3
    rw [Nat.beq_refl] at q4
    cases q4
  have inj : ∀ a c, a + 4294967296 < NB' → c + 4294967296 < NB' → rgm mp a = rgm mp c → a = c := fun a c ha hc e => by
    rcases Nat.lt_or_ge (a + 4294967296) NB0 with p | p
    · rcases Nat.lt_or_ge (c + 4294967296) NB0 with q | q
      · rw [g0 a p, g0 c q] at e; exact e
      · have := (g2 c q hc).1
        rw [g0 a p] at e
        omega
    · rcases Nat.lt_or_ge (c + 4294967296) NB0 with q | q
      · have := (g2 a p ha).1
        rw [g0 c q] at e
        omega
      · rcases Nat.lt_trichotomy a c with r | r | r
        · exact absurd e.symm ((g2 c q hc).2 a p r)
        · exact r
        · exact absurd e ((g2 a p ha).2 c q r)
  obtain ⟨a1, a2, a3, a4, a5, a6⟩ := hh
  have slots : ∀ x y, rrs mp NB' x y = true → rval (fun a => ρ (rgm mp a)) σ x = rval ρ σ y ∧ rwf NB' x := fun x y hx => by
    rcases rc_or hx with ⟨p, q⟩ | ⟨-, q⟩
    · have e := beq_eq q
      subst e
      have hw0 : rwf 0 x := by
        rcases rc_or p with ⟨r, -⟩ | ⟨-, r⟩
        · exact rwf_lt (Nat.lt_of_le_of_lt (ble_le r) (by decide))
        · exact rwf_ge (ble_le r)
      exact ⟨rval_congr (NB := 0) (fun a ha => absurd ha (Nat.not_lt_zero _)) hw0, hw0.mono (Nat.zero_le _)⟩
    · obtain ⟨q1, q2⟩ := rc_and q
      have q1 : x < NB' := ble_le q1
      have q2 : y = 4294967296 + rgm mp (x - 4294967296) := beq_eq q2
      rcases Nat.lt_or_ge x 4294967296 with r | r
      · rename_i p
        have p2 := (rc_nand (show rc (Nat.ble x (nat_lit 4294967295)) false true = true by
          cases hx2 : Nat.ble x (nat_lit 4294967295) with
          | false => rfl
          | true => exact absurd (Nat.le_of_ble_eq_true hx2) (by
              intro _
              have hx3 := hx
              unfold rrs at hx3
              rw [hx2] at hx3
              have := beq_eq (show Nat.beq x y = true from hx3)
              omega))).1
        have h9 : 4294967295 < x := ble_nle p2
        omega
      · have h3 := (g1 (x - 4294967296) (by omega)).2
        refine ⟨?_, fun _ _ => q1⟩
        rw [rval_ref r (by omega), q2, rval_ref (by omega) (by omega), show 4294967296 + rgm mp (x - 4294967296) - 4294967296 = rgm mp (x - 4294967296) by omega]
  refine ⟨hw, ⟨by omega, fun a ha => ?_, b2, fun a ha => ?_⟩, by omega, a4, fun a ha => ?_, fun a c ha hc ka kc e => ?_⟩
  · show ρ (rgm mp a) = ρ0 a
    rw [g0 a (by omega)]
    exact a2.2.1 a ha
  · show ρ (rgm mp a) = ρ0 a
    rw [g0 a ha]
    exact a2.2.2.2 a ha
  · obtain ⟨q1, q2⟩ := g1 a ha
    obtain ⟨c1, c2⟩ := a5 _ q2
    rcases rc_or q1 with ⟨z, -⟩ | ⟨-, q1⟩
    · rw [beq_eq z]
      exact ⟨rCR.zero c1.1, fun j hj => absurd hj (by rw [rlen_0]; exact Nat.not_lt_zero j)⟩
    · obtain ⟨r1, q1⟩ := rc_and q1
      obtain ⟨r2, r3⟩ := rc_and q1
      have r1 : rget h' a % 65536 = rget h (rgm mp a) % 65536 := beq_eq r1
      have r2 := beq_eq r2
      refine ⟨c1.vals r1 r2 fun j hj => (slots _ _ (rAll_ok _ r3 j hj)).1, fun j hj => ?_⟩
      rw [r2] at hj
      exact (slots _ _ (rAll_ok _ r3 j hj)).2
  · have kk : ∀ x, x + 4294967296 < NB' → rget h' x % 65536 ≠ 0 → rget h' x % 65536 = rget h (rgm mp x) % 65536 := fun x hx hk => by
      rcases rc_or (g1 x hx).1 with ⟨z, -⟩ | ⟨-, q1⟩
      · rw [beq_eq z] at hk; exact absurd rfl hk
      · exact beq_eq (rc_and q1).1
    have k1 := kk a ha ka.1
    have k2 := kk c hc kc
    exact inj a c ha hc (a6 _ _ (g1 a ha).2 (g1 c hc).2 (by rw [← k1]; exact ka) (by rw [← k2]; exact kc) e)
end Forget
/-! LOOPS IN CHUNKS: marks at a loop's head -/
theorem rLt_suf (a pc : Nat) : rLt a pc <:+ mcode rMt a := by
  have h := (rdrop_suf pc (mcode rMt a)).1
  unfold rLt
  cases hd : rdrop pc (mcode rMt a) with
  | nil => exact List.nil_suffix
  | cons x t =>
    rw [hd] at h
    exact (List.suffix_cons x t).trans h
theorem rHp_ok {L : rCode} {pc : Nat} (h : rHp L pc = true) : ∀ el t, L = el :: t → el.2.1 = pc := fun el t e => by
  subst e
  exact beq_eq h
section Loop
/-- a state of a frame of the method a from which all is well, whatever the frame -/
def rSta (a : Nat) (k : rK) (NB0 : Nat) (pc : Nat) (ls : List Nat) (h : rH) (NB nc ns : Nat) (env : rE) : Prop :=
  ∀ (l : Launch) (D : va_G) (tc : Nat → ClassId) (z0 : Nat) (ξ0 : Nat → Nat) (σ : Nat → Int32) (p : Program) (e : Env) (s : State) (m : MethodId) (args : Array Value) (below : List Frame) (meth : Method) (c : Code) (ρ0 : Nat → Nat),
    l.stackTraces = false → rSy σ → rSh σ → rFF l D tc z0 ξ0 a p e s m args below meth c ρ0 → rGF l D tc z0 σ a k NB0 p e s m args below meth c ρ0 pc ls [] h NB nc ns env
theorem rc_fal {c e : Bool} (h : rc c true e = false) : c = false ∧ e = false := by cases c <;> first | exact ⟨rfl, h⟩ | cases h
theorem rov_ok (a : Nat) (h : rov a = false) (hne : mcode rMt a ≠ []) : rmB a = true := by
  obtain ⟨-, h⟩ := rc_fal (show rc (Nat.beq a (nat_lit 244)) true (rc (Nat.beq a (nat_lit 54)) true (rc (Nat.beq a (nat_lit 227)) true (Nat.ble (nat_lit 338) a))) = false from h)
  obtain ⟨-, h⟩ := rc_fal h
  obtain ⟨-, h⟩ := rc_fal h
  have h3 : a < 338 := ble_nle h
  refine mk_all a ?_ (by omega)
  rcases Nat.eq_zero_or_pos a with e | e
  · subst e
    exact absurd rfl hne
  · exact e
section LoopS
variable {l : Launch} {D : va_G} {tc : Nat → ClassId} {z0 : Nat} {ξ0 : Nat → Nat} {σ : Nat → Int32} {p : Program} {e : Env} {s : State} {m : MethodId} {args : Array Value} {below : List Frame} {meth : Method} {c : Code} {ρ0 : Nat → Nat}
variable {a NB0 pc0 : Nat} {k kV : rK} {kend : rB} {cf : rCF}
theorem rCG1 (hl : l.stackTraces = false) (hy : rSy σ) (hsh : rSh σ) : rCG l D tc z0 ξ0 σ rCf1 :=
  rdeep hl hy hsh rov_ok (fun a _ as h NB env k hk => by
    obtain ⟨h1, h2⟩ := rc_and (show rc (Nat.beq a (nat_lit 244)) (rVo as h NB env k) false = true from hk)
    have e1 : a = 244 := beq_eq h1
    subst e1
    exact rVo_ok hl hy hsh h2) 16
theorem rlp_ok (hl : l.stackTraces = false) (hy : rSy σ) (hsh : rSh σ) (hcf : rCG l D tc z0 ξ0 σ cf) (hB : rmB a = true) (F : rFF l D tc z0 ξ0 a p e s m args below meth c ρ0)
    (hend : ∀ pc ls st h NB nc ns env, kend pc ls st h NB nc ns env = true → rGF l D tc z0 σ a k NB0 p e s m args below meth c ρ0 pc ls st h NB nc ns env) (hp : rHp (rLt a pc0) pc0 = true) :
    ∀ n pc ls st h NB nc ns env, rlp cf a pc0 (rLt a pc0) k kend n pc ls st h NB nc ns env = true → rGF l D tc z0 σ a k NB0 p e s m args below meth c ρ0 pc ls st h NB nc ns env := by
  intro n
  induction n with
  | zero => exact hend
  | succ n ih =>
    intro pc ls st h NB nc ns env hk
    obtain ⟨h1, h2⟩ := rc_and (show rc (Nat.beq pc pc0) (rrun cf rMt rBL a (rlp cf a pc0 (rLt a pc0) k kend n) k (nat_lit 100000) (rLt a pc0) ls st h NB nc ns env) false = true from hk)
    rw [beq_eq h1]
    exact rFF_run hl hy hsh hcf hB F ih (rLt_suf a pc0) (rHp_ok hp) h2
/-- a chunk of a loop -/
theorem rSt_run {n : Nat} {ls : List Nat} {h : rH} {NB nc ns : Nat} {env : rE} (hB : rmB a = true) (hp : rHp (rLt a pc0) pc0 = true) (hend : ∀ pc ls st h NB nc ns env, kend pc ls st h NB nc ns env = true → st = [] ∧ rSta a k NB0 pc ls h NB nc ns env)
    (run : rrun rCf1 rMt rBL a (rlp rCf1 a pc0 (rLt a pc0) k kend n) k (nat_lit 100000) (rLt a pc0) ls [] h NB nc ns env = true) : rSta a k NB0 pc0 ls h NB nc ns env := by
  intro l D tc z0 ξ0 σ p e s m args below meth c ρ0 hl hy hsh F
  refine rFF_run hl hy hsh (rCG1 hl hy hsh) hB F (rlp_ok hl hy hsh (rCG1 hl hy hsh) hB F (fun pc ls st h NB nc ns env hk => ?_) hp n) (rLt_suf a pc0) (rHp_ok hp) run
  obtain ⟨e1, e2⟩ := hend _ _ _ _ _ _ _ _ hk
  subst e1
  exact e2 l D tc z0 ξ0 σ p e s m args below meth c ρ0 hl hy hsh F
/-- the entry of a method, up to its loop's first mark -/
theorem rSt_entry {as : List Nat} {h : rH} {NB : Nat} {env : rE} (hB : rmB a = true) (hend : ∀ pc ls st h NB nc ns env, kend pc ls st h NB nc ns env = true → st = [] ∧ rSta a k NB0 pc ls h NB nc ns env)
    (run : rrun rCf1 rMt rBL a kend k (nat_lit 100000) (mcode rMt a) as [] h NB 0 0 env = true) : rSta a k NB0 0 as h NB 0 0 env := by
  intro l D tc z0 ξ0 σ p e s m args below meth c ρ0 hl hy hsh F
  refine rFF_run hl hy hsh (rCG1 hl hy hsh) hB F (fun pc ls st h NB nc ns env hk => ?_) (List.suffix_refl _) (rmB_parts hB).2.2.2.1.2.2 run
  obtain ⟨e1, e2⟩ := hend _ _ _ _ _ _ _ _ hk
  subst e1
  exact e2 l D tc z0 ξ0 σ p e s m args below meth c ρ0 hl hy hsh F
theorem rAt_end {pc0 : Nat} {ls0 : List Nat} {h0 : rH} {NB1 nc0 ns0 : Nat} {env0 : rE} (next : rSta a k NB0 pc0 ls0 h0 NB1 nc0 ns0 env0) : ∀ pc ls st h NB nc ns env, rAt pc0 ls0 [] h0 NB1 nc0 ns0 env0 pc ls st h NB nc ns env = true → st = [] ∧ rSta a k NB0 pc ls h NB nc ns env := by
  intro pc ls st h NB nc ns env hk
  obtain ⟨h1, h2, h3, h4, h5, h6, h7, h8⟩ := rAt_ok hk
  subst h1 h2 h3 h4 h5 h6 h7 h8
  exact ⟨rfl, next⟩
theorem rkF_end : ∀ pc ls st h NB nc ns env, rkF pc ls st h NB nc ns env = true → st = [] ∧ rSta a k NB0 pc ls h NB nc ns env := fun _ _ _ _ _ _ _ _ hk => by cases hk
theorem rls_ok {NB0 : Nat} : ∀ ls : List Nat, rls NB0 ls = true → ∀ i, lget ls i < 73786976294838206464 → rwf NB0 (lget ls i) := by
  intro ls
  induction ls with
  | nil => intro _ i hi; rw [lget_nil] at hi; exact absurd hi (Nat.lt_irrefl _)
  | cons x t ih =>
    intro h i hi
    obtain ⟨h1, h2⟩ := rc_and (show rc (rc (rc (Nat.ble x (nat_lit 4294967295)) true (Nat.ble (nat_lit 8589934592) x)) true (Nat.ble (Nat.succ x) NB0)) (rls NB0 t) false = true from h)
    cases i with
    | zero =>
      show rwf NB0 x
      rcases rc_or h1 with ⟨g, -⟩ | ⟨-, g⟩
      · rcases rc_or g with ⟨q, -⟩ | ⟨-, q⟩
        · exact rwf_lt (Nat.lt_of_le_of_lt (ble_le q) (by decide))
        · exact rwf_ge (ble_le q)
      · exact fun _ _ => ble_le g
    | succ i => exact ih h2 i hi
theorem rRn_end {mp : List (Nat × Nat)} {ls0 : List Nat} {h0 : rH} {NB1 nc0 ns0 : Nat} {env0 : rE} (hw : rtwB h0 0 1024 = true) (next : rSta a k NB0 pc0 ls0 h0 NB1 nc0 ns0 env0) : ∀ pc ls st h NB nc ns env, rRn mp NB0 pc0 ls0 h0 NB1 nc0 ns0 env0 pc ls st h NB nc ns env = true → st = [] ∧ rSta a k NB0 pc ls h NB nc ns env := by
  intro pc ls st h NB nc ns env hk
  obtain ⟨h1, g⟩ := rc_and hk
  obtain ⟨h2, g⟩ := rc_and g
  obtain ⟨h3, g⟩ := rc_and g
  obtain ⟨h4, g⟩ := rc_and g
  obtain ⟨h5, g⟩ := rc_and g
  obtain ⟨h6, g⟩ := rc_and g
  obtain ⟨h7, gz⟩ := rc_and g
  clear g
  have h1 := beq_eq h1
  have h2 := reqL_ok _ _ h2
  have h3 := reqL_ok _ _ h3
  have h4 := beq_eq h4
  have h5 := beq_eq h5
  have h6 := reqE_ok _ _ h6
  subst h1 h2 h3 h4 h5 h6
  refine ⟨rfl, fun l D tc z0 ξ0 σ p e s m args below meth c ρ0 hl hy hsh F ρ H locs LS I => ?_⟩
  obtain ⟨i1, i2, -, i4, i5⟩ := I
  have b4 := (rc_and (rc_and (rc_and (rc_and gz).2).2).2).1
  have g0 : ∀ a, a + 4294967296 < NB0 → rgm mp a = a := fun a ha => rkeys_ok mp b4 a (show a < NB0 - 4294967296 by omega)
  have b2 : NB0 ≤ NB1 := ble_le (rc_and (rc_and gz).2).1
  have j1 := i1.ren (rtwB_ok _ _ _ hw) gz
  have j2 : rLR (fun a => ρ (rgm mp a)) σ NB1 (mSt a).2.2.1 ls LS := by
    refine ⟨i2.1, i2.2.1, fun i hi => ?_⟩
    have w := rls_ok _ h7 i hi
    refine ⟨?_, w.mono b2⟩
    rw [rval_congr (ρ' := fun a => ρ (rgm mp a)) (ρ := ρ) (NB := NB0) (fun a ha => by show ρ (rgm mp a) = ρ a; rw [g0 a ha]) w]
    exact (i2.2.2 i hi).1
  have j3 : ∀ x ∈ ([] : List Nat), rwf NB1 x := fun x hx => by cases hx
  have j9 := next l D tc z0 ξ0 σ p e s m args below meth c ρ0 hl hy hsh F (fun a => ρ (rgm mp a)) H locs LS
  have j10 : rInv D tc z0 (NB0, ρ0) σ s.heap (mSt a).2.2.1 (fun a => ρ (rgm mp a)) ls [] h0 NB1 env H locs LS := ⟨j1, j2, j3, i4, i5⟩
  have j11 := j9 j10
  rw [List.map_nil] at j11 ⊢
  exact j11
theorem rGF_mono (hq : ∀ args s o t, rQc D tc z0 σ ρ0 NB0 kV args s o t → rQc D tc z0 σ ρ0 NB0 k args s o t) (hx : ∀ E s t, rXc D tc z0 σ rxn ρ0 NB0 kV E s t → rXc D tc z0 σ rxn ρ0 NB0 k E s t)
    {pc : Nat} {ls st : List Nat} {h : rH} {NB nc ns : Nat} {env : rE} (g : rGF l D tc z0 σ a kV NB0 p e s m args below meth c ρ0 pc ls st h NB nc ns env) : rGF l D tc z0 σ a k NB0 p e s m args below meth c ρ0 pc ls st h NB nc ns env := by
  intro ρ H locs LS I T hT X
  obtain ⟨t, a1, o, b1, b2, b3⟩ := g ρ H locs LS I T hT X
  refine ⟨t, a1, o, b1, b2, ?_⟩
  rcases b3 with ⟨q1, q2⟩ | ⟨q, q1, E, ce, L, q2, q3⟩
  · exact Or.inl ⟨hq _ _ _ _ q1, q2⟩
  · exact Or.inr ⟨q, q1, E, ce, L, hx _ _ _ q2, q3⟩
end LoopS
end Loop

/-! PURE CALLS: nothing that was there before changes -/
theorem rc_fal {c e : Bool} (h : rc c true e = false) : c = false ∧ e = false := by cases c <;> first | exact ⟨rfl, h⟩ | cases h
theorem rov_ok (a : Nat) (h : rov a = false) (hne : mcode rMt a ≠ []) : rmB a = true := by
  obtain ⟨-, h⟩ := rc_fal (show rc (Nat.beq a (nat_lit 244)) true (rc (Nat.beq a (nat_lit 54)) true (rc (Nat.beq a (nat_lit 227)) true (Nat.ble (nat_lit 338) a))) = false from h)
  obtain ⟨-, h⟩ := rc_fal h
  obtain ⟨-, h⟩ := rc_fal h
  have h3 : a < 338 := ble_nle h
  refine mk_all a ?_ (by omega)
  rcases Nat.eq_zero_or_pos a with e | e
  · subst e
    exact absurd rfl hne
  · exact e
theorem hE_0 : (List.range 1024).all (fun a => Nat.beq (rget hE a) 0) = true := by decide +kernel
theorem hE_w : rtwB hE 0 1024 = true := by decide +kernel
section Pure
variable {l : Launch} {D : va_G} {tc : Nat → ClassId} {z0 : Nat} {ξ0 : Nat → Nat} {σ : Nat → Int32}
theorem rCG1 (hl : l.stackTraces = false) (hy : rSy σ) (hsh : rSh σ) : rCG l D tc z0 ξ0 σ rCf1 :=
  rdeep hl hy hsh rov_ok (fun a _ as h NB env k hk => by
    obtain ⟨h1, h2⟩ := rc_and (show rc (Nat.beq a (nat_lit 244)) (rVo as h NB env k) false = true from hk)
    have e1 : a = 244 := beq_eq h1
    subst e1
    exact rVo_ok hl hy hsh h2) 16
theorem rCX_to {z1 : Nat} {s : State} (hz : z0 ≤ z1) (h : rCX D tc z0 ξ0 s) : rCX D tc z1 ξ0 s := by
  obtain ⟨h1, h2, h3, h4, h5, h6, h7, h8, h9, h10, h11, ce, c1, c2, c3, c4, c5, c6, c7⟩ := h
  have n : ∀ q : Nat, z1 ≤ q → z0 ≤ q := fun q hq => Nat.le_trans hz hq
  exact ⟨h1, h2, h3, h4, h5, h6, fun q hq => (h7 q hq).narrow n, fun q hq => (h8 q hq).narrow n, h9.narrow n, h10.narrow n, h11, ce, c1, c2, c3, c4, c5, c6, Nat.lt_of_lt_of_le c7 hz⟩
variable {a : Nat} {k : rK}
/-- a call is good if every frame of it is, from its own entry -/
theorem rOG_at (h1 : plainFor (mSt a).1 = true) (h2 : (mSt a).2.2.2.2 = [] ∨ plainName (mSt a).1.cls = true) {as : List Nat} (hlen : as.length ≤ (mSt a).2.2.1) {h : rH} {NB : Nat} {env : rE}
    (hgo : ∀ p e s m args below meth c ρ0 LS, rFF l D tc z0 ξ0 a p e s m args below meth c ρ0 → rEN σ env → rHR D tc z0 (NB, ρ0) ρ0 σ h NB s.heap → rLR ρ0 σ NB (mSt a).2.2.1 as LS →
      W p l e (rRm rMt rPP a) s m args below meth c s.heap [] 0 0 (rQ below D tc z0 σ rxn ρ0 NB k args s (mcel rMt a) (mslo rMt a)) (F0 m 0 LS [])) : rOG l D tc z0 ξ0 σ a as h NB env k := by
  intro ρ hE hcat
  have body : ∀ p e s m args below meth c s₁, BodyLoose p l (mSt a).1 (headSpec (rHd (mSt a) :: gT) (rRm rMt rPP a)) (mSt a).2.1 (mSt a).2.2.1 (mSt a).2.2.2.1 e s m args below meth c s₁ → c.maxLocals = (mSt a).2.2.1 → ((mSt a).2.2.2.2 = [] → ∀ x ∈ c.exceptionTable.toList, False) → rPc D tc z0 ξ0 σ (rCX D tc z0 ξ0) ρ as h NB args s →
      W p l e (rRm rMt rPP a) s m args below meth c s.heap [] 0 0 (rQ below D tc z0 σ rxn ρ NB k args s (mcel rMt a) (mslo rMt a)) (entryFrame m args (mSt a).2.2.1) := by
    intro p e s m args below meth c s₁ B hml hno hP
    obtain ⟨hP1, hP2, hP3, hP4, hP5⟩ := hP
    have hl := lg_sl_cat1 (ρ := ρ) (σ := σ) as hcat
    have hE2 := lv_entry (as.map (rval ρ σ)) (n := (mSt a).2.2.1) (by rw [hl]; exact hlen)
    have g := hgo p e s m args below meth c ρ ((lg_sl (as.map (rval ρ σ)) ++ List.replicate ((mSt a).2.2.1 - (lg_sl (as.map (rval ρ σ))).length) Slot.unset).toArray) ⟨B.exec, B.bytes, B.returns, B.notSynchronized, hml, findClass_of_methodNamed B.named, (name_of_methodNamed B.named B.method).1, atoms_spec (ws := rHd (mSt a) :: gT) B.pre, ⟨s₁, B⟩, hno, hP2, hP3⟩ hE hP4
      (rLR.of hE2 fun i hi => ?_)
    · subst hP1
      rw [lg_entry_eq]
      exact g
    · obtain ⟨q1, q2⟩ := lv_args_cat1 (ρ := ρ) (σ := σ) as 0 i hcat hi
      rw [Nat.zero_add] at q1
      exact ⟨q1, hP5 _ q2⟩
  by_cases ht : (mSt a).2.2.2.2 = []
  · exact vx_ofWF (cc := (mSt a).2.1) (maxL := (mSt a).2.2.1) (ret := (mSt a).2.2.2.1) (ws' := gT) h1 (by unfold rHd; rw [ht]) fun p e s m args below meth c s₁ B hml hno hP => body p e s m args below meth c s₁ B hml (fun _ => hno) hP
  · obtain ⟨h0, hh, hx⟩ : ∃ h0 hh, (mSt a).2.2.2.2 = h0 :: hh := List.exists_cons_of_ne_nil ht
    refine vx_ofWH (cc := (mSt a).2.1) (maxL := (mSt a).2.2.1) (ret := (mSt a).2.2.2.1) (hh := h0 :: hh) (ws' := gT) (h2.resolve_left ht) (by unfold rHd; rw [hx]) fun p e s m args below meth c s₁ B hml hP => body p e s m args below meth c s₁ B hml (fun q => absurd q ht) hP
/-- a call that was run without any cells: all cells stay as they were -/
theorem pure_ok (hl : l.stackTraces = false) (hy : rSy σ) (hsh : rSh σ) (hB : rmB a = true) {w r : Nat} (hw : w < 4294967296) (hr : r < 4294967296)
    (run : rrun rCf1 rMt rBL a rkF (fun v _ _ _ => Nat.beq v r) (nat_lit 100000) (mcode rMt a) [w] [] hE (nat_lit 4294967360) 0 0 [] = true) (hlen : 1 ≤ (mSt a).2.2.1) {h : rH} {NB : Nat} {env : rE} (hk : k r h NB env = true) : rOG l D tc z0 ξ0 σ a [w] h NB env k := by
  obtain ⟨q1, q2, q3, -⟩ := rmB_parts hB
  refine rOG_at (as := [w]) q1 q2 hlen fun p e s m args below meth c ρ0 LS F hen hHR hLR => ?_
  have hz : z0 ≤ s.heap.size := hHR.2.2.2.1
  obtain ⟨f1, f2, f3, f4, f5, f6, f7, f8, f9, f10, f11, f12⟩ := F
  have F1 : rFF l D tc s.heap.size ξ0 a p e s m args below meth c ρ0 := ⟨f1, f2, f3, f4, f5, f6, f7, f8, f9, f10, rCX_to hz f11, f12⟩
  have g := rFF_run (k := fun v _ _ _ => Nat.beq v r) (NB0 := 4294967360) hl hy hsh (rCG1 hl hy hsh) hB F1 (kb := rkF) (fun _ _ _ _ _ _ _ _ q => by cases q) (List.suffix_refl _) (rmB_parts hB).2.2.2.1.2.2 run
  have z : ∀ x, x + 4294967296 < 4294967360 → rget hE x = 0 := fun x hx => beq_eq (List.all_eq_true.mp hE_0 x (List.mem_range.mpr (by omega)))
  have hNB : 4294967360 ≤ NB := hHR.2.1.1
  have i1 : rHR D tc s.heap.size (4294967360, ρ0) ρ0 σ hE (nat_lit 4294967360) s.heap := by
    refine ⟨rtwB_ok _ _ _ hE_w, ⟨Nat.le_refl _, fun _ _ => rfl, Nat.le_refl _, fun _ _ => rfl⟩, by decide, Nat.le_refl _, fun x hx => ?_, fun x y hx hy2 kx _ _ => ?_⟩
    · rw [z x hx]
      exact ⟨rCR.zero (hHR.2.2.2.2.1 x (Nat.lt_of_lt_of_le hx hNB)).1.1, fun j hj => absurd hj (by rw [rlen_0]; exact Nat.not_lt_zero j)⟩
    · rw [z x hx] at kx
      exact absurd rfl kx.1
  have i2 : rLR ρ0 σ (nat_lit 4294967360) (mSt a).2.2.1 [w] LS := by
    refine ⟨hLR.1, hLR.2.1, fun i hi => ⟨(hLR.2.2 i hi).1, ?_⟩⟩
    cases i with
    | zero => exact rwf_lt hw
    | succ i => rw [lget_s, lget_nil] at hi; exact absurd hi (Nat.lt_irrefl _)
  have i3 : ∀ x ∈ ([] : List Nat), rwf (nat_lit 4294967360) x := fun x hx => by cases hx
  have i4 : rEN σ [] := fun i => ⟨Nat.zero_le _, by have := sb_lt (σ i); show sb (σ i) ≤ 4294967295; omega⟩
  have i5 : va_S (fun q : Nat => s.heap.size ≤ q) s.heap s.heap [] := ⟨Nat.le_refl _, fun _ _ _ => rfl, fun x hx => by cases hx⟩
  have g2 := g ρ0 s.heap [] LS ⟨i1, i2, i3, i4, i5⟩
  rw [List.map_nil] at g2
  intro T hT X
  obtain ⟨t, a1, o, b1, b2, b3⟩ := g2 T hT X
  refine ⟨t, a1, o, b1, b2, ?_⟩
  have kept : va_F (fun q : Nat => s.heap.size ≤ q) s t → rHR D tc z0 (NB, ρ0) ρ0 σ h NB t.heap ∧ va_F (fun q : Nat => z0 ≤ q) s t := fun hF =>
    ⟨hHR.kept hF.1 fun q hq => hF.2 q hq (Nat.not_le.mpr hq), hF.1, fun q hq _ => hF.2 q hq (Nat.not_le.mpr hq)⟩
  rcases b3 with ⟨⟨⟨v, h', NB', env', ρ', v1, -, -, -, -, -, hP⟩, hF⟩, L, hfe, hfr⟩ | ⟨q, q0, E, ce, L, ⟨⟨v, h', NB', env', ρ', v1, -, -, -, -, -, hP⟩, hF⟩, -⟩
  · have e := beq_eq v1
    subst e
    obtain ⟨k1, k2⟩ := kept hF
    refine Or.inl ⟨⟨⟨v, h, NB, env, ρ0, hk, hen, Nat.le_refl _, fun _ _ => rfl, k1, rwf_lt hr, ?_⟩, k2⟩, L, hfe, fun q hq => Nat.le_trans hz (hfr q hq)⟩
    rcases hP with ⟨p1, p2⟩ | ⟨p1, -⟩
    · refine Or.inl ⟨p1, ?_⟩
      rw [rval_lit hr] at p2 ⊢
      exact p2
    · omega
  · have e := beq_eq v1
    obtain ⟨x, hx, -⟩ := hP
    omega
theorem ptget_mem (w : Nat) : ∀ t : Lean.RArray (Nat × Nat), ptget t w ∈ ptl t := by
  intro t
  induction t with
  | leaf x => exact List.mem_cons_self
  | branch p l r il ir =>
    show rc (Nat.ble p w) (ptget r w) (ptget l w) ∈ ptl l ++ ptl r
    cases Nat.ble p w with
    | true => exact List.mem_append_right _ ir
    | false => exact List.mem_append_left _ il
theorem rpu_ok (hl : l.stackTraces = false) (hy : rSy σ) (hsh : rSh σ) (hB : rmB a = true) {t : Lean.RArray (Nat × Nat)} (ht : (ptl t).all (ptB a) = true) (hlen : 1 ≤ (mSt a).2.2.1) {as : List Nat} {h : rH} {NB : Nat} {env : rE} (hk : rpu a t as h NB env k = true) : rOG l D tc z0 ξ0 σ a as h NB env k := by
  rcases rc_or hk with ⟨h1, h2⟩ | ⟨-, hk⟩
  · have e := reqL_ok _ _ h1
    have hq := List.all_eq_true.mp ht _ (ptget_mem (lget as 0) t)
    generalize ptget t (lget as 0) = q at e hq h2
    subst e
    obtain ⟨b1, hq⟩ := rc_and hq
    obtain ⟨b2, b3⟩ := rc_and hq
    exact pure_ok hl hy hsh hB (Nat.lt_succ_of_le (ble_le b1)) (Nat.lt_succ_of_le (ble_le b2)) b3 hlen h2
  · obtain ⟨h1, h2⟩ := rc_and hk
    obtain ⟨q1, q2, q3, -⟩ := rmB_parts hB
    refine rOG_of q1 q2 ?_ fun p e s m args below meth c ρ0 F => rFF_run hl hy hsh (rCG1 hl hy hsh) hB F (kb := rkF) (fun _ _ _ _ _ _ _ _ q => by cases q) (List.suffix_refl _) (rmB_parts hB).2.2.2.1.2.2 h2
    have := ble_le h1
    rw [rcnt_eq, q3] at this
    exact this
theorem rovP_ok (a : Nat) (h : rovP a = false) (hne : mcode rMt a ≠ []) : rmB a = true := by
  obtain ⟨-, h⟩ := rc_fal (show rc (Nat.beq a (nat_lit 15)) true (rc (Nat.beq a (nat_lit 218)) true (rc (Nat.beq a (nat_lit 213)) true (rc (Nat.beq a (nat_lit 214)) true (rc (Nat.beq a (nat_lit 219)) true (rc (Nat.beq a (nat_lit 10)) true (rov a)))))) = false from h)
  obtain ⟨-, h⟩ := rc_fal h
  obtain ⟨-, h⟩ := rc_fal h
  obtain ⟨-, h⟩ := rc_fal h
  obtain ⟨-, h⟩ := rc_fal h
  obtain ⟨-, h⟩ := rc_fal h
  exact rov_ok a h hne
theorem rfoP_ok (hl : l.stackTraces = false) (hy : rSy σ) (hsh : rSh σ) (a : Nat) (as : List Nat) (h : rH) (NB : Nat) (env : rE) (k : rK) (hk : rfoP a as h NB env k = true) : rOG l D tc z0 ξ0 σ a as h NB env k := by
  rcases rc_or hk with ⟨h1, h2⟩ | ⟨-, hk⟩
  · have e1 : a = 15 := beq_eq h1
    subst e1
    exact rpu_ok hl hy hsh (mk_all 15 (by decide) (by decide)) pt_15_ok (by decide +kernel) h2
  rcases rc_or hk with ⟨h1, h2⟩ | ⟨-, hk⟩
  · have e1 : a = 218 := beq_eq h1
    subst e1
    exact rpu_ok hl hy hsh (mk_all 218 (by decide) (by decide)) pt_218_ok (by decide +kernel) h2
  rcases rc_or hk with ⟨h1, h2⟩ | ⟨-, hk⟩
  · have e1 : a = 213 := beq_eq h1
    subst e1
    exact rpu_ok hl hy hsh (mk_all 213 (by decide) (by decide)) pt_213_ok (by decide +kernel) h2
  rcases rc_or hk with ⟨h1, h2⟩ | ⟨-, hk⟩
  · have e1 : a = 214 := beq_eq h1
    subst e1
    exact rpu_ok hl hy hsh (mk_all 214 (by decide) (by decide)) pt_214_ok (by decide +kernel) h2
  rcases rc_or hk with ⟨h1, h2⟩ | ⟨-, hk⟩
  · have e1 : a = 219 := beq_eq h1
    subst e1
    exact rpu_ok hl hy hsh (mk_all 219 (by decide) (by decide)) pt_219_ok (by decide +kernel) h2
  rcases rc_or hk with ⟨h1, h2⟩ | ⟨-, hk⟩
  · have e1 : a = 10 := beq_eq h1
    subst e1
    exact rpu_ok hl hy hsh (mk_all 10 (by decide) (by decide)) pt_10_ok (by decide +kernel) h2
  obtain ⟨h1, h2⟩ := rc_and (show rc (Nat.beq a (nat_lit 244)) (rVo as h NB env k) false = true from hk)
  have e1 : a = 244 := beq_eq h1
  subst e1
  exact rVo_ok hl hy hsh h2
theorem rCGP (hl : l.stackTraces = false) (hy : rSy σ) (hsh : rSh σ) : rCG l D tc z0 ξ0 σ rCfP := rdeep hl hy hsh rovP_ok (fun a _ as h NB env k hk => rfoP_ok hl hy hsh a as h NB env k hk) 16
end Pure

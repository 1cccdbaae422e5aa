/-! THE REST OF THE OPERATIONS -/
section RestOps
variable {Wf : rWf} {D : va_G} {tc : Nat → ClassId} {z0 : Nat → Prop} {ξ : rX} {ζ : rZ} {σ : Nat → Int32} {H0 : Heap} {nL pc pc' tgt : Nat} {ih : rG} {rest tg : rCode} {ls st : List Nat} {h : rH} {NB nc ns : Nat} {env : rE}
theorem risI_lt {c : Nat} (h : risI c = true) : c < 73786976294838206464 := by rcases risI_or h with q | q <;> omega
theorem o_iinc {i d mx : Nat} (hd : d < 4294967296) (hmx : mx = nL) (nx : rNx Wf D tc z0 ξ ζ H0 nL pc' ih rest) (hk : rc (Nat.ble (Nat.succ i) mx) (oIinc i d ih rest ls st h NB nc ns env) false = true)
    (row : ∀ H locs nc ns LS st x (lv : List (Nat × Value)) (k : Nat), lv_has LS nL lv → lv[k]? = some (i, .int x) → i < nL → (∀ LS', lv_has LS' nL ((i, .int (x + Int32.ofNat d)) :: lv.filter (fun q => !(q.1 == i) && !(q.1 + 1 == i && q.2.category == 2))) → Wf H locs nc ns pc' LS' st) → Wf H locs nc ns pc LS st) : rGo Wf D tc z0 ξ ζ H0 nL pc ls st h NB nc ns env := by
  obtain ⟨h1, h2⟩ := rc_and hk
  have hi : i < nL := by rw [← hmx]; exact ble_le h1
  intro σ ρ H locs LS I
  obtain ⟨ha, -, a', b', env', la, lb, ea, eb, he, h3⟩ := rbin_spec h2 I.2.2.2.1
  obtain ⟨ls', k1, k2, k3⟩ := lset_spec _ _ _ _ h3
  have hlt := risI_lt ha
  obtain ⟨k, hk⟩ := List.getElem?_of_mem (mem_lvl (ρ := ρ) (σ := σ) hi hlt)
  rw [rval_I ha] at hk
  refine row _ _ _ _ _ _ _ _ k I.2.1.has hk hi fun LS' hL => ?_
  have hv : rval ρ σ (fadd32 a' b') = .int (rint σ (lget ls i) + Int32.ofNat d) := by
    have l3 : fadd32 a' b' < 4294967296 := lt_of_r32 _
    rw [rval_lit l3, f_add, ← ea, ← eb, rint_lit hd]
  exact nx _ _ _ _ _ _ _ k1 ρ H locs LS' ⟨I.1, I.2.1.set1 k2 k3 (rwf_lt (lt_of_r32 _)) (by rw [hv]; exact hL), I.2.2.1, he, I.2.2.2.2⟩
theorem rLR.set2 {ρ : Nat → Nat} {ls ls' : List Nat} {LS LS' : Array Slot} (h : rLR ρ σ NB nL ls LS) {i v : Nat} (h2 : lget ls' i = v) (h3 : ∀ j, j ≠ i → lget ls' j = 73786976294838206464 ∨ (j ≠ i + 1 ∧ lget ls' j = lget ls j ∧ (j + 1 = i → rcat1 (lget ls j) = true)))
    (hw : rwf NB v) (hL : lv_has LS' nL ((i, rval ρ σ v) :: (lvl ρ σ nL ls).filter (fun q => !(q.1 == i) && (!(q.1 == i + 1) && !(q.1 + 1 == i && q.2.category == 2))))) : rLR ρ σ NB nL ls' LS' := by
  refine rLR.of hL fun j hj => ?_
  by_cases e : j = i
  · subst e
    rw [h2]
    exact ⟨List.mem_cons_self, hw⟩
  · rcases h3 j e with q | ⟨n1, q, r⟩
    · rw [q] at hj; exact absurd hj (by omega)
    · rw [q] at hj ⊢
      refine ⟨List.mem_cons_of_mem _ (List.mem_filter.mpr ⟨mem_lvl (h.lt hj) hj, ?_⟩), (h.2.2 j hj).2⟩
      by_cases e2 : j + 1 = i
      · have := rval_cat1 (ρ := ρ) (σ := σ) (rcat1_lt (r e2))
        simp [e, n1, this]
      · simp [e, n1, e2]
theorem o_store2 {i mx : Nat} {P : Nat → Bool} (hmx : mx = nL) (nx : rNx Wf D tc z0 ξ ζ H0 nL pc' ih rest) (hk : oStore2 P mx i ih rest ls st h NB nc ns env = true)
    (row : ∀ {σ : Nat → Int32} (ρ : Nat → Nat) H locs nc ns LS st (v : Nat) (lv : List (Nat × Value)), P v = true → lv_has LS nL lv → i + 1 < nL → (∀ LS', lv_has LS' nL ((i, rval ρ σ v) :: lv.filter (fun q => !(q.1 == i) && (!(q.1 == i + 1) && !(q.1 + 1 == i && q.2.category == 2)))) → Wf H locs nc ns pc' LS' st) → Wf H locs nc ns pc LS (rval ρ σ v :: st)) : rGo Wf D tc z0 ξ ζ H0 nL pc ls st h NB nc ns env := by
  intro σ ρ H locs LS I
  obtain ⟨v, st', rfl, h1⟩ := pop1_spec hk
  obtain ⟨h2, h3⟩ := rc_and h1
  obtain ⟨h4, h5⟩ := rc_and h3
  obtain ⟨l1, k1, k2, k3⟩ := lset_spec _ _ _ _ h5
  obtain ⟨l2, m1, m2, m3⟩ := lset_spec _ _ _ _ k1
  obtain ⟨l3, n1, n2, n3⟩ := lset_spec _ _ _ _ m1
  have hi : i + 1 < nL := by rw [← hmx]; exact ble_le h4
  refine row ρ _ _ _ _ _ _ v _ h2 I.2.1.has hi fun LS' hL => ?_
  refine nx _ _ _ _ _ _ _ n1 ρ H locs LS' ⟨I.1, I.2.1.set2 n2 (fun j hj => ?_) (I.2.2.1 v List.mem_cons_self) hL, fun x hx => I.2.2.1 x (List.mem_cons_of_mem _ hx), I.2.2.2⟩
  rcases n3 j hj with q | ⟨q, r⟩
  · exact Or.inl q
  · by_cases e : j = i + 1
    · subst e; rw [m2] at q; exact Or.inl q
    · rcases m3 j e with q2 | ⟨q2, -⟩
      · rw [q2] at q; exact Or.inl q
      · rcases k3 j hj with q3 | ⟨q3, r3⟩
        · rw [q2, q3] at q; exact Or.inl q
        · exact Or.inr ⟨e, by rw [q, q2, q3], r3⟩
theorem rl64_num {c : Nat} (h1 : 18446744073709551616 ≤ c) (h2 : c < 36893488147419103232) : (Int64.ofNat c).toInt = (rl64 c : Int) - 9223372036854775808 := by
  rw [Int64.toInt_ofNat', show Int64.size = 18446744073709551616 from rfl, Int.bmod_def]
  rw [show rl64 c = (c + 9223372036854775808) % 18446744073709551616 from rfl]
  split <;> omega
theorem rl64_inj {a b : Nat} (h1 : 18446744073709551616 ≤ a) (h2 : a < 36893488147419103232) (h3 : 18446744073709551616 ≤ b) (h4 : b < 36893488147419103232) (e : rl64 a = rl64 b) : a = b := by
  rw [show rl64 a = (a + 9223372036854775808) % 18446744073709551616 from rfl, show rl64 b = (b + 9223372036854775808) % 18446744073709551616 from rfl] at e
  omega
theorem i32_m1 : Int32.ofNat 4294967295 = -1 := by decide
theorem lg_cmp_num {a b x : Nat} (ha : risL a = true) (hb : risL b = true) (hx : rc (Nat.beq a b) 0 (rc (Nat.ble (rl64 a) (rl64 b)) (nat_lit 4294967295) 1) = x) : Int32.ofNat x = lg_cmp (Int64.ofNat a) (Int64.ofNat b) ∧ x < 4294967296 := by
  have ha' := risL_in ha
  have hb' := risL_in hb
  have ea := rl64_num ha'.1 ha'.2
  have eb := rl64_num hb'.1 hb'.2
  have inj := rl64_inj ha'.1 ha'.2 hb'.1 hb'.2
  unfold lg_cmp
  simp only [gt_iff_lt, Int64.lt_iff_toInt_lt, ← Int64.toInt_inj, ea, eb]
  generalize rl64 a = u at *
  generalize rl64 b = v at *
  cases h1 : Nat.beq a b with
  | true =>
    have e := beq_eq h1
    rw [h1] at hx
    have hx : 0 = x := hx
    subst hx
    subst e
    have euv : u = v := by omega
    subst euv
    refine ⟨?_, Nat.zero_lt_of_lt (Nat.lt_succ_self 4294967295)⟩
    rw [if_neg (by omega), if_pos rfl]
    rfl
  | false =>
    have ne := beq_ne h1
    rw [h1] at hx
    cases h2 : Nat.ble u v with
    | true =>
      rw [h2] at hx
      have hx : 4294967295 = x := hx
      subst hx
      have := ble_le h2
      have n2 : u ≠ v := fun e => ne (inj e)
      refine ⟨?_, Nat.lt_succ_self _⟩
      rw [if_neg (by omega), if_neg (by omega)]
      exact i32_m1
    | false =>
      rw [h2] at hx
      have hx : 1 = x := hx
      subst hx
      have := ble_nle h2
      refine ⟨?_, by omega⟩
      rw [if_pos (by omega)]
      rfl
theorem o_lcmp (nx : rNx Wf D tc z0 ξ ζ H0 nL pc' ih rest) (hk : oLcmp ih rest ls st h NB nc ns env = true)
    (row : ∀ H locs nc ns LS st x y, Wf H locs nc ns pc' LS (.int (lg_cmp x y) :: st) → Wf H locs nc ns pc LS (.long y :: .long x :: st)) : rGo Wf D tc z0 ξ ζ H0 nL pc ls st h NB nc ns env := by
  obtain ⟨b, st1, rfl, h1⟩ := pop1_spec hk
  obtain ⟨a, st', rfl, h2⟩ := pop1_spec h1
  rcases rc_or h2 with ⟨g1, g2⟩ | ⟨-, h2⟩
  · obtain ⟨g3, g4⟩ := rc_and g2
    have e := beq_eq g3
    subst e
    have hv : a / 18446744073709551616 = 3 := beq_eq g1
    have q1 : ¬ a < 4294967296 := by omega
    have q2 : ¬ a < 8589934592 := by omega
    have q3 : ¬ a < 17179869184 := by omega
    have q4 : ¬ a < 34359738368 := by omega
    have q5 : ¬ a < 18446744073709551616 := by omega
    have q6 : ¬ a < 36893488147419103232 := by omega
    have q7 : ¬ a < 55340232221128654848 := by omega
    intro σ ρ H locs LS I
    have e : rval ρ σ a = .long (σ (a - 55340232221128654848)).toInt64 := by simp only [rval, q1, q2, q3, q4, q5, q6, q7, if_false]
    have g := nx _ _ _ _ _ _ _ g4 ρ H locs LS ⟨I.1, I.2.1, mem2 I.2.2.1 (rwf_lt (by decide)), I.2.2.2⟩
    show Wf _ _ _ _ _ _ (rval ρ σ a :: rval ρ σ a :: st'.map (rval ρ σ))
    rw [e]
    refine row _ _ _ _ _ _ _ _ ?_
    rw [List.map_cons, rval_lit (by decide)] at g
    have z : lg_cmp (σ (a - 55340232221128654848)).toInt64 (σ (a - 55340232221128654848)).toInt64 = 0 := by simp [lg_cmp]
    rw [z]
    exact g
  obtain ⟨ha, h3⟩ := rc_and h2
  obtain ⟨hb, h4⟩ := rc_and h3
  obtain ⟨e1, e2⟩ := lg_cmp_num ha hb rfl
  generalize rc (Nat.beq a b) 0 (rc (Nat.ble (rl64 a) (rl64 b)) (nat_lit 4294967295) 1) = x at h4 e1 e2
  intro σ ρ H locs LS I
  have g := nx _ _ _ _ _ _ _ h4 ρ H locs LS ⟨I.1, I.2.1, mem2 I.2.2.1 (rwf_lt e2), I.2.2.2⟩
  show Wf _ _ _ _ _ _ (rval ρ σ b :: rval ρ σ a :: st'.map (rval ρ σ))
  rw [rval_L ha, rval_L hb]
  refine row _ _ _ _ _ _ _ _ ?_
  rw [← e1, ← rval_lit (ρ := ρ) e2]
  exact g
theorem rlive_spec {c : Nat} (h1 : risR c = true) (h2 : rlive c h = true) : c = 8589934592 ∨ (4294967296 ≤ c ∧ c < 8589934592 ∧ rget h (c - 4294967296) % 65536 ≠ 0) := by
  obtain ⟨q1, q2⟩ := risR_in h1
  rcases rc_or h2 with ⟨a, -⟩ | ⟨a, b⟩
  · exact Or.inl (beq_eq a)
  · have a : c ≠ 8589934592 := beq_ne a
    obtain ⟨d, -⟩ := rc_nand b
    exact Or.inr ⟨q1, by omega, beq_ne d⟩
theorem o_acmp {tg2 : rCode} {tgt2 : Nat} (nt : rNx Wf D tc z0 ξ ζ H0 nL tgt ih tg) (nt2 : rNx Wf D tc z0 ξ ζ H0 nL tgt2 ih tg2) (hk : oAcmp tg tg2 ih ls st h NB nc ns env = true)
    (row : ∀ H locs nc ns LS st x y, (x = y → Wf H locs nc ns tgt LS st) → (¬ x = y → Wf H locs nc ns tgt2 LS st) → Wf H locs nc ns pc LS (va_rf y :: va_rf x :: st)) : rGo Wf D tc z0 ξ ζ H0 nL pc ls st h NB nc ns env := by
  obtain ⟨b, st1, rfl, h1⟩ := pop1_spec hk
  obtain ⟨a, st', rfl, h2⟩ := pop1_spec h1
  obtain ⟨ha, h3⟩ := rc_and h2
  obtain ⟨hb, h4⟩ := rc_and h3
  intro σ ρ H locs LS I
  have wa := I.2.2.1 a (List.mem_cons_of_mem _ List.mem_cons_self)
  have wb := I.2.2.1 b List.mem_cons_self
  show Wf _ _ _ _ _ _ (rval ρ σ b :: rval ρ σ a :: st'.map (rval ρ σ))
  rw [rval_R ha, rval_R hb]
  rcases rc_or h4 with ⟨e, h5⟩ | ⟨e, h5⟩
  · have e := beq_eq e
    subst e
    exact row _ _ _ _ _ _ _ _ (fun _ => nt _ _ _ _ _ _ _ h5 ρ H locs LS ⟨I.1, I.2.1, mem0 (mem0 I.2.2.1), I.2.2.2⟩) (fun n => absurd rfl n)
  · have e := beq_ne e
    obtain ⟨la, h6⟩ := rc_and h5
    obtain ⟨lb, h7⟩ := rc_and h6
    obtain ⟨lo, h7⟩ := rc_and h7
    refine row _ _ _ _ _ _ _ _ (fun n => ?_) (fun _ => nt2 _ _ _ _ _ _ _ h7 ρ H locs LS ⟨I.1, I.2.1, mem0 (mem0 I.2.2.1), I.2.2.2⟩)
    exfalso
    rcases rlive_spec ha la with x | ⟨x1, x2, x3⟩ <;> rcases rlive_spec hb lb with y | ⟨y1, y2, y3⟩
    · exact e (x.trans y.symm)
    · rw [x] at n; simp [rro, y2] at n
    · rw [y] at n; simp [rro, x2] at n
    · have u := wa x1 x2
      have w := wb y1 y2
      simp [rro, x2, y2] at n
      have own : ∀ c, c ≠ 8589934592 → rown c h = true → rget h (c - 4294967296) % 65536 < 1024 := fun c hc ho => by
        rcases rc_or ho with ⟨g, -⟩ | ⟨-, g⟩
        · exact absurd (beq_eq g) hc
        · exact Nat.lt_succ_of_le (ble_le g)
      rcases rc_or lo with ⟨g, -⟩ | ⟨-, g⟩
      · have := I.1.2.2.2.2.2 (a - 4294967296) (b - 4294967296) (by omega) (by omega) ⟨x3, own a (by omega) g⟩ y3 n
        omega
      · have := I.1.2.2.2.2.2 (b - 4294967296) (a - 4294967296) (by omega) (by omega) ⟨y3, own b (by omega) g⟩ x3 n.symm
        omega
end RestOps

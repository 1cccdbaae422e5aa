/-! ONE INSTRUCTION, over what its row says (the row is handed in) -/
section Ops
variable {Wf : rWf} {D : va_G} {tc : Nat → ClassId} {z0 : Nat → Prop} {ξ : rX} {ζ : rZ} {σ : Nat → Int32} {H0 : Heap} {nL pc pc' tgt : Nat} {ih : rG} {rest tg : rCode} {ls st : List Nat} {h : rH} {NB nc ns : Nat} {env : rE}
theorem rval_lit {ρ : Nat → Nat} {v : Nat} (h : v < 4294967296) : rval ρ σ v = .int (Int32.ofNat v) := by simp [rval, h]
theorem o_add (nx : rNx Wf D tc z0 ξ ζ H0 nL pc' ih rest) (hk : oAdd ih rest ls st h NB nc ns env = true)
    (row : ∀ H locs nc ns LS st x y, Wf H locs nc ns pc' LS (.int (x + y) :: st) → Wf H locs nc ns pc LS (.int y :: .int x :: st)) : rGo Wf D tc z0 ξ ζ H0 nL pc ls st h NB nc ns env := by
  obtain ⟨b, st1, rfl, h1⟩ := pop1_spec hk
  obtain ⟨a, st', rfl, h2⟩ := pop1_spec h1
  rcases rc_or h2 with ⟨h3, h4⟩ | ⟨-, h4⟩
  · obtain ⟨h5, h6⟩ := rc_and h4
    intro σ ρ H locs LS I
    have ha := beq_eq h3
    subst ha
    have g := nx _ _ _ _ _ _ _ h6 ρ H locs LS ⟨I.1, I.2.1, mem2 I.2.2.1 (I.2.2.1 b List.mem_cons_self), I.2.2.2⟩
    show Wf _ _ _ _ _ _ (rval ρ σ b :: rval ρ σ 0 :: st'.map (rval ρ σ))
    rw [rval_I h5, rval_lit (by decide)]
    refine row _ _ _ _ _ _ _ _ ?_
    rw [show Int32.ofNat 0 + rint σ b = rint σ b from by rw [show Int32.ofNat 0 = 0 from rfl, Int32.zero_add], ← rval_I (ρ := ρ) h5]
    exact g
  · exact o_ar (F := fun x y => x + y) (fun a b _ _ => ⟨lt_of_r32 _, f_add a b⟩) badd_ok nx h4 row
theorem o_bin2 {f : Nat → Nat → Nat} {F : Int32 → Int32 → Int32} (hf : ∀ a b, a < 4294967296 → b < 4294967296 → f a b < 4294967296 ∧ Int32.ofNat (f a b) = F (Int32.ofNat a) (Int32.ofNat b)) (nx : rNx Wf D tc z0 ξ ζ H0 nL pc' ih rest)
    (hk : oBin f ih rest ls st h NB nc ns env = true)
    (row : ∀ H locs nc ns LS st x y, Wf H locs nc ns pc' LS (.int (F x y) :: st) → Wf H locs nc ns pc LS (.int y :: .int x :: st)) : rGo Wf D tc z0 ξ ζ H0 nL pc ls st h NB nc ns env := by
  obtain ⟨b, st1, rfl, h1⟩ := pop1_spec hk
  obtain ⟨a, st', rfl, h2⟩ := pop1_spec h1
  exact o_bin hf nx h2 row
theorem o_ar2 {f : Nat → Nat → Nat} {bf : Nat → Nat → Nat → Nat → Nat × Nat} {F : Int32 → Int32 → Int32} (hf : ∀ a b, a < 4294967296 → b < 4294967296 → f a b < 4294967296 ∧ Int32.ofNat (f a b) = F (Int32.ofNat a) (Int32.ofNat b))
    (hbf : ∀ (x y : Int32) la ha lb hb, la ≤ sb x → sb x ≤ ha → lb ≤ sb y → sb y ≤ hb → (bf la ha lb hb).1 ≤ sb (F x y) ∧ sb (F x y) ≤ (bf la ha lb hb).2) (nx : rNx Wf D tc z0 ξ ζ H0 nL pc' ih rest)
    (hk : oAr f bf ih rest ls st h NB nc ns env = true)
    (row : ∀ H locs nc ns LS st x y, Wf H locs nc ns pc' LS (.int (F x y) :: st) → Wf H locs nc ns pc LS (.int y :: .int x :: st)) : rGo Wf D tc z0 ξ ζ H0 nL pc ls st h NB nc ns env := by
  obtain ⟨b, st1, rfl, h1⟩ := pop1_spec hk
  obtain ⟨a, st', rfl, h2⟩ := pop1_spec h1
  exact o_ar hf hbf nx h2 row
theorem o_div {f : Nat → Nat → Nat} {bf : Nat → Nat → Nat → Nat → Nat × Nat} {F : Int32 → Int32 → Int32} (hf : ∀ a b, a < 4294967296 → b < 4294967296 → f a b < 4294967296 ∧ Int32.ofNat (f a b) = F (Int32.ofNat a) (Int32.ofNat b))
    (hbf : ∀ (x y : Int32) la ha lb hb, la ≤ sb x → sb x ≤ ha → lb ≤ sb y → sb y ≤ hb → (bf la ha lb hb).1 ≤ sb (F x y) ∧ sb (F x y) ≤ (bf la ha lb hb).2) (nx : rNx Wf D tc z0 ξ ζ H0 nL pc' ih rest)
    (hk : oDiv f bf ih rest ls st h NB nc ns env = true)
    (row : ∀ H locs nc ns LS st x y, ¬ y = 0 → Wf H locs nc ns pc' LS (.int (F x y) :: st) → Wf H locs nc ns pc LS (.int y :: .int x :: st)) : rGo Wf D tc z0 ξ ζ H0 nL pc ls st h NB nc ns env := by
  obtain ⟨b, st1, rfl, h1⟩ := pop1_spec hk
  obtain ⟨a, st', rfl, h2⟩ := pop1_spec h1
  obtain ⟨hlb, h3⟩ := rc_and h2
  obtain ⟨hb0, h4⟩ := rc_nand h3
  have lb := rlit_lt hlb
  have hy : ¬ Int32.ofNat b = 0 := fun e => beq_ne hb0 (by rw [← of_i32n lb, e]; rfl)
  intro σ ρ H locs LS I
  obtain ⟨ha, hb, σ', c, env', hc, g, ev, j1, j2, j4, js⟩ := rar_spec hf (fun _ _ _ _ p1 p2 p3 p4 _ => hbf _ _ _ _ _ _ p1 p2 p3 p4) h4 I.1 I.2.1 I.2.2.2.1
  have w := nx _ _ _ _ _ _ _ g ρ H locs LS ⟨j1, j2, mem2 I.2.2.1 (rwf_I hc), j4, I.2.2.2.2⟩
  rw [List.map_cons, js, rval_I hc, ev] at w
  show Wf _ _ _ _ _ _ (rval ρ σ b :: rval ρ σ a :: st'.map (rval ρ σ))
  rw [rval_I ha, rval_I hb]
  exact row _ _ _ _ _ _ _ _ (by rw [rint_lit lb]; exact hy) w
theorem o_un {f : Nat → Nat} {F : Int32 → Int32} (hf : ∀ a, a < 4294967296 → f a < 4294967296 ∧ Int32.ofNat (f a) = F (Int32.ofNat a)) (nx : rNx Wf D tc z0 ξ ζ H0 nL pc' ih rest)
    (hk : oUn f ih rest ls st h NB nc ns env = true)
    (row : ∀ H locs nc ns LS st x, Wf H locs nc ns pc' LS (.int (F x) :: st) → Wf H locs nc ns pc LS (.int x :: st)) : rGo Wf D tc z0 ξ ζ H0 nL pc ls st h NB nc ns env := by
  obtain ⟨a, st', rfl, h1⟩ := pop1_spec hk
  intro σ ρ H locs LS I
  obtain ⟨ha, v, env', lv, ea, he, h2⟩ := rconc_spec h1 I.2.2.2.1
  obtain ⟨f1, f2⟩ := hf v lv
  have g := nx _ _ _ _ _ _ _ h2 ρ H locs LS ⟨I.1, I.2.1, mem1 I.2.2.1 (rwf_lt f1), he, I.2.2.2.2⟩
  show Wf _ _ _ _ _ _ (rval ρ σ a :: st'.map (rval ρ σ))
  rw [rval_I ha, ea]
  refine row _ _ _ _ _ _ _ ?_
  rw [← f2, ← rval_lit (ρ := ρ) f1]
  exact g
theorem o_i2c (hσ0 : rSy ζ.2) (nx : rNx Wf D tc z0 ξ ζ H0 nL pc' ih rest) (hk : oI2c ih rest ls st h NB nc ns env = true)
    (row : ∀ H locs nc ns LS st x, Wf H locs nc ns pc' LS (.int (x.toUInt32 % 65536).toInt32 :: st) → Wf H locs nc ns pc LS (.int x :: st)) : rGo Wf D tc z0 ξ ζ H0 nL pc ls st h NB nc ns env := by
  obtain ⟨a, st', rfl, h1⟩ := pop1_spec hk
  intro σ ρ H locs LS I
  have hσ := I.2.2.2.1.sy.1
  rcases rc_or h1 with ⟨h2, h3⟩ | ⟨-, h3⟩
  · have la := rlit_lt h2
    have lm : Nat.mod a (nat_lit 65536) < 4294967296 := Nat.lt_trans (Nat.mod_lt a (by decide)) (by decide)
    have g := nx _ _ _ _ _ _ _ h3 ρ H locs LS ⟨I.1, I.2.1, mem1 I.2.2.1 (rwf_lt lm), I.2.2.2⟩
    show Wf _ _ _ _ _ _ (rval ρ σ a :: st'.map (rval ρ σ))
    rw [rval_lit la]
    refine row _ _ _ _ _ _ _ ?_
    rw [← f_i2c la, ← rval_lit (ρ := ρ) lm]
    exact g
  · obtain ⟨h4, h5⟩ := rc_and h3
    obtain ⟨h6, h7⟩ := rc_and h5
    have hs := rsym_in h4
    have hlt : rsi a < 16 := ble_le h6
    have hr : rsi a = a - 17179869184 := rfl
    have hsy : rsym (a + 16) = true := by
      show Nat.beq ((a + 16) / 17179869184) 1 = true
      rw [show (a + 16) / 17179869184 = 1 by omega]
      rfl
    have g := nx _ _ _ _ _ _ _ h7 ρ H locs LS ⟨I.1, I.2.1, mem1 I.2.2.1 (rwf_I (risI_sym hsy)), I.2.2.2⟩
    show Wf _ _ _ _ _ _ (rval ρ σ a :: st'.map (rval ρ σ))
    rw [rval_I (risI_sym h4), rint_sym h4]
    refine row _ _ _ _ _ _ _ ?_
    rw [← hσ _ hlt]
    have e : rval ρ σ (Nat.add a (nat_lit 16)) = .int (σ (rsi a + 16)) := by
      show rval ρ σ (a + 16) = _
      have e2 : rsi (a + 16) = rsi a + 16 := by
        show a + 16 - 17179869184 = a - 17179869184 + 16
        omega
      rw [rval_I (risI_sym hsy), rint_sym hsy, e2]
    rw [← e]
    exact g
theorem o_and (hσ0 : rSy ζ.2) (nx : rNx Wf D tc z0 ξ ζ H0 nL pc' ih rest) (hk : oAnd ih rest ls st h NB nc ns env = true)
    (row : ∀ H locs nc ns LS st x y, Wf H locs nc ns pc' LS (.int (x &&& y) :: st) → Wf H locs nc ns pc LS (.int y :: .int x :: st)) : rGo Wf D tc z0 ξ ζ H0 nL pc ls st h NB nc ns env := by
  obtain ⟨b, st1, rfl, h1⟩ := pop1_spec hk
  obtain ⟨a, st', rfl, h2⟩ := pop1_spec h1
  exact o_ar (F := fun x y => x &&& y) (fun a b ha _ => ⟨lt_land ha, f_and a b⟩) band_ok nx h2 row
theorem L_ofNat (x : Nat) : Int64.ofNat (Nat.add (nat_lit 18446744073709551616) (Nat.mod x (nat_lit 18446744073709551616))) = Int64.ofNat x := by
  show Int64.ofNat (18446744073709551616 + x % 18446744073709551616) = Int64.ofNat x
  apply Int64.toBitVec_inj.mp
  apply BitVec.eq_of_toNat_eq
  simp
theorem L_in (x : Nat) : risL (Nat.add (nat_lit 18446744073709551616) (Nat.mod x (nat_lit 18446744073709551616))) = true := by
  show Nat.beq ((18446744073709551616 + x % 18446744073709551616) / 18446744073709551616) 1 = true
  rw [show (18446744073709551616 + x % 18446744073709551616) / 18446744073709551616 = 1 by omega]
  rfl
theorem L_mod {a : Nat} : Int64.ofNat (Nat.mod a (nat_lit 18446744073709551616)) = Int64.ofNat a := by
  show Int64.ofNat (a % 18446744073709551616) = Int64.ofNat a
  apply Int64.toBitVec_inj.mp
  apply BitVec.eq_of_toNat_eq
  simp
theorem rwf_L {c : Nat} (h : risL c = true) : rwf NB c := rwf_ge (Or.inr (by have := (risL_in h).1; omega))
theorem o_l2 {f : Nat → Nat → Nat} {F : Int64 → Int64 → Int64} (hf : ∀ a b, Int64.ofNat (f a b) = F (Int64.ofNat a) (Int64.ofNat b)) (nx : rNx Wf D tc z0 ξ ζ H0 nL pc' ih rest)
    (hk : oL2 f ih rest ls st h NB nc ns env = true)
    (row : ∀ H locs nc ns LS st x y, Wf H locs nc ns pc' LS (.long (F x y) :: st) → Wf H locs nc ns pc LS (.long y :: .long x :: st)) : rGo Wf D tc z0 ξ ζ H0 nL pc ls st h NB nc ns env := by
  obtain ⟨b, st1, rfl, h1⟩ := pop1_spec hk
  obtain ⟨a, st', rfl, h2⟩ := pop1_spec h1
  obtain ⟨ha, h3⟩ := rc_and h2
  obtain ⟨hb, h4⟩ := rc_and h3
  intro σ ρ H locs LS I
  have g := nx _ _ _ _ _ _ _ h4 ρ H locs LS ⟨I.1, I.2.1, mem2 I.2.2.1 (rwf_L (L_in _)), I.2.2.2⟩
  show Wf _ _ _ _ _ _ (rval ρ σ b :: rval ρ σ a :: st'.map (rval ρ σ))
  rw [rval_L ha, rval_L hb]
  refine row _ _ _ _ _ _ _ _ ?_
  rw [← L_mod (a := a), ← L_mod (a := b), ← hf, ← L_ofNat, ← rval_L (ρ := ρ) (σ := σ) (L_in _)]
  exact g
theorem o_i2l (nx : rNx Wf D tc z0 ξ ζ H0 nL pc' ih rest) (hk : oI2l ih rest ls st h NB nc ns env = true)
    (row : ∀ H locs nc ns LS st x, Wf H locs nc ns pc' LS (.long x.toInt64 :: st) → Wf H locs nc ns pc LS (.int x :: st)) : rGo Wf D tc z0 ξ ζ H0 nL pc ls st h NB nc ns env := by
  obtain ⟨a, st', rfl, h1⟩ := pop1_spec hk
  intro σ ρ H locs LS I
  rcases rc_or h1 with ⟨g1, g2⟩ | ⟨-, h1⟩
  · obtain ⟨g3, -⟩ := rc_and g1
    have hs := rsym_in g3
    have e1 : rsi a = a - 17179869184 := rfl
    have e : rval ρ σ (Nat.add (nat_lit 55340232221128654848) (rsi a)) = .long (σ (a - 17179869184)).toInt64 := by
      show rval ρ σ (55340232221128654848 + (a - 17179869184)) = _
      have q1 : ¬ 55340232221128654848 + (a - 17179869184) < 4294967296 := by omega
      have q2 : ¬ 55340232221128654848 + (a - 17179869184) < 8589934592 := by omega
      have q3 : ¬ 55340232221128654848 + (a - 17179869184) < 17179869184 := by omega
      have q4 : ¬ 55340232221128654848 + (a - 17179869184) < 34359738368 := by omega
      have q5 : ¬ 55340232221128654848 + (a - 17179869184) < 18446744073709551616 := by omega
      have q6 : ¬ 55340232221128654848 + (a - 17179869184) < 36893488147419103232 := by omega
      have q7 : ¬ 55340232221128654848 + (a - 17179869184) < 55340232221128654848 := by omega
      have q8 : 55340232221128654848 + (a - 17179869184) - 55340232221128654848 = a - 17179869184 := by omega
      simp only [rval, q1, q2, q3, q4, q5, q6, q7, q8, if_false]
    have g := nx _ _ _ _ _ _ _ g2 ρ H locs LS ⟨I.1, I.2.1, mem1 I.2.2.1 (rwf_ge (Or.inr (show 17179869184 ≤ 55340232221128654848 + (a - 17179869184) by omega))), I.2.2.2⟩
    rw [List.map_cons, e] at g
    show Wf _ _ _ _ _ _ (rval ρ σ a :: st'.map (rval ρ σ))
    rw [rval_I (risI_sym g3), rint_sym g3]
    exact row _ _ _ _ _ _ _ g
  obtain ⟨ha, v, env', lv, ea, he, h2⟩ := rconc_spec h1 I.2.2.2.1
  have hL : risL (rsx v) = true := by
    obtain ⟨q1, q2⟩ := rsx_L lv
    show Nat.beq (rsx v / 18446744073709551616) 1 = true
    rw [show rsx v / 18446744073709551616 = 1 by omega]
    rfl
  have g := nx _ _ _ _ _ _ _ h2 ρ H locs LS ⟨I.1, I.2.1, mem1 I.2.2.1 (rwf_L hL), he, I.2.2.2.2⟩
  show Wf _ _ _ _ _ _ (rval ρ σ a :: st'.map (rval ρ σ))
  rw [rval_I ha, ea]
  refine row _ _ _ _ _ _ _ ?_
  rw [← f_i2l lv, ← rval_L (ρ := ρ) (σ := σ) hL]
  exact g
theorem o_dup (nx : rNx Wf D tc z0 ξ ζ H0 nL pc' ih rest) (hk : oDup ih rest ls st h NB nc ns env = true)
    (row : ∀ H locs nc ns LS st (v : Value), v.category = 1 → Wf H locs nc ns pc' LS (v :: v :: st) → Wf H locs nc ns pc LS (v :: st)) : rGo Wf D tc z0 ξ ζ H0 nL pc ls st h NB nc ns env := by
  obtain ⟨a, st', rfl, h1⟩ := pop1_spec hk
  obtain ⟨h2, h3⟩ := rc_and h1
  intro σ ρ H locs LS I
  exact row _ _ _ _ _ _ _ (rval_cat1 (rcat1_lt h2)) (nx _ _ _ _ _ _ _ h3 ρ H locs LS ⟨I.1, I.2.1, fun x hx => I.2.2.1 x (by simpa using hx), I.2.2.2⟩)
theorem o_pop (nx : rNx Wf D tc z0 ξ ζ H0 nL pc' ih rest) (hk : oPop ih rest ls st h NB nc ns env = true)
    (row : ∀ H locs nc ns LS st (v : Value), v.category = 1 → Wf H locs nc ns pc' LS st → Wf H locs nc ns pc LS (v :: st)) : rGo Wf D tc z0 ξ ζ H0 nL pc ls st h NB nc ns env := by
  obtain ⟨a, st', rfl, h1⟩ := pop1_spec hk
  obtain ⟨h2, h3⟩ := rc_and h1
  intro σ ρ H locs LS I
  exact row _ _ _ _ _ _ _ (rval_cat1 (rcat1_lt h2)) (nx _ _ _ _ _ _ _ h3 ρ H locs LS ⟨I.1, I.2.1, mem0 I.2.2.1, I.2.2.2⟩)
theorem o_dupx1 (nx : rNx Wf D tc z0 ξ ζ H0 nL pc' ih rest) (hk : oDupX1 ih rest ls st h NB nc ns env = true)
    (row : ∀ H locs nc ns LS st (v w : Value), v.category = 1 → w.category = 1 → Wf H locs nc ns pc' LS (v :: w :: v :: st) → Wf H locs nc ns pc LS (v :: w :: st)) : rGo Wf D tc z0 ξ ζ H0 nL pc ls st h NB nc ns env := by
  obtain ⟨a, st1, rfl, h1⟩ := pop1_spec hk
  obtain ⟨b, st', rfl, h2⟩ := pop1_spec h1
  obtain ⟨h3, h4⟩ := rc_and h2
  obtain ⟨h5, h6⟩ := rc_and h4
  intro σ ρ H locs LS I
  exact row _ _ _ _ _ _ _ _ (rval_cat1 (rcat1_lt h3)) (rval_cat1 (rcat1_lt h5)) (nx _ _ _ _ _ _ _ h6 ρ H locs LS ⟨I.1, I.2.1, fun x hx => I.2.2.1 x (by simp at hx ⊢; rcases hx with q | q | q | q <;> simp [q]), I.2.2.2⟩)
theorem o_dup2 (nx : rNx Wf D tc z0 ξ ζ H0 nL pc' ih rest) (hk : oDup2 ih rest ls st h NB nc ns env = true)
    (row : ∀ H locs nc ns LS st (v w : Value), v.category = 1 → w.category = 1 → Wf H locs nc ns pc' LS (v :: w :: v :: w :: st) → Wf H locs nc ns pc LS (v :: w :: st)) : rGo Wf D tc z0 ξ ζ H0 nL pc ls st h NB nc ns env := by
  obtain ⟨a, st1, rfl, h1⟩ := pop1_spec hk
  obtain ⟨b, st', rfl, h2⟩ := pop1_spec h1
  obtain ⟨h3, h4⟩ := rc_and h2
  obtain ⟨h5, h6⟩ := rc_and h4
  intro σ ρ H locs LS I
  exact row _ _ _ _ _ _ _ _ (rval_cat1 (rcat1_lt h3)) (rval_cat1 (rcat1_lt h5)) (nx _ _ _ _ _ _ _ h6 ρ H locs LS ⟨I.1, I.2.1, fun x hx => I.2.2.1 x (by simp at hx ⊢; rcases hx with q | q | q | q | q <;> simp [q]), I.2.2.2⟩)
theorem o_icmp {c : ClassFile.Cond} (nx : rNx Wf D tc z0 ξ ζ H0 nL pc' ih rest) (nt : rNx Wf D tc z0 ξ ζ H0 nL tgt ih tg) (hk : oIcmp (rcond c) tg ih rest ls st h NB nc ns env = true)
    (row : ∀ H locs nc ns LS st x y, (rCo c x y → Wf H locs nc ns tgt LS st) → (¬ rCo c x y → Wf H locs nc ns pc' LS st) → Wf H locs nc ns pc LS (.int y :: .int x :: st)) : rGo Wf D tc z0 ξ ζ H0 nL pc ls st h NB nc ns env := by
  obtain ⟨b, st1, rfl, h1⟩ := pop1_spec hk
  obtain ⟨a, st', rfl, h2⟩ := pop1_spec h1
  intro σ ρ H locs LS I
  obtain ⟨ha, hb, ht⟩ := rcond_spec c h2 I.2.2.2.1
  show Wf _ _ _ _ _ _ (rval ρ σ b :: rval ρ σ a :: st'.map (rval ρ σ))
  rw [rval_I ha, rval_I hb]
  rcases ht with ⟨q, env', he, h3⟩ | ⟨q, env', he, h3⟩
  · exact row _ _ _ _ _ _ _ _ (fun _ => nt _ _ _ _ _ _ _ h3 ρ H locs LS ⟨I.1, I.2.1, mem0 (mem0 I.2.2.1), he, I.2.2.2.2⟩) (fun n => absurd q n)
  · exact row _ _ _ _ _ _ _ _ (fun n => absurd n q) (fun _ => nx _ _ _ _ _ _ _ h3 ρ H locs LS ⟨I.1, I.2.1, mem0 (mem0 I.2.2.1), he, I.2.2.2.2⟩)
theorem o_if {c : ClassFile.Cond} (nx : rNx Wf D tc z0 ξ ζ H0 nL pc' ih rest) (nt : rNx Wf D tc z0 ξ ζ H0 nL tgt ih tg) (hk : oIf (rcond c) tg ih rest ls st h NB nc ns env = true)
    (row : ∀ H locs nc ns LS st x, (rCo c x 0 → Wf H locs nc ns tgt LS st) → (¬ rCo c x 0 → Wf H locs nc ns pc' LS st) → Wf H locs nc ns pc LS (.int x :: st)) : rGo Wf D tc z0 ξ ζ H0 nL pc ls st h NB nc ns env := by
  obtain ⟨a, st', rfl, h1⟩ := pop1_spec hk
  obtain ⟨-, h2⟩ := rc_and h1
  intro σ ρ H locs LS I
  obtain ⟨ha, -, ht⟩ := rcond_spec c h2 I.2.2.2.1
  rw [rint_lit (c := nat_lit 0) (by decide), show Int32.ofNat (nat_lit 0) = 0 from rfl] at ht
  show Wf _ _ _ _ _ _ (rval ρ σ a :: st'.map (rval ρ σ))
  rw [rval_I ha]
  rcases ht with ⟨q, env', he, h3⟩ | ⟨q, env', he, h3⟩
  · exact row _ _ _ _ _ _ _ (fun _ => nt _ _ _ _ _ _ _ h3 ρ H locs LS ⟨I.1, I.2.1, mem0 I.2.2.1, he, I.2.2.2.2⟩) (fun n => absurd q n)
  · exact row _ _ _ _ _ _ _ (fun n => absurd n q) (fun _ => nx _ _ _ _ _ _ _ h3 ρ H locs LS ⟨I.1, I.2.1, mem0 I.2.2.1, he, I.2.2.2.2⟩)
theorem o_null {tg2 : rCode} {tgt2 : Nat} (nt : rNx Wf D tc z0 ξ ζ H0 nL tgt ih tg) (nt2 : rNx Wf D tc z0 ξ ζ H0 nL tgt2 ih tg2) (hk : oNull tg tg2 ih ls st h NB nc ns env = true)
    (rowN : ∀ H locs nc ns LS st, Wf H locs nc ns tgt LS st → Wf H locs nc ns pc LS (.null :: st)) (rowR : ∀ H locs nc ns LS st x, Wf H locs nc ns tgt2 LS st → Wf H locs nc ns pc LS (.ref x :: st)) : rGo Wf D tc z0 ξ ζ H0 nL pc ls st h NB nc ns env := by
  obtain ⟨a, st', rfl, h1⟩ := pop1_spec hk
  obtain ⟨h2, h3⟩ := rc_and h1
  intro σ ρ H locs LS I
  obtain ⟨q1, q2⟩ := risR_in h2
  show Wf _ _ _ _ _ _ (rval ρ σ a :: st'.map (rval ρ σ))
  rcases rc_or h3 with ⟨h4, h5⟩ | ⟨h4, h5⟩
  · have e := beq_eq h4
    rw [e, rval_null]
    exact rowN _ _ _ _ _ _ (nt _ _ _ _ _ _ _ h5 ρ H locs LS ⟨I.1, I.2.1, mem0 I.2.2.1, I.2.2.2⟩)
  · have e : a ≠ 8589934592 := beq_ne h4
    rw [rval_ref q1 (by omega)]
    exact rowR _ _ _ _ _ _ _ (nt2 _ _ _ _ _ _ _ h5 ρ H locs LS ⟨I.1, I.2.1, mem0 I.2.2.1, I.2.2.2⟩)
theorem o_sw {l : List (Nat × Nat)} {d : Nat} {tgs : Nat → rCode} (hl : ∀ q ∈ l, q.1 < 4294967296) (hs : l.Pairwise (fun a b => rbias a.1 < rbias b.1)) (nt : ∀ t, rNx Wf D tc z0 ξ ζ H0 nL t ih (tgs t))
    (hk : pop1 st (fun x st' => rsw x l d env (fun t env' => ih (tgs t) ls st' h NB nc ns env')) = true)
    (row : ∀ H locs nc ns LS st x t, rSw l d x t → Wf H locs nc ns t LS st → Wf H locs nc ns pc LS (.int x :: st)) : rGo Wf D tc z0 ξ ζ H0 nL pc ls st h NB nc ns env := by
  obtain ⟨a, st', rfl, h1⟩ := pop1_spec hk
  intro σ ρ H locs LS I
  obtain ⟨ha, t, env', h2, he, h3⟩ := rsw_spec hl hs h1 I.2.2.2.1
  show Wf _ _ _ _ _ _ (rval ρ σ a :: st'.map (rval ρ σ))
  rw [rval_I ha]
  exact row _ _ _ _ _ _ _ _ h2 (nt t _ _ _ _ _ _ _ h3 ρ H locs LS ⟨I.1, I.2.1, mem0 I.2.2.1, he, I.2.2.2.2⟩)
end Ops

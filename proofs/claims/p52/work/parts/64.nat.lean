/-! NATIVES, SWITCHES, BYTES -/
theorem i32_toInt {a : Nat} (h : a < 4294967296) : (Int32.ofNat a).toInt = if a < 2147483648 then (a : Int) else (a : Int) - 4294967296 := by
  rw [Int32.toInt_ofNat', show Int32.size = 4294967296 from rfl, Int.bmod_def]
  split <;> split <;> omega
theorem f_i2b0 {a r x : Nat} (h : a < 4294967296) (hr : a % 256 = r) (hx : rc (Nat.ble 128 r) (4294967040 + r) r = x) : x < 4294967296 ∧ Int32.ofNat x = (Int32.ofNat a).toInt8.toInt32 := by
  have hb := i32_toInt h
  have hr2 : r < 256 := by omega
  cases hn : Nat.ble 128 r with
  | true =>
    rw [hn] at hx
    have hx : 4294967040 + r = x := hx
    subst hx
    have h1 := ble_le hn
    refine ⟨by omega, ?_⟩
    rw [← Int32.toInt_inj, Int8.toInt_toInt32, Int32.toInt_toInt8, hb, i32_toInt (by omega), if_neg (by omega), Int.bmod_def]
    split <;> split <;> omega
  | false =>
    rw [hn] at hx
    have hx : r = x := hx
    subst hx
    have h1 := ble_nle hn
    refine ⟨by omega, ?_⟩
    rw [← Int32.toInt_inj, Int8.toInt_toInt32, Int32.toInt_toInt8, hb, i32_toInt (by omega), if_pos (by omega), Int.bmod_def]
    split <;> split <;> omega
theorem i2b_small {x : Int32} (h1 : 0 ≤ x.toInt) (h2 : x.toInt < 128) : x.toInt8.toInt32 = x := by
  rw [← Int32.toInt_inj, Int8.toInt_toInt32, Int32.toInt_toInt8, Int.bmod_def]
  split <;> omega
theorem shr8 {n : Nat} (h : n < 65536) : ((Int32.ofNat n).toUInt32 >>> ((Int32.ofNat 8).toUInt32 &&& Int32.toUInt32 31)).toInt32 = Int32.ofNat (n / 256) := by
  apply Int32.toBitVec_inj.mp
  apply BitVec.eq_of_toNat_eq
  have e : ((Int32.ofNat 8).toUInt32 &&& Int32.toUInt32 31) = 8 := by decide
  rw [e]
  simp [Nat.shiftRight_eq_div_pow]
  omega
section NEOs
variable {p : Program} {l : Launch} {e : Env} {R : Room} {s : State} {m : MethodId} {args : Array Value} {below : List Frame} {meth : Method} {c : Code} {Q : State → Prop} {D : va_G} {tc : Nat → ClassId} {z0 : Nat → Prop} {ξ : rX} {ζ : rZ} {σ : Nat → Int32} {nL : Nat} {cf : rCF} {M : rM} {BL : Nat → Nat} {mi : Nat} {kb : rB} {k : rK}
variable {cc : ByteArray} {pc a b : Nat} {tb : List (Nat × Nat)} {own : String}
theorem onat_ok {ih : rG} {rest : rCode} {ls st : List Nat} {h : rH} {NB nc ns B1 B2 : Nat} {env : rE} (hk : oNat a B1 B2 ih rest ls st h NB nc ns env = true) : rcats st ≤ 16 ∧ nc ≤ B1 ∧ ns ≤ B2 := by
  obtain ⟨h1, -⟩ := rc_and hk
  obtain ⟨h2, h3⟩ := rc_and h1
  obtain ⟨h4, h5⟩ := rc_and h3
  exact ⟨ble_le h2, ble_le h4, ble_le h5⟩
theorem inat {ih : rG} {rest : rCode} {ls st : List Nat} {h : rH} {NB nc ns : Nat} {env : rE} {a : Nat} {Y : Bool} (ha : Nat.beq a 0 = false) (ha2 : Nat.ble 1000 a = true) (hk : rc (Nat.beq a 0) false (rc (Nat.ble 1000 a) (oNat a (mcel M mi) (mslo M mi) ih rest ls st h NB nc ns env) Y) = true) : oNat a (mcel M mi) (mslo M mi) ih rest ls st h NB nc ns env = true := by
  obtain ⟨-, h1⟩ := rc_nand hk
  rw [ha2] at h1
  exact h1
theorem eo_max (F : rFr p s m args c cc own D tc) (hml : c.maxLocals = nL) (hRf : 1 ≤ R.frames) (hRl : 40 ≤ R.locals) (hR1 : mcel M mi ≤ R.cells) (hR2 : mslo M mi ≤ R.slots) {index : Nat} (hlink : (Cond.methodLink own index Lib.Math.max.name).before args s = true) (hstat : (Cond.static Lib.Math.max.name).before args s = true) (hini : (Cond.initialized "java/lang/Math").before args s = true) (hcode : (Cond.code Lib.Math.max.name Lib.Math.max.code 2 (some .int)).before args s = true)
    (ha : a = 1001) (hd : decode cc pc = .ok (.invokestatic index, 3)) : rEO p l e R s m args below meth c Q D tc z0 ξ ζ nL cf M BL mi kb k 3 (.invokestatic index, pc, a, b, tb) := by
  subst ha
  intro ih rest nx _ ls st h NB nc ns env hk
  have hn : oNat 1001 (mcel M mi) (mslo M mi) ih rest ls st h NB nc ns env = true := inat (Y := oCall cf 1001 b (rtb tb) mi M pc ih rest ls st h NB nc ns env) rfl rfl hk
  obtain ⟨h1, h2, h3⟩ := onat_ok hn
  have hm : oMxn (fun a b env t e => rlt a b env e t) ih rest ls st h NB nc ns env = true := (rc_and hn).2
  exact o_maxX nx h1 hm fun H locs LS st x y g1 g2 w => va_mmax F.1 F.2.1 (by rw [hml, g1]) F.2.2.1 hlink hstat hini hcode hRf (by omega) (Nat.le_trans h2 hR1) (Nat.le_trans h3 hR2) hd w
theorem eo_min (F : rFr p s m args c cc own D tc) (hml : c.maxLocals = nL) (hRf : 1 ≤ R.frames) (hRl : 40 ≤ R.locals) (hR1 : mcel M mi ≤ R.cells) (hR2 : mslo M mi ≤ R.slots) {index : Nat} (hlink : (Cond.methodLink own index Lib.Math.min.name).before args s = true) (hstat : (Cond.static Lib.Math.min.name).before args s = true) (hini : (Cond.initialized "java/lang/Math").before args s = true) (hcode : (Cond.code Lib.Math.min.name Lib.Math.min.code 2 (some .int)).before args s = true)
    (ha : a = 1002) (hd : decode cc pc = .ok (.invokestatic index, 3)) : rEO p l e R s m args below meth c Q D tc z0 ξ ζ nL cf M BL mi kb k 3 (.invokestatic index, pc, a, b, tb) := by
  subst ha
  intro ih rest nx _ ls st h NB nc ns env hk
  have hn : oNat 1002 (mcel M mi) (mslo M mi) ih rest ls st h NB nc ns env = true := inat (Y := oCall cf 1002 b (rtb tb) mi M pc ih rest ls st h NB nc ns env) rfl rfl hk
  obtain ⟨h1, h2, h3⟩ := onat_ok hn
  have hm : oMxn (fun a b env t e => rlt b a env e t) ih rest ls st h NB nc ns env = true := (rc_and hn).2
  exact o_minX nx h1 hm fun H locs LS st x y g1 g2 w => va_mmin F.1 F.2.1 (by rw [hml, g1]) F.2.2.1 hlink hstat hini hcode hRf (by omega) (Nat.le_trans h2 hR1) (Nat.le_trans h3 hR2) hd w
theorem eo_objInit (F : rFr p s m args c cc own D tc) (hml : c.maxLocals = nL) (hRf : 1 ≤ R.frames) (hRl : 40 ≤ R.locals) {index : Nat} (hlink : (Cond.methodLink own index Lib.objectInit).before args s = true) (hinst : (Cond.instanceMethod Lib.objectInit).before args s = true) (hcode : (Cond.code Lib.objectInit ⟨#[0xb1]⟩ 1 none).before args s = true)
    (ha : a = 1006) (hd : decode cc pc = .ok (.invokespecial index, 3)) : rEO p l e R s m args below meth c Q D tc z0 ξ ζ nL cf M BL mi kb k 3 (.invokespecial index, pc, a, b, tb) := by
  subst ha
  intro ih rest nx _ ls st h NB nc ns env hk
  have hn : oNat 1006 (mcel M mi) (mslo M mi) ih rest ls st h NB nc ns env = true := inat (Y := oCall cf 1006 b (rtb tb) mi M pc ih rest ls st h NB nc ns env) rfl rfl hk
  obtain ⟨h1, h2, h3⟩ := onat_ok hn
  have hm : oInit0 ih rest ls st h NB nc ns env = true := (rc_and hn).2
  obtain ⟨o, st', rfl, g1⟩ := pop1_spec hm
  obtain ⟨a1, b1⟩ := rc_and g1
  obtain ⟨a2, b2⟩ := rc_and b1
  have v1 : 4294967296 ≤ o := ble_le a1
  have v2 : o < NB := ble_le a2
  intro σ ρ H locs LS I
  have hN := I.1.2.2.1
  have hc := rcats_map (σ := σ) (ρ := ρ) h1
  simp only [List.map_cons, List.sum_cons] at hc
  show W _ _ _ _ _ _ _ _ _ _ _ _ _ _ _ (F0 m pc LS (rval ρ σ o :: st'.map (rval ρ σ)))
  rw [rval_ref v1 (by omega)]
  exact W.objInit F.1 F.2.1 F.2.2.1 hlink hinst hcode (g := F0 m pc LS _) rfl (by show LS.size = _; rw [hml, I.2.1.1]) rfl hd hRf (by show 2 * 0 + _ + _ ≤ _; omega) (nx _ _ _ _ _ _ _ b2 ρ H locs LS ⟨I.1, I.2.1, mem0 I.2.2.1, I.2.2.2⟩)
theorem eo_i2b (F : rFr p s m args c cc own D tc) (hd : decode cc pc = .ok (.i2b, 1)) : rEO p l e R s m args below meth c Q D tc z0 ξ ζ nL cf M BL mi kb k 1 (.i2b, pc, a, b, tb) := by
  intro ih rest nx _ ls st h NB nc ns env hk
  have hk : oI2b ih rest ls st h NB nc ns env = true := hk
  obtain ⟨x, st', rfl, g1⟩ := pop1_spec hk
  have lit : ∀ {σ : Nat → Int32} (v : Nat) (env' : rE) (ρ : Nat → Nat) (H : Heap) (locs : List Loc) (LS : Array Slot), v < 4294967296 → rInv D tc z0 ξ ζ σ s.heap nL ρ ls (x :: st') h NB env' H locs LS → ih rest ls (ri2b v :: st') h NB nc ns env' = true → W p l e R s m args below meth c H locs nc ns Q (F0 m pc LS (.int (Int32.ofNat v) :: st'.map (rval ρ σ))) := fun {σ} v env' ρ H locs LS hv I hk => by
    obtain ⟨y, hy⟩ : ∃ y, ri2b v = y := ⟨_, rfl⟩
    rw [hy] at hk
    obtain ⟨f1, f2⟩ := f_i2b0 (x := y) hv rfl hy
    have g := nx _ _ _ _ _ _ _ hk ρ H locs LS ⟨I.1, I.2.1, mem1 I.2.2.1 (rwf_lt f1), I.2.2.2⟩
    refine lv_i2b F.1 F.2.1 hd f2.symm ?_
    rw [← rval_lit (ρ := ρ) (σ := σ) f1]
    exact g
  intro σ ρ H locs LS I
  show W _ _ _ _ _ _ _ _ _ _ _ _ _ _ _ (F0 m pc LS (rval ρ σ x :: st'.map (rval ρ σ)))
  rcases rc_or g1 with ⟨h1, h2⟩ | ⟨-, h2⟩
  · rw [rval_lit (rlit_lt h1)]
    exact lit x env ρ H locs LS (rlit_lt h1) I h2
  · obtain ⟨h3, h4⟩ := rc_and h2
    obtain ⟨h5, h6⟩ := rc_and h4
    have h5 : 2147483648 ≤ (rnth env (rsi x)).1 := ble_le h5
    have h7 := (I.2.2.2.1.1 (rsi x)).1
    rw [rval_I (risI_sym h3), rint_sym h3]
    rcases rlow_spec h6 I.2.2.2.1 with ⟨q, env', he, r⟩ | ⟨q, env', he, r⟩
    · have g := nx _ _ _ _ _ _ _ r ρ H locs LS ⟨I.1, I.2.1, I.2.2.1, he, I.2.2.2.2⟩
      have q : ((σ (rsi x)).toInt + 2147483648).toNat < 2147483776 := q
      have h7 : (rnth env (rsi x)).1 ≤ ((σ (rsi x)).toInt + 2147483648).toNat := h7
      refine lv_i2b F.1 F.2.1 hd (i2b_small (by omega) (by omega)) ?_
      rw [← rint_sym (σ := σ) h3, ← rval_I (ρ := ρ) (risI_sym h3)]
      exact g
    · obtain ⟨-, v, env2, hv, ev, he2, r2⟩ := rconc_spec r he
      rw [rint_sym h3] at ev
      rw [ev]
      exact lit v env2 ρ H locs LS hv ⟨I.1, I.2.1, I.2.2.1, he2, I.2.2.2.2⟩ r2
end NEOs

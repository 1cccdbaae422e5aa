/-! FLOATS -/
theorem risF_in {c : Nat} (h : risF c = true) : 34359738368 ≤ c ∧ c ≤ 38654705663 := by
  obtain ⟨a, b⟩ := rc_and h
  exact ⟨ble_le a, ble_le b⟩
theorem risD_in {c : Nat} (h : risD c = true) : 36893488147419103232 ≤ c ∧ c < 55340232221128654848 := by
  have h1 : c / 18446744073709551616 = 2 := beq_eq h
  omega
theorem rval_F {ρ : Nat → Nat} {σ : Nat → Int32} {c : Nat} (h : risF c = true) : rval ρ σ c = .float (rfF c) := by
  obtain ⟨h1, h2⟩ := risF_in h
  have q1 : ¬ c < 4294967296 := by omega
  have q2 : ¬ c < 8589934592 := by omega
  have q3 : ¬ c < 17179869184 := by omega
  have q4 : ¬ c < 34359738368 := by omega
  have q5 : c < 18446744073709551616 := by omega
  simp only [rval, q1, q2, q3, q4, q5, if_false, if_true]
  rfl
theorem rval_D {ρ : Nat → Nat} {σ : Nat → Int32} {c : Nat} (h : risD c = true) : rval ρ σ c = .double (rfD c) := by
  obtain ⟨h1, h2⟩ := risD_in h
  have q1 : ¬ c < 4294967296 := by omega
  have q2 : ¬ c < 8589934592 := by omega
  have q3 : ¬ c < 17179869184 := by omega
  have q4 : ¬ c < 34359738368 := by omega
  have q5 : ¬ c < 18446744073709551616 := by omega
  have q6 : ¬ c < 36893488147419103232 := by omega
  simp only [rval, q1, q2, q3, q4, q5, q6, h2, if_false, if_true]
  rfl
theorem rF_num (x : UInt32) : rF x = 34359738368 + x.toBitVec.toNat := rfl
theorem rD_num (x : UInt64) : rD x = 36893488147419103232 + x.toBitVec.toNat := rfl
theorem rF_val {ρ : Nat → Nat} {σ : Nat → Int32} (x : UInt32) : rval ρ σ (rF x) = .float x ∧ ∀ NB, rwf NB (rF x) := by
  have hx := x.toBitVec.isLt
  have e : (34359738368 + x.toBitVec.toNat) - 34359738368 = x.toBitVec.toNat := by omega
  rw [rF_num]
  have q1 : ¬ 34359738368 + x.toBitVec.toNat < 4294967296 := by omega
  have q2 : ¬ 34359738368 + x.toBitVec.toNat < 8589934592 := by omega
  have q3 : ¬ 34359738368 + x.toBitVec.toNat < 17179869184 := by omega
  have q4 : ¬ 34359738368 + x.toBitVec.toNat < 34359738368 := by omega
  have q5 : 34359738368 + x.toBitVec.toNat < 18446744073709551616 := by omega
  refine ⟨?_, fun NB => rwf_ge (Or.inr (by omega))⟩
  simp only [rval, q1, q2, q3, q4, q5, if_false, if_true, e]
  rw [show UInt32.ofNat x.toBitVec.toNat = x from UInt32.ofNat_toNat]
theorem rD_val {ρ : Nat → Nat} {σ : Nat → Int32} (x : UInt64) : rval ρ σ (rD x) = .double x ∧ ∀ NB, rwf NB (rD x) := by
  have hx := x.toBitVec.isLt
  have e : (36893488147419103232 + x.toBitVec.toNat) - 36893488147419103232 = x.toBitVec.toNat := by omega
  rw [rD_num]
  have q1 : ¬ 36893488147419103232 + x.toBitVec.toNat < 4294967296 := by omega
  have q2 : ¬ 36893488147419103232 + x.toBitVec.toNat < 8589934592 := by omega
  have q3 : ¬ 36893488147419103232 + x.toBitVec.toNat < 17179869184 := by omega
  have q4 : ¬ 36893488147419103232 + x.toBitVec.toNat < 34359738368 := by omega
  have q5 : ¬ 36893488147419103232 + x.toBitVec.toNat < 18446744073709551616 := by omega
  have q6 : ¬ 36893488147419103232 + x.toBitVec.toNat < 36893488147419103232 := by omega
  have q7 : 36893488147419103232 + x.toBitVec.toNat < 55340232221128654848 := by omega
  refine ⟨?_, fun NB => rwf_ge (Or.inr (by omega))⟩
  simp only [rval, q1, q2, q3, q4, q5, q6, q7, if_false, if_true, e]
  rw [show UInt64.ofNat x.toBitVec.toNat = x from UInt64.ofNat_toNat]
theorem rn32_ok {x : UInt32} (h : rn32 x = true) : vf_n32 x := by
  have h : x.toBitVec.toNat &&& 2147483647 ≤ 2139095040 := ble_le h
  unfold vf_n32
  rw [UInt32.le_iff_toNat_le, UInt32.toNat_and]
  exact h
theorem rn64_ok {x : UInt64} (h : rn64 x = true) : vf_n64 x := by
  have h : x.toBitVec.toNat &&& 9223372036854775807 ≤ 9218868437227405312 := ble_le h
  unfold vf_n64
  rw [UInt64.le_iff_toNat_le, UInt64.toNat_and]
  exact h
section FloatEO
variable {p : Program} {l : Launch} {e : Env} {R : Room} {s : State} {m : MethodId} {args : Array Value} {below : List Frame} {meth : Method} {c : Code} {Q : State → Prop} {D : va_G} {tc : Nat → ClassId} {z0 : Nat → Prop} {ξ : rX} {ζ : rZ} {σ : Nat → Int32} {nL : Nat} {cf : rCF} {M : rM} {BL : Nat → Nat} {mi : Nat} {kb : rB} {k : rK}
variable {cc : ByteArray} {pc a b : Nat} {tb : List (Nat × Nat)} {own : String}
theorem eo_i2f (F : rFr p s m args c cc own D tc) (hd : decode cc pc = .ok (.i2f, 1)) : rEO p l e R s m args below meth c Q D tc z0 ξ ζ nL cf M BL mi kb k 1 (.i2f, pc, a, b, tb) := by
  intro ih rest nx _ ls st h NB nc ns env hk
  obtain ⟨x, st', rfl, h1⟩ := pop1_spec (show pop1 st (fun a st' => rc (rlit a) (ih rest ls (rF (FP.i2f (Int32.ofNat a)) :: st') h NB nc ns env) false) = true from hk)
  obtain ⟨h2, h3⟩ := rc_and h1
  intro σ ρ H locs LS I
  obtain ⟨v1, v2⟩ := rF_val (ρ := ρ) (σ := σ) (FP.i2f (Int32.ofNat x))
  have g := nx _ _ _ _ _ _ _ h3 ρ H locs LS ⟨I.1, I.2.1, mem1 I.2.2.1 (v2 _), I.2.2.2⟩
  rw [List.map_cons, v1] at g
  show W _ _ _ _ _ _ _ _ _ _ _ _ _ _ _ (F0 m pc LS (rval ρ σ x :: st'.map (rval ρ σ)))
  rw [rval_lit (rlit_lt h2)]
  exact lv_i2f F.1 F.2.1 hd g
theorem eo_fdiv (F : rFr p s m args c cc own D tc) (hd : decode cc pc = .ok (.fdiv, 1)) : rEO p l e R s m args below meth c Q D tc z0 ξ ζ nL cf M BL mi kb k 1 (.fdiv, pc, a, b, tb) := by
  intro ih rest nx _ ls st h NB nc ns env hk
  have hk : oFdiv ih rest ls st h NB nc ns env = true := hk
  obtain ⟨y, st1, rfl, h1⟩ := pop1_spec hk
  obtain ⟨x, st', rfl, h2⟩ := pop1_spec h1
  obtain ⟨h3, h4⟩ := rc_and h2
  obtain ⟨h5, h6⟩ := rc_and h4
  obtain ⟨h7, h8⟩ := rc_and h6
  intro σ ρ H locs LS I
  obtain ⟨v1, v2⟩ := rF_val (ρ := ρ) (σ := σ) (FP.fdiv (rfF x) (rfF y))
  have g := nx _ _ _ _ _ _ _ h8 ρ H locs LS ⟨I.1, I.2.1, mem2 I.2.2.1 (v2 _), I.2.2.2⟩
  rw [List.map_cons, v1] at g
  show W _ _ _ _ _ _ _ _ _ _ _ _ _ _ _ (F0 m pc LS (rval ρ σ y :: rval ρ σ x :: st'.map (rval ρ σ)))
  rw [rval_F h3, rval_F h5]
  exact lv_fdiv F.1 F.2.1 hd (rn32_ok h7) g
theorem eo_f2d (F : rFr p s m args c cc own D tc) (hd : decode cc pc = .ok (.f2d, 1)) : rEO p l e R s m args below meth c Q D tc z0 ξ ζ nL cf M BL mi kb k 1 (.f2d, pc, a, b, tb) := by
  intro ih rest nx _ ls st h NB nc ns env hk
  have hk : oF2d ih rest ls st h NB nc ns env = true := hk
  obtain ⟨x, st', rfl, h1⟩ := pop1_spec hk
  obtain ⟨h3, h4⟩ := rc_and h1
  obtain ⟨h7, h8⟩ := rc_and h4
  intro σ ρ H locs LS I
  obtain ⟨v1, v2⟩ := rD_val (ρ := ρ) (σ := σ) (FP.f2d (rfF x))
  have g := nx _ _ _ _ _ _ _ h8 ρ H locs LS ⟨I.1, I.2.1, mem1 I.2.2.1 (v2 _), I.2.2.2⟩
  rw [List.map_cons, v1] at g
  show W _ _ _ _ _ _ _ _ _ _ _ _ _ _ _ (F0 m pc LS (rval ρ σ x :: st'.map (rval ρ σ)))
  rw [rval_F h3]
  exact lv_f2d F.1 F.2.1 hd (rn64_ok h7) g
theorem eo_dcmp (F : rFr p s m args c cc own D tc) {op : ClassFile.CmpOp} (hd : decode cc pc = .ok (.dcmp op, 1)) : rEO p l e R s m args below meth c Q D tc z0 ξ ζ nL cf M BL mi kb k 1 (.dcmp op, pc, a, b, tb) := by
  intro ih rest nx _ ls st h NB nc ns env hk
  have hk : oDcmp op ih rest ls st h NB nc ns env = true := hk
  obtain ⟨y, st1, rfl, h1⟩ := pop1_spec hk
  obtain ⟨x, st', rfl, h2⟩ := pop1_spec h1
  obtain ⟨h3, h4⟩ := rc_and h2
  obtain ⟨h5, h6⟩ := rc_and h4
  intro σ ρ H locs LS I
  have hl := i32n_lt (Op.cmpValue (FP.dcmp (rfD x) (rfD y)) op)
  have g := nx _ _ _ _ _ _ _ h6 ρ H locs LS ⟨I.1, I.2.1, mem2 I.2.2.1 (rwf_lt hl), I.2.2.2⟩
  rw [List.map_cons, rval_lit hl, i32n_of] at g
  show W _ _ _ _ _ _ _ _ _ _ _ _ _ _ _ (F0 m pc LS (rval ρ σ y :: rval ρ σ x :: st'.map (rval ρ σ)))
  rw [rval_D h3, rval_D h5]
  exact lv_dcmp F.1 F.2.1 hd g
theorem eo_dload (F : rFr p s m args c cc own D tc) {i : Nat} (hd : decode cc pc = .ok (.dload i, 2)) : rEO p l e R s m args below meth c Q D tc z0 ξ ζ nL cf M BL mi kb k 2 (.dload i, pc, a, b, tb) :=
  fun _ _ nx _ _ _ _ _ _ _ _ hk => o_load (P := risD) (fun _ h => Nat.lt_trans (risD_in h).2 (by decide)) nx hk (fun _ _ _ _ _ _ _ v hv hl w => lv_dload F.1 F.2.1 hd (by rw [rval_D hv] at hl; exact hl) (by rw [rval_D hv] at w; exact w))
theorem eo_dstore (F : rFr p s m args c cc own D tc) (hmx : mloc M mi = nL) {i : Nat} (hd : decode cc pc = .ok (.dstore i, 2)) : rEO p l e R s m args below meth c Q D tc z0 ξ ζ nL cf M BL mi kb k 2 (.dstore i, pc, a, b, tb) :=
  fun _ _ nx _ _ _ _ _ _ _ _ hk => o_store2 hmx nx hk (fun ρ _ _ _ _ _ _ v lv hv h1 h2 w => by
    rw [rval_D hv] at w ⊢
    exact lv_dstore F.1 F.2.1 hd h1 h2 rfl w)
theorem eo_ldcF (F : rFr p s m args c cc own D tc) {index : Nat} {v : UInt32} (hconst : (Cond.constantFloat own index v).before args s = true) (hv : b = rF v) (hd : decode cc pc = .ok (.ldc index, 2)) : rEO p l e R s m args below meth c Q D tc z0 ξ ζ nL cf M BL mi kb k 2 (.ldc index, pc, a, b, tb) := by
  subst hv
  exact fun _ _ nx _ _ _ _ _ _ _ _ hk => o_push nx (rc_and hk).2 (fun NB _ => (rF_val (ρ := ξ.2) (σ := ζ.2) v).2 NB) (fun _ _ _ _ _ _ _ _ _ w => lv_ldcf F.1 F.2.1 F.2.2.1 hconst hd (by rw [(rF_val v).1] at w; exact w))
theorem eo_dconst0 (F : rFr p s m args c cc own D tc) (hv : b = rD FP.dconst0) (hd : decode cc pc = .ok (.dconst 0, 1)) : rEO p l e R s m args below meth c Q D tc z0 ξ ζ nL cf M BL mi kb k 1 (.dconst 0, pc, a, b, tb) := by
  subst hv
  exact fun _ _ nx _ _ _ _ _ _ _ _ hk => o_push nx hk (fun NB _ => (rD_val (ρ := ξ.2) (σ := ζ.2) FP.dconst0).2 NB) (fun _ _ _ _ _ _ _ _ _ w => lv_dconst0 F.1 F.2.1 hd (by rw [(rD_val FP.dconst0).1] at w; exact w))
end FloatEO

/-! NEW CELLS, NATIVES, CONSTANTS -/
theorem rfill_s (v n : Nat) : rfill v (n + 1) = v + rfill v n * 2 ^ 72 := by
  show Nat.add v (Nat.shiftLeft (rfill v n) 72) = _
  rw [show Nat.shiftLeft (rfill v n) 72 = rfill v n * 2 ^ 72 from Nat.shiftLeft_eq _ _]
  rfl
theorem rfill_slot {v : Nat} (hv : v < 2 ^ 72) : ∀ (n j : Nat), j < n → rfill v n / 2 ^ (72 * j) % 2 ^ 72 = v := by
  intro n
  induction n with
  | zero => intro j h; omega
  | succ n ih =>
    intro j h
    rw [rfill_s]
    cases j with
    | zero => rw [Nat.mul_zero, Nat.pow_zero, Nat.div_one, Nat.add_mul_mod_self_right, Nat.mod_eq_of_lt hv]
    | succ j =>
      rw [Nat.mul_add, Nat.mul_one, Nat.add_comm (72 * j), Nat.pow_add, ← Nat.div_div_eq_div_mul]
      rw [Nat.add_mul_div_right _ _ (by decide), Nat.div_eq_of_lt hv, Nat.zero_add]
      exact ih j (by omega)
/-- the number of a type's first value -/
def rdef (ty : FieldType) : Nat := match ty with
  | .long => 18446744073709551616
  | .double => 36893488147419103232
  | .float => 34359738368
  | .object _ => 8589934592
  | .array _ => 8589934592
  | _ => 0
theorem rdef_val {ρ : Nat → Nat} {σ : Nat → Int32} (ty : FieldType) : rval ρ σ (rdef ty) = defaultValue ty := by
  cases ty <;> simp [rdef, rval, defaultValue] <;> rfl
theorem rdef_wf (ty : FieldType) (NB : Nat) : rwf NB (rdef ty) := by
  cases ty <;> intro h1 h2 <;> simp [rdef] at h1 h2
theorem rdef_lt (ty : FieldType) : rdef ty < 2 ^ 72 := by
  cases ty <;> simp [rdef]
section MEOs
variable {p : Program} {l : Launch} {e : Env} {R : Room} {s : State} {m : MethodId} {args : Array Value} {below : List Frame} {meth : Method} {c : Code} {Q : State → Prop} {D : va_G} {tc : Nat → ClassId} {z0 : Nat → Prop} {ξ : rX} {ζ : rZ} {σ : Nat → Int32} {nL : Nat} {cf : rCF} {M : rM} {BL : Nat → Nat} {mi : Nat} {kb : rB} {k : rK}
variable {cc : ByteArray} {pc a b : Nat} {tb : List (Nat × Nat)} {own : String}
/-- a blank object's number -/
def rBlank (c ci N : Nat) (ty : Nat → FieldType) : Prop := c % 65536 = ci + 1 ∧ rlen c = N ∧ ∀ j, j < N → rslot c (rsh j) = rdef (ty j)
theorem eo_new (F : rFr p s m args c cc own D tc) (hR1 : mcel M mi ≤ R.cells) (hR2 : mslo M mi ≤ R.slots) {C : String} {T : u_T} {N ci index : Nat} {ty : Nat → FieldType} (hC : rCl ci C T N ty) (hB : rBlank (BL (ci + 1)) ci N ty) (hclink : (Cond.classLink own index C).before args s = true) (hins : (Cond.instantiable C N).before args s = true) (hinit : (Cond.initialized C).before args s = true)
    (ha : a = ci + 1) (hci : ci < 63) (hd : decode cc pc = .ok (.new index, 3)) : rEO p l e R s m args below meth c Q D tc z0 ξ ζ nL cf M BL mi kb k 3 (.new index, pc, a, b, tb) := by
  subst ha
  intro ih rest nx _ ls st h NB nc ns env hk
  obtain ⟨X, hX⟩ : ∃ X, rc (Nat.beq (ci + 1) 0) X (oNew (BL (ci + 1)) (mcel M mi) (mslo M mi) ih rest ls st h NB nc ns env) = true := ⟨rc (Nat.ble (rcats st) (nat_lit 16)) (rc (Nat.ble (Nat.succ nc) (mcel M mi)) (rc (Nat.ble (Nat.add ns 6) (mslo M mi)) (k (Nat.add (nat_lit 1180591620717411303424) b) h NB env) false) false) false, hk⟩
  rcases rc_or hX with ⟨q, -⟩ | ⟨-, hk⟩
  · have := beq_eq q; omega
  obtain ⟨b1, b2, b3⟩ := hB
  refine o_new hR1 hR2 b1 (by omega) (by omega) b2 (fun j hj NB => by rw [b3 j hj]; exact rdef_wf _ _) nx hk fun {σ} ρ H locs nc ns LS st g1 g2 g3 w => ?_
  obtain ⟨hc, hin, hty, hnm⟩ := hC
  have hK := F.2.2.2.2.1.1 ci _ hc
  refine W.newcK F.1 F.2.1 F.2.2.1 hclink hins hinit rfl hd g1 g2 hK.2.1 rfl fun H' kC e1 e2 e3 e4 => w H' (by rw [e3]; exact Nat.lt_succ_self _) e4 ⟨_, hc, t_OB.to (u_born ty F.2.2.2.1 hin hK e1 e2 hty) fun j hj => ?_⟩
  show _ = vp_V (rfl_ ρ σ (BL (ci + 1))) j
  have := rfl_at (ρ := ρ) (σ := σ) (c := BL (ci + 1)) (k := j) (by rw [b2]; exact hj)
  rw [b3 j hj, rdef_val] at this
  simp [vp_V, this]
/-- of an array's kind: 64 and the type's number -/
theorem eo_newarray (F : rFr p s m args c cc own D tc) (hR1 : mcel M mi ≤ R.cells) (hR2 : mslo M mi ≤ R.slots) {t : ClassFile.ArrayType} {x : Nat} (hx : atk t = 64 + x) (hx2 : x < 12) (hty : rtyA x = newarray.typeOf t) (hv : atv t = rdef (rtyA x)) (hbytes : ∀ n, n ≤ 10000 → n * componentBytes (newarray.typeOf t) ≤ 536870912) (harr : (Cond.arrayClass (newarray.typeOf t)).before args s = true)
    (hd : decode cc pc = .ok (.newarray t, 2)) : rEO p l e R s m args below meth c Q D tc z0 ξ ζ nL cf M BL mi kb k 2 (.newarray t, pc, a, b, tb) := by
  intro ih rest nx _ ls st h NB nc ns env hk
  refine o_newA (kd := atk t) (v := rdef (rtyA x)) (dv := defaultValue (rtyA x)) (fun ρ σ => rdef_val _) (fun NB => rdef_wf _ NB) (fun n j hj => by rw [hv]; exact rfill_slot (rdef_lt _) n j hj) hR1 hR2 (by omega) (by omega) nx hk fun H locs nc ns LS st n h1 h2 h3 h4 w => ?_
  obtain ⟨n1, n2⟩ := ofNat_clamp (j := n) (by omega)
  refine W.newa F.1 F.2.1 harr rfl hd rfl n2 (by rw [n1]; exact hbytes n h1) h2 (by rw [n1]; exact h3) fun cA kA comp e1 e2 e3 => ?_
  have ec : cA = tc x := by
    have := F.2.2.2.2.2.2.1 x hx2
    rw [hty] at this
    exact Option.some.inj (e1.symm.trans this)
  refine W.cs rfl (by rw [n1]) (w _ (by simp) (fun y hy => by rw [Array.getElem?_push, if_neg (Nat.ne_of_lt hy)]) ?_)
  rw [n1, hx, show 64 + x - 64 = x by omega, ← ec, hty, ← arrV_new]
  simp
theorem eo_anewarray (F : rFr p s m args c cc own D tc) (hR1 : mcel M mi ≤ R.cells) (hR2 : mslo M mi ≤ R.slots) {C : String} {x index : Nat} (hx : a = 64 + x) (hx2 : x < 12) (hty : rtyA x = .object C) (hclink : (Cond.classLink own index C).before args s = true) (hover : (Cond.arrayOver (.object C)).before args s = true)
    (hd : decode cc pc = .ok (.anewarray index, 3)) : rEO p l e R s m args below meth c Q D tc z0 ξ ζ nL cf M BL mi kb k 3 (.anewarray index, pc, a, b, tb) := by
  intro ih rest nx _ ls st h NB nc ns env hk
  refine o_newA (kd := a) (v := 8589934592) (dv := .null) (fun ρ σ => rval_null) (fun NB => rwf_null) rnulls_slot hR1 hR2 (by omega) (by omega) nx hk fun H locs nc ns LS st n h1 h2 h3 h4 w => ?_
  obtain ⟨n1, n2⟩ := ofNat_clamp (j := n) (by omega)
  refine W.anew F.1 F.2.1 F.2.2.1 hclink hover rfl hd rfl n2 (by rw [n1]; omega) h2 (by rw [n1]; exact h3) fun cA kA comp e1 e2 e3 e4 => ?_
  have ec : cA = tc x := by
    have := F.2.2.2.2.2.2.1 x hx2
    rw [hty] at this
    exact Option.some.inj (e1.symm.trans this)
  refine W.cs rfl (by rw [n1]) (w _ (by simp) (fun y hy => by rw [Array.getElem?_push, if_neg (Nat.ne_of_lt hy)]) ?_)
  rw [n1, hx, show 64 + x - 64 = x by omega, ← ec, ← arrV_new]
  simp
theorem eo_anewarrayA (F : rFr p s m args c cc own D tc) (hR1 : mcel M mi ≤ R.cells) (hR2 : mslo M mi ≤ R.slots) {t : FieldType} {x index : Nat} (hx : a = 64 + x) (hx2 : x < 12) (hty : rtyA x = .array t) (hclink : (Cond.classLink own index (FieldType.array t).toString).before args s = true) (hover : (Cond.arrayOver (.array t)).before args s = true)
    (hd : decode cc pc = .ok (.anewarray index, 3)) : rEO p l e R s m args below meth c Q D tc z0 ξ ζ nL cf M BL mi kb k 3 (.anewarray index, pc, a, b, tb) := by
  intro ih rest nx _ ls st h NB nc ns env hk
  refine o_newA (kd := a) (v := 8589934592) (dv := .null) (fun ρ σ => rval_null) (fun NB => rwf_null) rnulls_slot hR1 hR2 (by omega) (by omega) nx hk fun H locs nc ns LS st n h1 h2 h3 h4 w => ?_
  obtain ⟨n1, n2⟩ := ofNat_clamp (j := n) (by omega)
  refine W.anewA F.1 F.2.1 F.2.2.1 hclink hover rfl hd rfl n2 (by rw [n1]; omega) h2 (by rw [n1]; exact h3) fun cA kA comp e1 e2 e3 e4 => ?_
  have ec : cA = tc x := by
    have := F.2.2.2.2.2.2.1 x hx2
    rw [hty] at this
    exact Option.some.inj (e1.symm.trans this)
  refine W.cs rfl (by rw [n1]) (w _ (by simp) (fun y hy => by rw [Array.getElem?_push, if_neg (Nat.ne_of_lt hy)]) ?_)
  rw [n1, hx, show 64 + x - 64 = x by omega, ← ec, ← arrV_new]
  simp
/-- constants -/
theorem eo_ldc (F : rFr p s m args c cc own D tc) {index : Nat} {v : Int32} (hconst : (Cond.constant own index v).before args s = true) (hv : i32n v = b) (hd : decode cc pc = .ok (.ldc index, 2)) : rEO p l e R s m args below meth c Q D tc z0 ξ ζ nL cf M BL mi kb k 2 (.ldc index, pc, a, b, tb) :=
  fun _ _ nx _ _ _ _ _ _ _ _ hk => o_push nx (rc_and hk).2 (fun _ _ => (i32n_ofInt (ρ := ξ.2) (σ := ζ.2) _ hv).2 _) (fun _ _ _ _ _ _ _ _ _ w => lv_ldc F.1 F.2.1 F.2.2.1 hconst hd (by rw [(i32n_ofInt _ hv).1] at w; exact w))
theorem eo_ldc_w (F : rFr p s m args c cc own D tc) {index : Nat} {v : Int32} (hconst : (Cond.constant own index v).before args s = true) (hv : i32n v = b) (hd : decode cc pc = .ok (.ldc_w index, 3)) : rEO p l e R s m args below meth c Q D tc z0 ξ ζ nL cf M BL mi kb k 3 (.ldc_w index, pc, a, b, tb) :=
  fun _ _ nx _ _ _ _ _ _ _ _ hk => o_push nx (rc_and hk).2 (fun _ _ => (i32n_ofInt (ρ := ξ.2) (σ := ζ.2) _ hv).2 _) (fun _ _ _ _ _ _ _ _ _ w => lv_ldcw F.1 F.2.1 F.2.2.1 hconst hd (by rw [(i32n_ofInt _ hv).1] at w; exact w))
theorem eo_ldc2_w (F : rFr p s m args c cc own D tc) {index : Nat} {v : Int64} (hconst : (Cond.constantLong own index v).before args s = true) (hL : risL b = true) (hv : Int64.ofNat b = v) (hd : decode cc pc = .ok (.ldc2_w index, 3)) : rEO p l e R s m args below meth c Q D tc z0 ξ ζ nL cf M BL mi kb k 3 (.ldc2_w index, pc, a, b, tb) :=
  fun _ _ nx _ _ _ _ _ _ _ _ hk => o_push nx (rc_and hk).2 (fun _ _ => rwf_L hL) (fun _ _ _ _ _ _ _ _ _ w => lv_ldc2 F.1 F.2.1 F.2.2.1 hconst hd (by rw [rval_L hL, hv] at w; exact w))
/-- a string of the pool, a static field: the value is an external cell -/
theorem rval_ext {ρ : Nat → Nat} {x : Nat} (hx : x < 64) (hρ : ∀ a, a < 64 → ρ a = ξ.2 a) : rval ρ σ (4294967296 + x) = .ref (ξ.2 x) := by
  rw [rval_ref (by omega) (by omega), show 4294967296 + x - 4294967296 = x by omega, hρ x hx]
theorem eo_ldcS (F : rFr p s m args c cc own D tc) {index x : Nat} {tx : String} (hZ : vk_R own index tx (ξ.2 x) s) (hx : x < 64) (hb : b = 4294967296 + x) (hd : decode cc pc = .ok (.ldc index, 2)) : rEO p l e R s m args below meth c Q D tc z0 ξ ζ nL cf M BL mi kb k 2 (.ldc index, pc, a, b, tb) := by
  subst hb
  exact fun _ _ nx _ _ _ _ _ _ _ _ hk => o_push nx (rc_and hk).2 (fun NB hN => fun _ _ => (show 4294967296 + x < NB by omega)) (fun ρ _ _ _ _ _ _ hρ _ w => va_ldcS F.1 F.2.1 F.2.2.1 hZ hd (by rw [rval_ext hx hρ] at w; exact w))
theorem eo_getstaticR (F : rFr p s m args c cc own D tc) {index x : Nat} {C n d ref : String} (hZ : va_Z C n d (.ref (ξ.2 x)) z0 s s.heap) (hlink : (Cond.fieldLink own index ref n d).before args s = true) (hsame : ∀ x, s.fieldFound? C n d = some x → s.fieldFound? ref n d = some x) (hx : x < 64) (hb : b = 4294967296 + x) (hd : decode cc pc = .ok (.getstatic index, 3)) : rEO p l e R s m args below meth c Q D tc z0 ξ ζ nL cf M BL mi kb k 3 (.getstatic index, pc, a, b, tb) := by
  subst hb
  exact fun _ _ nx _ _ _ _ _ _ _ _ hk => o_push nx hk (fun NB hN => fun _ _ => (show 4294967296 + x < NB by omega)) (fun ρ _ _ _ _ _ _ hρ hS w => va_gets F.1 F.2.1 hZ hS F.2.2.1 hlink hsame hd (by rw [rval_ext hx hρ] at w; exact w))
theorem eo_getstaticI (F : rFr p s m args c cc own D tc) {index : Nat} {v : Int32} {C n d ref : String} (hZ : va_Z C n d (.int v) z0 s s.heap) (hlink : (Cond.fieldLink own index ref n d).before args s = true) (hsame : ∀ x, s.fieldFound? C n d = some x → s.fieldFound? ref n d = some x) (hv : i32n v = b) (hd : decode cc pc = .ok (.getstatic index, 3)) : rEO p l e R s m args below meth c Q D tc z0 ξ ζ nL cf M BL mi kb k 3 (.getstatic index, pc, a, b, tb) :=
  fun _ _ nx _ _ _ _ _ _ _ _ hk => o_push nx hk (fun _ _ => (i32n_ofInt (ρ := ξ.2) (σ := ζ.2) _ hv).2 _) (fun _ _ _ _ _ _ _ _ hS w => va_gets F.1 F.2.1 hZ hS F.2.2.1 hlink hsame hd (by rw [(i32n_ofInt _ hv).1] at w; exact w))
end MEOs

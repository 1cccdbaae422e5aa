/-! ONE ELEMENT OF A CODE LIST IS WELL: where the small machine's word behind it is good, its word here is good -/
def rEO (p : Program) (l : Launch) (e : Env) (R : Room) (s : State) (m : MethodId) (args : Array Value) (below : List Frame) (meth : Method) (c : Code) (Q : State → Prop) (D : va_G) (tc : Nat → ClassId) (z0 : Nat → Prop) (ξ : rX) (ζ : rZ) (nL : Nat)
    (cf : rCF) (M : rM) (BL : Nat → Nat) (mi : Nat) (kb : rB) (k : rK) (ln : Nat) (el : rEl) : Prop :=
  ∀ (ih : rG) (rest : rCode), rNx (rW p l e R s m args below meth c Q) D tc z0 ξ ζ s.heap nL (el.2.1 + ln) ih rest → (∀ t, rNx (rW p l e R s m args below meth c Q) D tc z0 ξ ζ s.heap nL t ih (rdrop t (mcode M mi))) →
    ∀ ls st h NB nc ns env, (rop el.1).1 cf M BL mi kb k ih el rest ls st h NB nc ns env = true → rGo (rW p l e R s m args below meth c Q) D tc z0 ξ ζ s.heap nL el.2.1 ls st h NB nc ns env
/-- what is known of the symbols -/
theorem i32n_ofInt (n : Int32) {b : Nat} (h : i32n n = b) {ρ : Nat → Nat} {σ : Nat → Int32} : rval ρ σ b = .int n ∧ ∀ NB, rwf NB b := by
  have hb : b < 4294967296 := by rw [← h]; exact i32n_lt n
  exact ⟨by rw [rval_lit hb, ← h, i32n_of], fun NB => rwf_lt hb⟩
section EOs
variable {p : Program} {l : Launch} {e : Env} {R : Room} {s : State} {m : MethodId} {args : Array Value} {below : List Frame} {meth : Method} {c : Code} {Q : State → Prop} {D : va_G} {tc : Nat → ClassId} {z0 : Nat → Prop} {ξ : rX} {ζ : rZ} {σ : Nat → Int32} {nL : Nat} {cf : rCF} {M : rM} {BL : Nat → Nat} {mi : Nat} {kb : rB} {k : rK}
variable {cc : ByteArray} {pc a b : Nat} {tb : List (Nat × Nat)}
theorem eo_nop (hkb : ∀ pc ls st h NB nc ns env, kb pc ls st h NB nc ns env = true → rGo (rW p l e R s m args below meth c Q) D tc z0 ξ ζ s.heap nL pc ls st h NB nc ns env) : rEO p l e R s m args below meth c Q D tc z0 ξ ζ nL cf M BL mi kb k 0 (.nop, pc, a, b, tb) :=
  fun _ _ _ _ _ _ _ _ _ _ _ hk => hkb _ _ _ _ _ _ _ _ hk
theorem eo_iconst (he : p.tables.exec = Jvm.exec) (hb : c.code = cc) {n : Int} (hd : decode cc pc = .ok (.iconst n, 1)) (hv : i32n (Int32.ofInt n) = b) : rEO p l e R s m args below meth c Q D tc z0 ξ ζ nL cf M BL mi kb k 1 (.iconst n, pc, a, b, tb) :=
  fun _ _ nx _ _ _ _ _ _ _ _ hk => o_push nx hk (fun _ _ => (i32n_ofInt (ρ := ξ.2) (σ := ζ.2) _ hv).2 _) (fun _ _ _ _ _ _ _ _ _ w => lv_iconst he hb hd rfl (by rw [(i32n_ofInt _ hv).1] at w; exact w))
theorem eo_bipush (he : p.tables.exec = Jvm.exec) (hb : c.code = cc) {n : Int} (hd : decode cc pc = .ok (.bipush n, 2)) (hv : i32n (Int8.ofInt n).toInt32 = b) : rEO p l e R s m args below meth c Q D tc z0 ξ ζ nL cf M BL mi kb k 2 (.bipush n, pc, a, b, tb) :=
  fun _ _ nx _ _ _ _ _ _ _ _ hk => o_push nx hk (fun _ _ => (i32n_ofInt (ρ := ξ.2) (σ := ζ.2) _ hv).2 _) (fun _ _ _ _ _ _ _ _ _ w => lv_bipush he hb hd rfl (by rw [(i32n_ofInt _ hv).1] at w; exact w))
theorem eo_sipush (he : p.tables.exec = Jvm.exec) (hb : c.code = cc) {n : Int} (hd : decode cc pc = .ok (.sipush n, 3)) (hv : i32n (Int16.ofInt n).toInt32 = b) : rEO p l e R s m args below meth c Q D tc z0 ξ ζ nL cf M BL mi kb k 3 (.sipush n, pc, a, b, tb) :=
  fun _ _ nx _ _ _ _ _ _ _ _ hk => o_push nx hk (fun _ _ => (i32n_ofInt (ρ := ξ.2) (σ := ζ.2) _ hv).2 _) (fun _ _ _ _ _ _ _ _ _ w => lv_sipush he hb hd rfl (by rw [(i32n_ofInt _ hv).1] at w; exact w))
theorem eo_lconst (he : p.tables.exec = Jvm.exec) (hb : c.code = cc) {n : Fin 2} (hd : decode cc pc = .ok (.lconst n, 1)) (hv : 18446744073709551616 + (n : Nat) = b) : rEO p l e R s m args below meth c Q D tc z0 ξ ζ nL cf M BL mi kb k 1 (.lconst n, pc, a, b, tb) := by
  have hn := n.isLt
  have hL : risL b = true := by
    show Nat.beq (b / 18446744073709551616) 1 = true
    rw [show b / 18446744073709551616 = 1 by omega]; rfl
  have hL2 : Int64.ofNat b = Int64.ofNat (n : Nat) := by
    rw [← hv, ← L_mod]
    show Int64.ofNat ((18446744073709551616 + (n : Nat)) % 18446744073709551616) = _
    rw [show (18446744073709551616 + (n : Nat)) % 18446744073709551616 = n by omega]
  exact fun _ _ nx _ _ _ _ _ _ _ _ hk => o_push nx hk (fun _ _ => rwf_L hL) (fun _ _ _ _ _ _ _ _ _ w => lv_lconst he hb hd rfl (by rw [rval_L hL, hL2] at w; exact w))
theorem eo_null (he : p.tables.exec = Jvm.exec) (hb : c.code = cc) (hd : decode cc pc = .ok (.aconst_null, 1)) : rEO p l e R s m args below meth c Q D tc z0 ξ ζ nL cf M BL mi kb k 1 (.aconst_null, pc, a, b, tb) :=
  fun _ _ nx _ _ _ _ _ _ _ _ hk => o_push nx hk (fun _ _ => rwf_null) (fun _ _ _ _ _ _ _ _ _ w => lv_null he hb hd (by rw [show (nat_lit 8589934592) = 8589934592 from rfl, rval_null] at w; exact w))
theorem risL_lt {c : Nat} (h : risL c = true) : c < 73786976294838206464 := by have := (risL_in h).2; omega
theorem risR_lt {c : Nat} (h : risR c = true) : c < 73786976294838206464 := by have := (risR_in h).2; omega
theorem eo_iload_n (he : p.tables.exec = Jvm.exec) (hb : c.code = cc) {i : Fin 4} (hd : decode cc pc = .ok (.iload_n i, 1)) : rEO p l e R s m args below meth c Q D tc z0 ξ ζ nL cf M BL mi kb k 1 (.iload_n i, pc, a, b, tb) :=
  fun _ _ nx _ _ _ _ _ _ _ _ hk => o_load (P := risI) (fun _ => risI_lt) nx hk (fun _ _ _ _ _ _ _ v hv hl w => lv_iload_n he hb hd rfl (by rw [rval_I hv] at hl; exact hl) (by rw [rval_I hv] at w; exact w))
theorem eo_iload (he : p.tables.exec = Jvm.exec) (hb : c.code = cc) {i : Nat} (hd : decode cc pc = .ok (.iload i, 2)) : rEO p l e R s m args below meth c Q D tc z0 ξ ζ nL cf M BL mi kb k 2 (.iload i, pc, a, b, tb) :=
  fun _ _ nx _ _ _ _ _ _ _ _ hk => o_load (P := risI) (fun _ => risI_lt) nx hk (fun _ _ _ _ _ _ _ v hv hl w => lv_iload he hb hd (by rw [rval_I hv] at hl; exact hl) (by rw [rval_I hv] at w; exact w))
theorem eo_lload_n (he : p.tables.exec = Jvm.exec) (hb : c.code = cc) {i : Fin 4} (hd : decode cc pc = .ok (.lload_n i, 1)) : rEO p l e R s m args below meth c Q D tc z0 ξ ζ nL cf M BL mi kb k 1 (.lload_n i, pc, a, b, tb) :=
  fun _ _ nx _ _ _ _ _ _ _ _ hk => o_load (P := risL) (fun _ => risL_lt) nx hk (fun _ _ _ _ _ _ _ v hv hl w => lv_lload_n he hb hd rfl (by rw [rval_L hv] at hl; exact hl) (by rw [rval_L hv] at w; exact w))
theorem eo_lload (he : p.tables.exec = Jvm.exec) (hb : c.code = cc) {i : Nat} (hd : decode cc pc = .ok (.lload i, 2)) : rEO p l e R s m args below meth c Q D tc z0 ξ ζ nL cf M BL mi kb k 2 (.lload i, pc, a, b, tb) :=
  fun _ _ nx _ _ _ _ _ _ _ _ hk => o_load (P := risL) (fun _ => risL_lt) nx hk (fun _ _ _ _ _ _ _ v hv hl w => lv_lload he hb hd (by rw [rval_L hv] at hl; exact hl) (by rw [rval_L hv] at w; exact w))
theorem rval_R2 {ρ : Nat → Nat} {σ : Nat → Int32} {v : Nat} (hv : risR v = true) : rval ρ σ v = .null ∨ ∃ q : Nat, rval ρ σ v = .ref q := by
  obtain ⟨h1, h2⟩ := risR_in hv
  rcases Nat.lt_or_ge v 8589934592 with q | q
  · exact Or.inr ⟨_, rval_ref h1 q⟩
  · rw [Nat.le_antisymm h2 q]; exact Or.inl rval_null
theorem eo_aload_n (he : p.tables.exec = Jvm.exec) (hb : c.code = cc) {i : Fin 4} (hd : decode cc pc = .ok (.aload_n i, 1)) : rEO p l e R s m args below meth c Q D tc z0 ξ ζ nL cf M BL mi kb k 1 (.aload_n i, pc, a, b, tb) :=
  fun _ _ nx _ _ _ _ _ _ _ _ hk => o_load (P := risR) (fun _ => risR_lt) nx hk (fun {σ} ρ _ _ _ _ _ _ v hv hl w => by
    rcases rval_R2 (ρ := ρ) (σ := σ) hv with q | ⟨x, q⟩ <;> rw [q] at hl w
    · exact lv_aload_nN he hb hd rfl hl w
    · exact lv_aload_n he hb hd rfl hl w)
theorem eo_aload (he : p.tables.exec = Jvm.exec) (hb : c.code = cc) {i : Nat} (hd : decode cc pc = .ok (.aload i, 2)) : rEO p l e R s m args below meth c Q D tc z0 ξ ζ nL cf M BL mi kb k 2 (.aload i, pc, a, b, tb) :=
  fun _ _ nx _ _ _ _ _ _ _ _ hk => o_load (P := risR) (fun _ => risR_lt) nx hk (fun {σ} ρ _ _ _ _ _ _ v hv hl w => by
    rcases rval_R2 (ρ := ρ) (σ := σ) hv with q | ⟨x, q⟩ <;> rw [q] at hl w
    · exact lv_aloadN he hb hd hl w
    · exact lv_aload he hb hd hl w)
theorem eo_istore_n (he : p.tables.exec = Jvm.exec) (hb : c.code = cc) (hmx : mloc M mi = nL) {i : Fin 4} (hd : decode cc pc = .ok (.istore_n i, 1)) : rEO p l e R s m args below meth c Q D tc z0 ξ ζ nL cf M BL mi kb k 1 (.istore_n i, pc, a, b, tb) :=
  fun _ _ nx _ _ _ _ _ _ _ _ hk => o_store hmx nx hk (fun ρ _ _ _ _ _ _ v lv hv h1 h2 w => by
    rw [rval_I hv] at w ⊢
    exact lv_istore_n he hb hd rfl h1 h2 rfl w)
theorem eo_istore (he : p.tables.exec = Jvm.exec) (hb : c.code = cc) (hmx : mloc M mi = nL) {i : Nat} (hd : decode cc pc = .ok (.istore i, 2)) : rEO p l e R s m args below meth c Q D tc z0 ξ ζ nL cf M BL mi kb k 2 (.istore i, pc, a, b, tb) :=
  fun _ _ nx _ _ _ _ _ _ _ _ hk => o_store hmx nx hk (fun ρ _ _ _ _ _ _ v lv hv h1 h2 w => by
    rw [rval_I hv] at w ⊢
    exact lv_istore he hb hd h1 h2 rfl w)
theorem eo_astore_n (he : p.tables.exec = Jvm.exec) (hb : c.code = cc) (hmx : mloc M mi = nL) {i : Fin 4} (hd : decode cc pc = .ok (.astore_n i, 1)) : rEO p l e R s m args below meth c Q D tc z0 ξ ζ nL cf M BL mi kb k 1 (.astore_n i, pc, a, b, tb) :=
  fun _ _ nx _ _ _ _ _ _ _ _ hk => o_store hmx nx hk (fun {σ} ρ _ _ _ _ _ _ v lv hv h1 h2 w => by
    rcases rval_R2 (ρ := ρ) (σ := σ) hv with q | ⟨x, q⟩ <;> rw [q] at w ⊢
    · exact lv_astore_nN he hb hd rfl h1 h2 rfl w
    · exact lv_astore_n he hb hd rfl h1 h2 rfl w)
theorem eo_astore (he : p.tables.exec = Jvm.exec) (hb : c.code = cc) (hmx : mloc M mi = nL) {i : Nat} (hd : decode cc pc = .ok (.astore i, 2)) : rEO p l e R s m args below meth c Q D tc z0 ξ ζ nL cf M BL mi kb k 2 (.astore i, pc, a, b, tb) :=
  fun _ _ nx _ _ _ _ _ _ _ _ hk => o_store hmx nx hk (fun {σ} ρ _ _ _ _ _ _ v lv hv h1 h2 w => by
    rcases rval_R2 (ρ := ρ) (σ := σ) hv with q | ⟨x, q⟩ <;> rw [q] at w ⊢
    · exact lv_astoreN he hb hd h1 h2 rfl w
    · exact lv_astore he hb hd h1 h2 rfl w)
theorem eo_lstore_n (he : p.tables.exec = Jvm.exec) (hb : c.code = cc) (hmx : mloc M mi = nL) {i : Fin 4} (hd : decode cc pc = .ok (.lstore_n i, 1)) : rEO p l e R s m args below meth c Q D tc z0 ξ ζ nL cf M BL mi kb k 1 (.lstore_n i, pc, a, b, tb) :=
  fun _ _ nx _ _ _ _ _ _ _ _ hk => o_store2 hmx nx hk (fun ρ _ _ _ _ _ _ v lv hv h1 h2 w => by
    rw [rval_L hv] at w ⊢
    exact lv_lstore_n he hb hd rfl h1 h2 rfl w)
theorem eo_lstore (he : p.tables.exec = Jvm.exec) (hb : c.code = cc) (hmx : mloc M mi = nL) {i : Nat} (hd : decode cc pc = .ok (.lstore i, 2)) : rEO p l e R s m args below meth c Q D tc z0 ξ ζ nL cf M BL mi kb k 2 (.lstore i, pc, a, b, tb) :=
  fun _ _ nx _ _ _ _ _ _ _ _ hk => o_store2 hmx nx hk (fun ρ _ _ _ _ _ _ v lv hv h1 h2 w => by
    rw [rval_L hv] at w ⊢
    exact lv_lstore he hb hd h1 h2 rfl w)
theorem eo_iinc (he : p.tables.exec = Jvm.exec) (hb : c.code = cc) (hmx : mloc M mi = nL) {i : Nat} {n : Int} (hd : decode cc pc = .ok (.iinc i n, 3)) (hv : i32n (Int32.ofInt n) = b) : rEO p l e R s m args below meth c Q D tc z0 ξ ζ nL cf M BL mi kb k 3 (.iinc i n, pc, a, b, tb) :=
  fun _ _ nx _ _ _ _ _ _ _ _ hk => o_iinc (by rw [← hv]; exact i32n_lt _) hmx nx hk (fun _ _ _ _ _ _ x lv k h1 h2 h3 w => by
    rw [← hv, i32n_of] at w
    exact lv_iinc he hb hd h1 h2 rfl h3 rfl w)
theorem eo_iadd (he : p.tables.exec = Jvm.exec) (hb : c.code = cc) (hd : decode cc pc = .ok (.iadd, 1)) : rEO p l e R s m args below meth c Q D tc z0 ξ ζ nL cf M BL mi kb k 1 (.iadd, pc, a, b, tb) :=
  fun _ _ nx _ _ _ _ _ _ _ _ hk => o_add nx hk (fun _ _ _ _ _ _ _ _ w => lv_iadd he hb hd w)
theorem eo_isub (he : p.tables.exec = Jvm.exec) (hb : c.code = cc) (hd : decode cc pc = .ok (.isub, 1)) : rEO p l e R s m args below meth c Q D tc z0 ξ ζ nL cf M BL mi kb k 1 (.isub, pc, a, b, tb) :=
  fun _ _ nx _ _ _ _ _ _ _ _ hk => o_ar2 (F := fun x y => x - y) (fun _ _ _ hb => ⟨lt_of_r32 _, f_sub _ hb⟩) bsub_ok nx hk (fun _ _ _ _ _ _ _ _ w => lv_isub he hb hd w)
theorem eo_imul (he : p.tables.exec = Jvm.exec) (hb : c.code = cc) (hd : decode cc pc = .ok (.imul, 1)) : rEO p l e R s m args below meth c Q D tc z0 ξ ζ nL cf M BL mi kb k 1 (.imul, pc, a, b, tb) :=
  fun _ _ nx _ _ _ _ _ _ _ _ hk => o_ar2 (F := fun x y => x * y) (fun _ _ _ _ => ⟨lt_of_r32 _, f_mul _ _⟩) bmul_ok nx hk (fun _ _ _ _ _ _ _ _ w => lv_imul he hb hd w)
theorem eo_idiv (he : p.tables.exec = Jvm.exec) (hb : c.code = cc) (hd : decode cc pc = .ok (.idiv, 1)) : rEO p l e R s m args below meth c Q D tc z0 ξ ζ nL cf M BL mi kb k 1 (.idiv, pc, a, b, tb) :=
  fun _ _ nx _ _ _ _ _ _ _ _ hk => o_div (F := fun x y => x / y) (fun _ _ _ _ => ⟨i32n_lt _, i32n_of _⟩) bdiv_ok nx hk (fun _ _ _ _ _ _ _ _ hy w => lv_idiv he hb hd hy w)
theorem eo_irem (he : p.tables.exec = Jvm.exec) (hb : c.code = cc) (hd : decode cc pc = .ok (.irem, 1)) : rEO p l e R s m args below meth c Q D tc z0 ξ ζ nL cf M BL mi kb k 1 (.irem, pc, a, b, tb) :=
  fun _ _ nx _ _ _ _ _ _ _ _ hk => o_div (F := fun x y => x - x / y * y) (fun _ _ _ _ => ⟨i32n_lt _, i32n_of _⟩) brem_ok nx hk (fun _ _ _ _ _ _ _ _ hy w => lv_irem he hb hd hy w)
theorem eo_iand (he : p.tables.exec = Jvm.exec) (hb : c.code = cc) (hy : rSy ζ.2) (hd : decode cc pc = .ok (.iand, 1)) : rEO p l e R s m args below meth c Q D tc z0 ξ ζ nL cf M BL mi kb k 1 (.iand, pc, a, b, tb) :=
  fun _ _ nx _ _ _ _ _ _ _ _ hk => o_and hy nx hk (fun _ _ _ _ _ _ _ _ w => lv_iand he hb hd w)
theorem eo_ior (he : p.tables.exec = Jvm.exec) (hb : c.code = cc) (hd : decode cc pc = .ok (.ior, 1)) : rEO p l e R s m args below meth c Q D tc z0 ξ ζ nL cf M BL mi kb k 1 (.ior, pc, a, b, tb) :=
  fun _ _ nx _ _ _ _ _ _ _ _ hk => o_bin2 (F := fun x y => x ||| y) (fun _ _ ha hb => ⟨lt_lor ha hb, f_or _ _⟩) nx hk (fun _ _ _ _ _ _ _ _ w => lv_ior he hb hd w)
theorem eo_ixor (he : p.tables.exec = Jvm.exec) (hb : c.code = cc) (hd : decode cc pc = .ok (.ixor, 1)) : rEO p l e R s m args below meth c Q D tc z0 ξ ζ nL cf M BL mi kb k 1 (.ixor, pc, a, b, tb) :=
  fun _ _ nx _ _ _ _ _ _ _ _ hk => o_bin2 (F := fun x y => x ^^^ y) (fun _ _ ha hb => ⟨lt_xor ha hb, f_xor _ _⟩) nx hk (fun _ _ _ _ _ _ _ _ w => lv_ixor he hb hd w)
theorem eo_ishl (he : p.tables.exec = Jvm.exec) (hb : c.code = cc) (hd : decode cc pc = .ok (.ishl, 1)) : rEO p l e R s m args below meth c Q D tc z0 ξ ζ nL cf M BL mi kb k 1 (.ishl, pc, a, b, tb) :=
  fun _ _ nx _ _ _ _ _ _ _ _ hk => o_bin2 (F := fun x y => x <<< (y &&& 31)) (fun _ _ _ _ => ⟨i32n_lt _, i32n_of _⟩) nx hk (fun _ _ _ _ _ _ _ _ w => lv_ishl he hb hd w)
theorem eo_ishr (he : p.tables.exec = Jvm.exec) (hb : c.code = cc) (hd : decode cc pc = .ok (.ishr, 1)) : rEO p l e R s m args below meth c Q D tc z0 ξ ζ nL cf M BL mi kb k 1 (.ishr, pc, a, b, tb) :=
  fun _ _ nx _ _ _ _ _ _ _ _ hk => o_bin2 (F := fun x y => x >>> (y &&& 31)) (fun _ _ _ _ => ⟨i32n_lt _, i32n_of _⟩) nx hk (fun _ _ _ _ _ _ _ _ w => lv_ishr he hb hd w)
theorem eo_ineg (he : p.tables.exec = Jvm.exec) (hb : c.code = cc) (hd : decode cc pc = .ok (.ineg, 1)) : rEO p l e R s m args below meth c Q D tc z0 ξ ζ nL cf M BL mi kb k 1 (.ineg, pc, a, b, tb) :=
  fun _ _ nx _ _ _ _ _ _ _ _ hk => o_un (F := fun x => -x) (fun _ ha => ⟨lt_of_r32 _, f_min ha⟩) nx hk (fun _ _ _ _ _ _ _ w => lv_ineg he hb hd w)
theorem eo_i2c (he : p.tables.exec = Jvm.exec) (hb : c.code = cc) (hy : rSy ζ.2) (hd : decode cc pc = .ok (.i2c, 1)) : rEO p l e R s m args below meth c Q D tc z0 ξ ζ nL cf M BL mi kb k 1 (.i2c, pc, a, b, tb) :=
  fun _ _ nx _ _ _ _ _ _ _ _ hk => o_i2c hy nx hk (fun _ _ _ _ _ _ _ w => lv_i2c he hb hd rfl w)
theorem eo_i2l (he : p.tables.exec = Jvm.exec) (hb : c.code = cc) (hd : decode cc pc = .ok (.i2l, 1)) : rEO p l e R s m args below meth c Q D tc z0 ξ ζ nL cf M BL mi kb k 1 (.i2l, pc, a, b, tb) :=
  fun _ _ nx _ _ _ _ _ _ _ _ hk => o_i2l nx hk (fun _ _ _ _ _ _ _ w => lv_i2l he hb hd rfl w)
theorem eo_ladd (he : p.tables.exec = Jvm.exec) (hb : c.code = cc) (hd : decode cc pc = .ok (.ladd, 1)) : rEO p l e R s m args below meth c Q D tc z0 ξ ζ nL cf M BL mi kb k 1 (.ladd, pc, a, b, tb) :=
  fun _ _ nx _ _ _ _ _ _ _ _ hk => o_l2 (F := fun x y => x + y) (fun a b => by rw [show Nat.add a b = a + b from rfl, Int64.ofNat_add]) nx hk (fun _ _ _ _ _ _ _ _ w => lv_ladd he hb hd w)
theorem eo_lmul (he : p.tables.exec = Jvm.exec) (hb : c.code = cc) (hd : decode cc pc = .ok (.lmul, 1)) : rEO p l e R s m args below meth c Q D tc z0 ξ ζ nL cf M BL mi kb k 1 (.lmul, pc, a, b, tb) :=
  fun _ _ nx _ _ _ _ _ _ _ _ hk => o_l2 (F := fun x y => x * y) (fun a b => by rw [show Nat.mul a b = a * b from rfl, Int64.ofNat_mul]) nx hk (fun _ _ _ _ _ _ _ _ w => lv_lmul he hb hd w)
theorem eo_lcmp (he : p.tables.exec = Jvm.exec) (hb : c.code = cc) (hd : decode cc pc = .ok (.lcmp, 1)) : rEO p l e R s m args below meth c Q D tc z0 ξ ζ nL cf M BL mi kb k 1 (.lcmp, pc, a, b, tb) :=
  fun _ _ nx _ _ _ _ _ _ _ _ hk => o_lcmp nx hk (fun _ _ _ _ _ _ _ _ w => W.lcmp he hb hd w)
theorem eo_dup (he : p.tables.exec = Jvm.exec) (hb : c.code = cc) (hd : decode cc pc = .ok (.dup, 1)) : rEO p l e R s m args below meth c Q D tc z0 ξ ζ nL cf M BL mi kb k 1 (.dup, pc, a, b, tb) :=
  fun _ _ nx _ _ _ _ _ _ _ _ hk => o_dup nx hk (fun _ _ _ _ _ _ _ h1 w => lv_dup he hb hd h1 w)
theorem eo_pop (he : p.tables.exec = Jvm.exec) (hb : c.code = cc) (hd : decode cc pc = .ok (.pop, 1)) : rEO p l e R s m args below meth c Q D tc z0 ξ ζ nL cf M BL mi kb k 1 (.pop, pc, a, b, tb) :=
  fun _ _ nx _ _ _ _ _ _ _ _ hk => o_pop nx hk (fun _ _ _ _ _ _ _ h1 w => lv_pop he hb hd h1 w)
theorem eo_dup_x1 (he : p.tables.exec = Jvm.exec) (hb : c.code = cc) (hd : decode cc pc = .ok (.dup_x1, 1)) : rEO p l e R s m args below meth c Q D tc z0 ξ ζ nL cf M BL mi kb k 1 (.dup_x1, pc, a, b, tb) :=
  fun _ _ nx _ _ _ _ _ _ _ _ hk => o_dupx1 nx hk (fun _ _ _ _ _ _ _ _ h1 h2 w => lv_dup_x1 he hb hd h1 h2 w)
theorem eo_dup2 (he : p.tables.exec = Jvm.exec) (hb : c.code = cc) (hd : decode cc pc = .ok (.dup2, 1)) : rEO p l e R s m args below meth c Q D tc z0 ξ ζ nL cf M BL mi kb k 1 (.dup2, pc, a, b, tb) :=
  fun _ _ nx _ _ _ _ _ _ _ _ hk => o_dup2 nx hk (fun _ _ _ _ _ _ _ _ h1 h2 w => lv_dup2_11 he hb hd h1 h2 w)
theorem eo_ifCond (he : p.tables.exec = Jvm.exec) (hb : c.code = cc) {cd : ClassFile.Cond} {off : Int} (hd : decode cc pc = .ok (.ifCond cd off, 3)) (ht : (pc : Int) + off = (a : Int)) : rEO p l e R s m args below meth c Q D tc z0 ξ ζ nL cf M BL mi kb k 3 (.ifCond cd off, pc, a, b, tb) :=
  fun _ _ nx nt _ _ _ _ _ _ _ hk => o_if nx (nt a) hk (fun _ _ _ _ _ _ _ wt wf => by
    cases cd with
    | eq => exact lv_if_eq he hb hd ht wt wf
    | ne => exact lv_if_ne he hb hd ht wt (fun q => wf (fun n => n q))
    | lt => exact lv_if_lt he hb hd ht wt wf
    | ge => exact lv_if_ge he hb hd ht wt wf
    | gt => exact lv_if_gt he hb hd ht wt wf
    | le => exact lv_if_le he hb hd ht wt wf)
theorem eo_if_icmp (he : p.tables.exec = Jvm.exec) (hb : c.code = cc) {cd : ClassFile.Cond} {off : Int} (hd : decode cc pc = .ok (.if_icmp cd off, 3)) (ht : (pc : Int) + off = (a : Int)) : rEO p l e R s m args below meth c Q D tc z0 ξ ζ nL cf M BL mi kb k 3 (.if_icmp cd off, pc, a, b, tb) :=
  fun _ _ nx nt _ _ _ _ _ _ _ hk => o_icmp nx (nt a) hk (fun _ _ _ _ _ _ _ _ wt wf => by
    cases cd with
    | eq => exact lv_icmp_eq he hb hd ht wt wf
    | ne => exact lv_icmp_ne he hb hd ht wt (fun q => wf (fun n => n q))
    | lt => exact lv_icmp_lt he hb hd ht wt wf
    | ge => exact lv_icmp_ge he hb hd ht wt wf
    | gt => exact lv_icmp_gt he hb hd ht wt wf
    | le => exact lv_icmp_le he hb hd ht wt wf)
theorem eo_if_acmp (he : p.tables.exec = Jvm.exec) (hb : c.code = cc) {cd : ClassFile.ACond} {off : Int} (hd : decode cc pc = .ok (.if_acmp cd off, 3)) (ht : (pc : Int) + off = (a : Int)) : rEO p l e R s m args below meth c Q D tc z0 ξ ζ nL cf M BL mi kb k 3 (.if_acmp cd off, pc, a, b, tb) := by
  cases cd with
  | eq => exact fun _ _ nx nt _ _ _ _ _ _ _ hk => o_acmp (nt a) nx hk (fun _ _ _ _ _ _ _ _ wt wf => lv_acmp_eq he hb hd ht wt wf)
  | ne => exact fun _ _ nx nt _ _ _ _ _ _ _ hk => o_acmp nx (nt a) hk (fun _ _ _ _ _ _ _ _ wt wf => lv_acmp_ne he hb hd ht wf wt)
theorem eo_ifnull (he : p.tables.exec = Jvm.exec) (hb : c.code = cc) {off : Int} (hd : decode cc pc = .ok (.ifnull off, 3)) (ht : (pc : Int) + off = (a : Int)) : rEO p l e R s m args below meth c Q D tc z0 ξ ζ nL cf M BL mi kb k 3 (.ifnull off, pc, a, b, tb) :=
  fun _ _ nx nt _ _ _ _ _ _ _ hk => o_null (nt a) nx hk (fun _ _ _ _ _ _ w => lv_ifnullN he hb hd ht w) (fun _ _ _ _ _ _ _ w => lv_ifnull he hb hd w)
theorem eo_ifnonnull (he : p.tables.exec = Jvm.exec) (hb : c.code = cc) {off : Int} (hd : decode cc pc = .ok (.ifnonnull off, 3)) (ht : (pc : Int) + off = (a : Int)) : rEO p l e R s m args below meth c Q D tc z0 ξ ζ nL cf M BL mi kb k 3 (.ifnonnull off, pc, a, b, tb) :=
  fun _ _ nx nt _ _ _ _ _ _ _ hk => o_null nx (nt a) hk (fun _ _ _ _ _ _ w => lv_ifnonnullN he hb hd w) (fun _ _ _ _ _ _ _ w => lv_ifnonnull he hb hd ht w)
theorem eo_goto (he : p.tables.exec = Jvm.exec) (hb : c.code = cc) {off : Int} (hd : decode cc pc = .ok (.goto off, 3)) (ht : (pc : Int) + off = (a : Int)) : rEO p l e R s m args below meth c Q D tc z0 ξ ζ nL cf M BL mi kb k 3 (.goto off, pc, a, b, tb) :=
  fun _ _ _ nt _ _ _ _ _ _ _ hk => fun σ ρ H locs LS I => lv_goto he hb hd ht (nt a _ _ _ _ _ _ _ hk ρ H locs LS I)
end EOs

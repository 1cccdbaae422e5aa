/-! ELEMENTS OVER CELLS -/
def rtyA : Nat → FieldType := fun t => match t with
  | 0 => .int
  | 1 => .boolean
  | 2 => .char
  | 3 => .int
  | 4 => .int
  | 5 => .int
  | 6 => .object "Orbithouse$Command"
  | 7 => .object "Orbithouse$Command"
  | 8 => .object "Orbithouse$ReportRow"
  | 9 => .object "Orbithouse$Procedure"
  | 10 => .array .int
  | 11 => .array .int
  | _ => .object "Orbithouse$Command"
/-- what is known of a class of objects -/
def rCl (ci : Nat) (C : String) (T : u_T) (N : Nat) (ty : Nat → FieldType) : Prop := vwCl[ci]? = some (C, T, N) ∧ (∀ w ∈ u_ws C T N, w ∈ gT) ∧ (∀ k, k < N → parseFieldDescriptor (T k).2.2.1 = some (ty k)) ∧ ∀ a, a < N → ∀ b, b < N → a ≠ b → (T a).2.1 ≠ (T b).2.1
def rTc (s : State) (tc : Nat → ClassId) : Prop := ∀ t, t < 12 → s.vm.findClass ("[" ++ (rtyA t).toString) = some (tc t)
def rAs (s : State) (D : va_G) (tc : Nat → ClassId) : Prop := ∀ kd kv, rasg kd kv = true → ∃ (k kv' kcomp : Class) (comp : ClassId) (t : FieldType), s.vm.classes[tc (kd - 64)]? = some k ∧ k.kind = .array comp t ∧ t.isReference = true ∧ s.vm.classes[comp]? = some kcomp ∧ s.vm.classes[rcls D tc kv]? = some kv' ∧ s.vm.assignable (rcls D tc kv) comp = true
/-- what is known where a frame stands -/
def rFr (p : Program) (s : State) (m : MethodId) (args : Array Value) (c : Code) (cc : ByteArray) (own : String) (D : va_G) (tc : Nat → ClassId) : Prop :=
  p.tables.exec = Jvm.exec ∧ c.code = cc ∧ s.vm.findClass own = some m.cls ∧ (∀ w ∈ gT, w.before args s = true) ∧ va_K D vwCl [] s ∧ rArr s tc rtyA ∧ rTc s tc ∧ rAs s D tc
theorem fits_int {v : Value} (h : fits .int v = true) : ∃ x, v = .int x := by
  cases v <;> first | exact ⟨_, rfl⟩ | cases h
theorem fits_bool {v : Value} (h : fits .boolean v = true) : ∃ x, v = .int x := by
  cases v <;> first | exact ⟨_, rfl⟩ | cases h
theorem fits_char {v : Value} (h : fits .char v = true) : ∃ x, v = .int x := by
  cases v <;> first | exact ⟨_, rfl⟩ | cases h
theorem fits_long {v : Value} (h : fits .long v = true) : ∃ x, v = .long x := by
  cases v <;> first | exact ⟨_, rfl⟩ | cases h
theorem arrV_set {cA : ClassId} {n : Nat} {f : Nat → Value} {j : Nat} {v : Value} : (arrV cA n f).setSlot j v = arrV cA n (updV f j v) := by rw [arrV_store]
theorem in_arrV {cA : ClassId} {n : Nat} {f : Nat → Value} {j : Nat} (h1 : j < n) (h2 : j < 2147483648) : ¬ (Int32.ofNat j < 0 ∨ (arrV cA n f).slots.size ≤ (Int32.ofNat j).toNatClampNeg) := by
  obtain ⟨a, b⟩ := ofNat_clamp h2
  rw [arrV_size, a]
  exact fun q => q.elim b (fun r => by omega)
theorem rVm_arrV {cA : ClassId} {n : Nat} {f : Nat → Value} : rVm (arrV cA n f) := ⟨fun x => by (cases x), fun _ x => by (cases x)⟩
section HEOs
variable {p : Program} {l : Launch} {e : Env} {R : Room} {s : State} {m : MethodId} {args : Array Value} {below : List Frame} {meth : Method} {c : Code} {Q : State → Prop} {D : va_G} {tc : Nat → ClassId} {z0 : Nat → Prop} {ξ : rX} {ζ : rZ} {σ : Nat → Int32} {nL : Nat} {cf : rCF} {M : rM} {BL : Nat → Nat} {mi : Nat} {kb : rB} {k : rK}
variable {cc : ByteArray} {pc a b : Nat} {tb : List (Nat × Nat)} {own : String}
theorem eo_getfield (F : rFr p s m args c cc own D tc) {ref C : String} {T : u_T} {N ci j index : Nat} {ty : Nat → FieldType} (hC : rCl ci C T N ty) (hj : j < N) (hlink : (Cond.fieldLink own index ref (T j).2.1 (T j).2.2.1).before args s = true)
    (hsame : ∀ x, s.fieldFound? (T j).1 (T j).2.1 (T j).2.2.1 = some x → s.fieldFound? ref (T j).2.1 (T j).2.2.1 = some x) (ha : a = ci + 1) (hci : ci < 63) (hbb : b = rsh j) (hd : decode cc pc = .ok (.getfield index, 3)) : rEO p l e R s m args below meth c Q D tc z0 ξ ζ nL cf M BL mi kb k 3 (.getfield index, pc, a, b, tb) := by
  subst ha hbb
  intro ih rest nx _ ls st h NB nc ns env hk
  have hk : rc (Nat.beq (ci + 1) 0) false (oGet (ci + 1) (rsh j) ih rest ls st h NB nc ns env) = true := hk
  obtain ⟨-, hk⟩ := rc_nand hk
  refine o_get (by omega) (by omega) nx hk fun H locs nc ns LS st q fs v hat hv w => ?_
  obtain ⟨hc, hin, -, -⟩ := hC
  obtain ⟨r, h1, cell, q1, q2, q3, q4⟩ := hat
  have h1 : vwCl[ci]? = some r := h1
  have hr : r = (C, T, N) := Option.some.inj (h1.symm.trans hc)
  subst hr
  obtain ⟨hS, hfc, kC, hkC, hkind⟩ := F.2.2.2.2.1.1 ci _ hc
  obtain ⟨cf, kf, fi, f, hi, hsl⟩ := hS j hj
  refine W.getf F.1 F.2.1 F.2.2.1 hlink (hsame _ hi) (u_facts hfc hkC (u_lays F.2.2.2.1 hin hj) hi).1 q1 q3.1 (v := v) ?_ rfl rfl hd w
  rw [hsl, show D.2 ci = D.2 (ci + 1 - 1) from rfl, q4 j hj]
  simp [vp_V, hv]
theorem eo_putfield (F : rFr p s m args c cc own D tc) (hy : rSy ζ.2) {ref C : String} {T : u_T} {N ci j index : Nat} {ty : Nat → FieldType} (hC : rCl ci C T N ty) (hj : j < N) (hlink : (Cond.fieldLink own index ref (T j).2.1 (T j).2.2.1).before args s = true)
    (hsame : ∀ x, s.fieldFound? (T j).1 (T j).2.1 (T j).2.2.1 = some x → s.fieldFound? ref (T j).2.1 (T j).2.2.1 = some x) (hfin : (T j).2.2.2 = false ∨ ((T j).2.2.2 = true ∧ meth.name = "<init>" ∧ (T j).1 = own)) (ht : rtyOk (rtb tb) (ty j)) (ha : a = ci + 1) (hci : ci < 63) (hbb : b = rsh j) (hd : decode cc pc = .ok (.putfield index, 3)) : rEO p l e R s m args below meth c Q D tc z0 ξ ζ nL cf M BL mi kb k 3 (.putfield index, pc, a, b, tb) := by
  subst ha hbb
  intro ih rest nx _ ls st h NB nc ns env hk
  have hk : rc (Nat.beq (ci + 1) 0) false (oPut (rtb tb) (ci + 1) (rsh j) ih rest ls st h NB nc ns env) = true := hk
  obtain ⟨-, hk⟩ := rc_nand hk
  refine o_put hy.2.2 ht (by omega) (by omega) nx hk fun H locs nc ns LS st q fs v hat hz hS0 hn hfit hl w => ?_
  obtain ⟨hc, hin, hty, hnm⟩ := hC
  have hap := va_apart (own := own) F.2.2.2.1 hin ty hty hnm F.2.2.2.2.1 hc
  obtain ⟨r, h1, cell, q1, q2, q3, q4⟩ := hat
  have h1 : vwCl[ci]? = some r := h1
  have hr : r = (C, T, N) := Option.some.inj (h1.symm.trans hc)
  subst hr
  obtain ⟨hS, hfc, kC, hkC, hkind⟩ := F.2.2.2.2.1.1 ci _ hc
  obtain ⟨cf, kf, fi, f, hi, hsl⟩ := hS j hj
  have hlay := F.2.2.2.1 _ (hin _ (u_in_lay hj))
  unfold u_lay at hlay
  have hst := (u_facts hfc hkC (u_lays F.2.2.2.1 hin hj) hi).1
  have q4 : ∀ k, k < N → cell.slots[D.2 ci k]? = some (vp_V fs k) := q4
  have q2 : cell.cls = D.1 ci := q2
  have fin : ∀ (H' : Heap) (locs1 : List Loc), H'[q]? = some (cell.setSlot (D.2 ci j) v) → H'.size = H.size → (∀ x : Nat, x ≠ q → H'[x]? = H[x]?) → va_S z0 s.heap H' locs1 → W p l e R s m args below meth c H' locs1 nc ns Q (F0 m (pc + 3) LS st) := fun H' locs1 e1 e2 e3 e4 =>
    w H' locs1 e2 e3 ⟨_, hc, t_OB.to (V := updV (vp_V fs) j v) ⟨_, e1, q2, q3, t_set q4 hap hj v⟩ (fun i _ => vp_updV_set hl v i)⟩ e4
  rcases hfin with hfin | ⟨hfin, hin2, hdecl⟩
  · rw [if_neg (by rw [hfin]; decide)] at hlay
    have h6 := u_store hfc hkC hkind hlay hi (hty j hj) hn hfit
    refine W.putK F.1 F.2.1 (f := f) ⟨F.2.2.1, hlink, ⟨_, _, _, hsame _ hi⟩, hst⟩ (by rw [q2]; exact h6) q1 q3 (by rw [hsl]; exact k2_hasslot (q4 j hj)) rfl rfl hd fun H' e1 e2 e3 => ?_
    rw [hsl] at e1 ⊢
    exact fin H' _ e1 e2 e3 (hS0.put e2 e3 hz)
  · rw [if_pos hfin] at hlay
    have hcf : m.cls = cf := by
      obtain ⟨_, _, c', _, _, _, -, -, hf', -, -, -, hown2, -⟩ := Cond.laysFinal_spec hlay
      have e1 : c' = cf := by have := hi.symm.trans hf'; simp at this; exact this.1.symm
      rw [hdecl] at hown2
      rw [← e1]; exact Option.some.inj (F.2.2.1.symm.trans hown2)
    have h6 := u_fits hfc hkC hkind (Or.inr hlay) hi (hty j hj) hn hfit
    refine W.putFinK F.1 F.2.1 F.2.2.1 hlink (hsame _ hi) hst hcf hin2 (by rw [q2]; exact h6) q1 q3 (by rw [hsl]; exact k2_hasslot (q4 j hj)) rfl rfl hd fun H' e1 e2 e3 => ?_
    rw [hsl] at e1 ⊢
    exact fin H' _ e1 e2 e3 (hS0.put e2 e3 hz)
theorem eo_iaload (F : rFr p s m args c cc own D tc) (hd : decode cc pc = .ok (.iaload, 1)) : rEO p l e R s m args below meth c Q D tc z0 ξ ζ nL cf M BL mi kb k 1 (.iaload, pc, a, b, tb) :=
  fun _ _ nx _ _ _ _ _ _ _ _ hk => o_ald (by decide) nx hk fun _ _ _ _ _ _ _ cell _ _ h1 h2 h3 h4 h5 w => W.iald F.1 F.2.1 h1 (F.2.2.2.2.2.1 0 (by decide) cell h2 h3.2) h3.1 h4 h5 rfl rfl hd w
theorem eo_caload (F : rFr p s m args c cc own D tc) (hd : decode cc pc = .ok (.caload, 1)) : rEO p l e R s m args below meth c Q D tc z0 ξ ζ nL cf M BL mi kb k 1 (.caload, pc, a, b, tb) :=
  fun _ _ nx _ _ _ _ _ _ _ _ hk => o_ald (by decide) nx hk fun _ _ _ _ _ _ _ cell _ _ h1 h2 h3 h4 h5 w => W.cald F.1 F.2.1 h1 (F.2.2.2.2.2.1 2 (by decide) cell h2 h3.2) h3.1 h4 h5 rfl rfl hd w
theorem eo_baload (F : rFr p s m args c cc own D tc) (hd : decode cc pc = .ok (.baload, 1)) : rEO p l e R s m args below meth c Q D tc z0 ξ ζ nL cf M BL mi kb k 1 (.baload, pc, a, b, tb) := by
  intro ih rest nx nt ls st h NB nc ns env hk
  obtain ⟨-, hk⟩ := rc_nand hk
  exact o_ald (by decide) nx hk fun _ _ _ _ _ _ _ cell _ _ h1 h2 h3 h4 h5 w => W.zald F.1 F.2.1 h1 (F.2.2.2.2.2.1 1 (by decide) cell h2 h3.2) h3.1 h4 h5 rfl rfl hd w
theorem eo_aaload (F : rFr p s m args c cc own D tc) (ha : 70 ≤ a ∧ a ≤ 76) (hd : decode cc pc = .ok (.aaload, 1)) : rEO p l e R s m args below meth c Q D tc z0 ξ ζ nL cf M BL mi kb k 1 (.aaload, pc, a, b, tb) := by
  have hr : (rtyA (a - 64)).isReference = true := by
    obtain ⟨h1, h2⟩ := ha
    obtain ⟨x, rfl⟩ : ∃ x, a = 70 + x := ⟨a - 70, by omega⟩
    match x, h2 with
    | 0, _ => rfl
    | 1, _ => rfl
    | 2, _ => rfl
    | 3, _ => rfl
    | 4, _ => rfl
    | 5, _ => rfl
    | 6, _ => rfl
    | n + 7, h => omega
  exact fun _ _ nx _ _ _ _ _ _ _ _ hk => o_ald (kd := a) (by omega) nx hk fun _ _ _ _ _ _ _ cell _ _ h1 h2 h3 h4 h5 w => W.aald F.1 F.2.1 h1 (F.2.2.2.2.2.1 (a - 64) (by omega) cell h2 h3.2) hr h3.1 h4 h5 rfl rfl hd w
theorem eo_iastore (F : rFr p s m args c cc own D tc) (hy : rSy ζ.2) (hd : decode cc pc = .ok (.iastore, 1)) : rEO p l e R s m args below meth c Q D tc z0 ξ ζ nL cf M BL mi kb k 1 (.iastore, pc, a, b, tb) :=
  fun _ _ nx _ _ _ _ _ _ _ _ hk => o_ast (t := 0) (kd := 64) (ty := .int) hy.2.2 rfl (by decide) (by decide) nx hk fun H locs nc ns LS st q n f j v h1 h2 h3 h4 h5 h6 h7 w => by
    obtain ⟨x, rfl⟩ := fits_int h5
    refine W.iast F.1 F.2.1 h1 (F.2.2.2.2.2.1 0 (by decide) _ (Or.inl rfl) rVm_arrV.2) rVm_arrV.1 (in_arrV h6 h7) rfl rfl hd fun H' e1 e2 e3 => w H' _ e2 e3 ?_ (h3.put e2 e3 h2)
    rw [(ofNat_clamp h7).1, arrV_set] at e1
    exact e1
theorem eo_bastore (F : rFr p s m args c cc own D tc) (hy : rSy ζ.2) (hd : decode cc pc = .ok (.bastore, 1)) : rEO p l e R s m args below meth c Q D tc z0 ξ ζ nL cf M BL mi kb k 1 (.bastore, pc, a, b, tb) :=
  fun _ _ nx _ _ _ _ _ _ _ _ hk => o_ast (t := 1) (kd := 65) (ty := .boolean) hy.2.2 rfl (by decide) (by decide) nx hk fun H locs nc ns LS st q n f j v h1 h2 h3 h4 h5 h6 h7 w => by
    obtain ⟨x, rfl⟩ := fits_bool h5
    refine W.zast F.1 F.2.1 h1 (F.2.2.2.2.2.1 1 (by decide) _ (Or.inl rfl) rVm_arrV.2) rVm_arrV.1 (in_arrV h6 h7) rfl rfl hd fun H' e1 e2 e3 => w H' _ e2 e3 ?_ (h3.put e2 e3 h2)
    rw [(ofNat_clamp h7).1, h4, arrV_set] at e1
    exact e1
theorem eo_castore (F : rFr p s m args c cc own D tc) (hy : rSy ζ.2) (hd : decode cc pc = .ok (.castore, 1)) : rEO p l e R s m args below meth c Q D tc z0 ξ ζ nL cf M BL mi kb k 1 (.castore, pc, a, b, tb) :=
  fun _ _ nx _ _ _ _ _ _ _ _ hk => o_ast (t := 2) (kd := 66) (ty := .char) hy.2.2 rfl (by decide) (by decide) nx hk fun H locs nc ns LS st q n f j v h1 h2 h3 h4 h5 h6 h7 w => by
    obtain ⟨x, rfl⟩ := fits_char h5
    refine W.cast F.1 F.2.1 h1 (F.2.2.2.2.2.1 2 (by decide) _ (Or.inl rfl) rVm_arrV.2) rVm_arrV.1 (in_arrV h6 h7) rfl rfl hd fun H' e1 e2 e3 => w H' _ e2 e3 ?_ (h3.put e2 e3 h2)
    rw [(ofNat_clamp h7).1, h4, arrV_set] at e1
    exact e1
theorem eo_aastore (F : rFr p s m args c cc own D tc) (ha : 70 ≤ a ∧ a ≤ 74) (hd : decode cc pc = .ok (.aastore, 1)) : rEO p l e R s m args below meth c Q D tc z0 ξ ζ nL cf M BL mi kb k 1 (.aastore, pc, a, b, tb) := by
  have hr : a ≤ 73 → ∃ C, rtyA (a - 64) = .object C := fun h2 => by
    obtain ⟨x, rfl⟩ : ∃ x, a = 70 + x := ⟨a - 70, by omega⟩
    match x, h2 with
    | 0, _ => exact ⟨_, rfl⟩
    | 1, _ => exact ⟨_, rfl⟩
    | 2, _ => exact ⟨_, rfl⟩
    | 3, _ => exact ⟨_, rfl⟩
    | n + 4, h => omega
  refine fun _ _ nx _ _ _ _ _ _ _ _ hk => o_aast (kd := a) (by omega) (by omega) nx hk (fun h73 H locs nc ns LS st q n f j h1 h2 h3 h4 h5 w => ?_) (fun H locs nc ns LS st q n f j v kv cv h0 hv hcl hvs h1 h2 h3 h4 h5 w => ?_)
  · obtain ⟨C, hC⟩ := hr h73
    refine va_WaastN F.1 F.2.1 (C := C) h1 (by rw [← hC]; exact F.2.2.2.2.2.1 (a - 64) (by omega) _ (Or.inl rfl) rVm_arrV.2) rVm_arrV.1 (in_arrV h4 h5) rfl rfl hd fun H' e1 e2 e3 => w H' _ e2 e3 ?_ (h3.put e2 e3 h2)
    rw [(ofNat_clamp h5).1, arrV_set] at e1
    exact e1
  · obtain ⟨kk, kv', kcomp, comp, t, r1, r2, r3, r4, r5, r6⟩ := F.2.2.2.2.2.2.2 a kv h0
    obtain ⟨n1, n2⟩ := ofNat_clamp h5
    refine W.aast F.1 F.2.1 h1 rVm_arrV.2 rVm_arrV.1 r1 r2 r3 r4 ⟨n2, by rw [n1, arrV_size]; exact h4⟩ hv hvs (by rw [hcl]; exact r5) (by rw [hcl]; exact r6) rfl rfl hd fun H' e1 e2 e3 => w H' _ e2 e3 ?_ (h3.put e2 e3 h2)
    rw [(ofNat_clamp h5).1, arrV_set] at e1
    exact e1
theorem eo_arraylength (F : rFr p s m args c cc own D tc) (hd : decode cc pc = .ok (.arraylength, 1)) : rEO p l e R s m args below meth c Q D tc z0 ξ ζ nL cf M BL mi kb k 1 (.arraylength, pc, a, b, tb) :=
  fun _ _ nx _ _ _ _ _ _ _ _ hk => o_len nx hk fun _ _ _ _ _ _ _ cell t _ h0 h1 h2 h3 h4 w => W.alen F.1 F.2.1 h1 (F.2.2.2.2.2.1 t h0 cell h2 h3.2) h4 rfl rfl hd w
end HEOs

/-! ONE INSTRUCTION, over cells -/
section HeapOps
variable {Wf : rWf} {D : va_G} {tc : Nat → ClassId} {z0 : Nat → Prop} {ξ : rX} {ζ : rZ} {σ : Nat → Int32} {H0 : Heap} {nL pc pc' tgt : Nat} {ih : rG} {rest tg : rCode} {ls st : List Nat} {h : rH} {NB nc ns : Nat} {env : rE}
theorem rslot72 {v : Nat} (h : v < 73786976294838206464) : v < 2 ^ 72 := Nat.lt_trans h (by decide)
theorem rty_lt {t v : Nat} (h : rty t v = true) : v < 73786976294838206464 := by
  rcases rc_or h with ⟨-, h⟩ | ⟨-, h⟩
  · rcases risI_or h with q | q <;> omega
  rcases rc_or h with ⟨-, h⟩ | ⟨-, h⟩
  · have := (risR_in h).2; omega
  rcases rc_or h with ⟨-, h⟩ | ⟨-, h⟩
  · have : v ≤ 1 := ble_le h; omega
  rcases rc_or h with ⟨-, h⟩ | ⟨-, h⟩
  · rcases rc_or h with ⟨a, -⟩ | ⟨-, h⟩
    · have : v ≤ 65535 := ble_le a; omega
    · obtain ⟨a, -⟩ := rc_and h; have := rsym_in a; omega
  rcases rc_or h with ⟨-, h⟩ | ⟨-, h⟩
  · rcases rc_or h with ⟨h, -⟩ | ⟨-, h⟩
    · have := (risL_in h).2; omega
    · have : v / 18446744073709551616 = 3 := beq_eq h; omega
  · have : v / 18446744073709551616 = 2 := beq_eq h; omega
/-- a field's type by the small machine's number -/
def rtyOk (t : Nat) (ty : FieldType) : Prop := match t with
  | 0 => ty = .int
  | 1 => ty = .boolean
  | 2 => ty = .char
  | 3 => ty = .long
  | 4 => (∃ C, ty = .object C) ∨ ∃ u, ty = .array u
  | _ => ty = .double
/-- symbols 16 to 31 are chars -/
theorem rty_fits {ρ : Nat → Nat} {t v : Nat} {ty : FieldType} (hc : rChS σ) (ht : rtyOk t ty) (hq : rty t v = true) : narrow ty (rval ρ σ v) = rval ρ σ v ∧ fits ty (rval ρ σ v) = true := by
  rcases rc_or hq with ⟨e, h⟩ | ⟨n0, h0⟩
  · have e : t = 0 := beq_eq e
    subst e
    have ht : ty = .int := ht
    subst ht
    rw [rval_I h]
    exact ⟨rfl, rfl⟩
  rcases rc_or h0 with ⟨e, h⟩ | ⟨n4, h4⟩
  · have e : t = 4 := beq_eq e
    subst e
    have hr : rval ρ σ v = .null ∨ ∃ a, rval ρ σ v = .ref a := by
      obtain ⟨q1, q2⟩ := risR_in h
      rcases Nat.lt_or_ge v 8589934592 with r | r
      · exact Or.inr ⟨_, rval_ref q1 r⟩
      · rw [Nat.le_antisymm q2 r]; exact Or.inl rval_null
    rcases (show (∃ C, ty = .object C) ∨ ∃ u, ty = .array u from ht) with ⟨C, e⟩ | ⟨u, e⟩ <;> subst e <;> rcases hr with e2 | ⟨a, e2⟩ <;> rw [e2] <;> exact ⟨rfl, rfl⟩
  rcases rc_or h4 with ⟨e, h⟩ | ⟨n1, h1⟩
  · have e : t = 1 := beq_eq e
    subst e
    have ht : ty = .boolean := ht
    subst ht
    have hv : v ≤ 1 := ble_le h
    rcases Nat.lt_or_ge v 1 with q | q
    · have : v = 0 := by omega
      subst this
      exact ⟨rfl, rfl⟩
    · have : v = 1 := by omega
      subst this
      exact ⟨rfl, rfl⟩
  rcases rc_or h1 with ⟨e, h⟩ | ⟨n2, h2⟩
  · have e : t = 2 := beq_eq e
    subst e
    have ht : ty = .char := ht
    subst ht
    rcases rc_or h with ⟨a, -⟩ | ⟨-, g⟩
    · have hv : v ≤ 65535 := ble_le a
      rw [rval_lit (by omega)]
      exact pk_charN (by omega)
    · obtain ⟨a, b⟩ := rc_and g
      obtain ⟨c1, c2⟩ := rc_and b
      rw [rval_I (risI_sym a), rint_sym a]
      exact hc _ (ble_le c1) (ble_le c2)
  rcases rc_or h2 with ⟨e, h⟩ | ⟨n3, h3⟩
  · have e : t = 3 := beq_eq e
    subst e
    have ht : ty = .long := ht
    subst ht
    rcases rc_or h with ⟨h, -⟩ | ⟨-, h⟩
    · rw [rval_L h]
      exact ⟨rfl, rfl⟩
    · have hv : v / 18446744073709551616 = 3 := beq_eq h
      have q1 : ¬ v < 4294967296 := by omega
      have q2 : ¬ v < 8589934592 := by omega
      have q3 : ¬ v < 17179869184 := by omega
      have q4 : ¬ v < 34359738368 := by omega
      have q5 : ¬ v < 18446744073709551616 := by omega
      have q6 : ¬ v < 36893488147419103232 := by omega
      have q7 : ¬ v < 55340232221128654848 := by omega
      simp only [rval, q1, q2, q3, q4, q5, q6, q7, if_false]
      exact ⟨rfl, rfl⟩
  · have m0 := beq_ne n0
    have m1 := beq_ne n1
    have m2 := beq_ne n2
    have m3 := beq_ne n3
    have m4 := beq_ne n4
    have ht : ty = .double := by
      match t, ht, m0, m1, m2, m3, m4 with
      | 0, _, m0, _, _, _, _ => exact absurd rfl m0
      | 1, _, _, m1, _, _, _ => exact absurd rfl m1
      | 2, _, _, _, m2, _, _ => exact absurd rfl m2
      | 3, _, _, _, _, m3, _ => exact absurd rfl m3
      | 4, _, _, _, _, _, m4 => exact absurd rfl m4
      | n + 5, ht, _, _, _, _, _ => exact ht
    subst ht
    have hv : v / 18446744073709551616 = 2 := beq_eq h3
    have q1 : ¬ v < 4294967296 := by omega
    have q2 : ¬ v < 8589934592 := by omega
    have q3 : ¬ v < 17179869184 := by omega
    have q4 : ¬ v < 34359738368 := by omega
    have q5 : ¬ v < 18446744073709551616 := by omega
    have q6 : ¬ v < 36893488147419103232 := by omega
    have q7 : v < 55340232221128654848 := by omega
    simp only [rval, q1, q2, q3, q4, q5, q6, q7, if_false, if_true]
    exact ⟨rfl, rfl⟩
theorem rcell_spec {o k : Nat} {q : Nat → Bool} (hk : rcell o k h NB q = true) : 4294967296 ≤ o ∧ o < NB ∧ rget h (o - 4294967296) % 65536 = k ∧ q (rget h (o - 4294967296)) = true := by
  obtain ⟨h1, h2⟩ := rc_and hk
  obtain ⟨h3, h4⟩ := rc_and h2
  obtain ⟨h5, h6⟩ := rc_and h4
  exact ⟨ble_le h1, ble_le h3, beq_eq h5, h6⟩
theorem rcellr_spec {o k : Nat} {q : Nat → Bool} (hk : rcellr o k h NB q = true) : 4294967296 ≤ o ∧ o < NB ∧ rget h (o - 4294967296) % 1024 = k ∧ q (rget h (o - 4294967296)) = true := by
  obtain ⟨h1, h2⟩ := rc_and hk
  obtain ⟨h3, h4⟩ := rc_and h2
  obtain ⟨h5, h6⟩ := rc_and h4
  exact ⟨ble_le h1, ble_le h3, beq_eq h5, h6⟩
/-- an object's cell, whether to be written or not -/
theorem rCR.obj {ρ : Nat → Nat} {c q k : Nat} {H : Heap} (hc : rCR D tc z0 ρ σ c q H) (hk : c % 1024 = k) (h1 : 1 ≤ k) (h2 : k < 64) : rat D (q, k - 1, rfl_ ρ σ c) H := by
  obtain ⟨-, a1, a2, a3, a4⟩ := hc
  rcases Nat.lt_or_ge (c % 65536) 1024 with g | g
  · have e : c % 65536 = k := by omega
    rw [← e]
    exact rat_of (a1 (by omega) (by omega)).2
  · rcases Nat.lt_or_ge (c % 65536) 1088 with g2 | g2
    · have e : c % 65536 = k + 1024 := by omega
      have := a3 (by omega) (by omega)
      rw [e, show k + 1024 - 1025 = k - 1 by omega] at this
      exact this
    · have := (a4 g2).2.1
      omega
/-- an array's cell, whether to be written or not -/
def rArr (s : State) (tc : Nat → ClassId) (tyA : Nat → FieldType) : Prop := ∀ t, t < 13 → ∀ cell : Cell, rAl tc t cell.cls → (∀ x, cell.vm ≠ .statics x) → s.isArrayOf cell (tyA t)
theorem rCR.arr {ρ : Nat → Nat} {c q k : Nat} {H : Heap} (hc : rCR D tc z0 ρ σ c q H) (hk : c % 1024 = k) (h1 : 64 ≤ k) :
    ∃ cell : Cell, H[q]? = some cell ∧ rAl tc (k - 64) cell.cls ∧ rVm cell ∧ rlen c ≤ cell.slots.size ∧ cell.slots.size.toInt32 = Int32.ofNat (rlen c) ∧ ∀ j, j < rlen c → cell.slots[j]? = some (rval ρ σ (rslot c (rsh j))) := by
  obtain ⟨-, a1, a2, a3, a4⟩ := hc
  rcases Nat.lt_or_ge (c % 65536) 1024 with g | g
  · have e : c % 65536 = k := by omega
    have := (a2 (by omega) g).2
    rw [e] at this
    exact ⟨arrV _ _ _, this, Or.inl rfl, ⟨(fun x => by cases x), (fun _ x => by cases x)⟩, (by rw [arrV_size]; exact Nat.le_refl _), (by rw [arrV_size]), fun j hj => (by rw [arrV_read _ _ hj])⟩
  · obtain ⟨b1, b2, cell, b3⟩ := a4 (by omega)
    have e : c % 65536 = k + 1024 := by omega
    rw [e, show k + 1024 - 1088 = k - 64 by omega] at b3
    exact ⟨cell, b3⟩
theorem rsh_lt {k n : Nat} (h : Nat.succ (rsh k) ≤ rsh n) : k < n := by
  rw [rsh_eq, rsh_eq] at h
  omega
theorem o_get {kd k : Nat} (h1 : 1 ≤ kd) (h2 : kd < 64) (nx : rNx Wf D tc z0 ξ ζ H0 nL pc' ih rest) (hk : oGet kd (rsh k) ih rest ls st h NB nc ns env = true)
    (row : ∀ H locs nc ns LS st (q : Nat) (fs : List Value) (v : Value), rat D (q, kd - 1, fs) H → fs[k]? = some v → Wf H locs nc ns pc' LS (v :: st) → Wf H locs nc ns pc LS (.ref q :: st)) : rGo Wf D tc z0 ξ ζ H0 nL pc ls st h NB nc ns env := by
  obtain ⟨o, st', rfl, g1⟩ := pop1_spec hk
  obtain ⟨g2, g3, g4, g50⟩ := rcellr_spec g1
  obtain ⟨g51, g5⟩ := rc_and g50
  intro σ ρ H locs LS I
  obtain ⟨c1, c2⟩ := I.1.2.2.2.2.1 (o - 4294967296) (by omega)
  have hl := rsh_lt (ble_le g51)
  have h9 : o < 8589934592 := by have := I.1.2.2.1; omega
  show Wf _ _ _ _ _ _ (rval ρ σ o :: st'.map (rval ρ σ))
  rw [rval_ref g2 h9]
  exact row _ _ _ _ _ _ _ _ _ (c1.obj g4 h1 h2) (rfl_at hl) (nx _ _ _ _ _ _ _ g5 ρ H locs LS ⟨I.1, I.2.1, mem1 I.2.2.1 (c2 k hl), I.2.2.2⟩)
theorem o_put {t kd k : Nat} {ty : FieldType} (hch : rChS ζ.2) (ht : rtyOk t ty) (h1 : 1 ≤ kd) (h2 : kd < 64) (nx : rNx Wf D tc z0 ξ ζ H0 nL pc' ih rest) (hk : oPut t kd (rsh k) ih rest ls st h NB nc ns env = true)
    (row : ∀ H locs nc ns LS st (q : Nat) (fs : List Value) (v : Value), va_at D vwCl (q, .inr (kd - 1, fs)) H → z0 q → va_S z0 H0 H locs → narrow ty v = v → fits ty v = true → k < fs.length →
      (∀ H1 locs1, H1.size = H.size → (∀ x : Nat, x ≠ q → H1[x]? = H[x]?) → va_at D vwCl (q, .inr (kd - 1, fs.set k v)) H1 → va_S z0 H0 H1 locs1 → Wf H1 locs1 nc ns pc' LS st) → Wf H locs nc ns pc LS (v :: .ref q :: st)) : rGo Wf D tc z0 ξ ζ H0 nL pc ls st h NB nc ns env := by
  obtain ⟨v, st1, rfl, g0⟩ := pop1_spec hk
  obtain ⟨o, st', rfl, g1⟩ := pop1_spec g0
  obtain ⟨g6, g7⟩ := rc_and g1
  obtain ⟨g2, g3, g4, g50⟩ := rcell_spec g7
  obtain ⟨g51, g5⟩ := rc_and g50
  have g4' : rget h (o - 4294967296) % 1024 = kd := by omega
  intro σ ρ H locs LS I
  have hch := I.2.2.2.1.sy.2.2
  have hN := I.1.2.2.1
  obtain ⟨c1, c2⟩ := I.1.2.2.2.2.1 (o - 4294967296) (by omega)
  have hl := rsh_lt (ble_le g51)
  obtain ⟨f1, f2⟩ := rty_fits (ρ := ρ) hch ht g6
  have hv := rslot72 (rty_lt g6)
  obtain ⟨h', k1, k2, k3⟩ := rset_spec h 0 1024 I.1.1 (o - 4294967296) (rput (rget h (o - 4294967296)) (rsh k) v) (Nat.zero_le _) (by omega) _ g5
  show Wf _ _ _ _ _ _ (rval ρ σ v :: rval ρ σ o :: st'.map (rval ρ σ))
  rw [rval_ref g2 (show o < 8589934592 by omega)]
  have hz := (c1.2.1 (by omega) (by omega)).1
  have hat0 := (c1.2.1 (by omega) (by omega)).2
  rw [g4] at hat0
  refine row _ _ _ _ _ _ _ _ _ hat0 hz I.2.2.2.2 f1 f2 (by rw [rfl_len]; exact hl) fun H1 locs1 z oq hat hS => ?_
  refine nx _ _ _ _ _ _ _ k1 ρ H1 locs1 LS ⟨I.1.upd (by omega) (by omega) (by rw [rkind_put]) k2 k3 z oq ?_ fun j hj => ?_, I.2.1, mem0 (mem0 I.2.2.1), I.2.2.2.1, hS⟩
  · refine ⟨by rw [z]; exact c1.1, fun _ _ => ⟨hz, ?_⟩, fun a _ => ?_, fun a _ => ?_, fun a => ?_⟩
    · rw [rkind_put, g4, rfl_put hv]; exact hat
    · rw [rkind_put] at a; omega
    · rw [rkind_put] at a; omega
    · rw [rkind_put] at a; omega
  · rw [rlen_put] at hj
    rw [rslot_put _ _ _ _ hv]
    split
    · exact I.2.2.1 v List.mem_cons_self
    · exact c2 j hj
theorem ofNat_clamp {j : Nat} (h : j < 2147483648) : (Int32.ofNat j).toNatClampNeg = j ∧ ¬ Int32.ofNat j < 0 := ⟨nI_clamp (n := j) (by simpa using h), nI_pos (n := j) (by simpa using h)⟩
theorem rconc_nat {c : Nat} {k : Nat → rE → Bool} (hk : rconc c env k = true) (he : rEN ζ σ env) : risI c = true ∧ ∃ v env', v < 4294967296 ∧ rint σ c = Int32.ofNat v ∧ rEN ζ σ env' ∧ k v env' = true := rconc_spec hk he
/-- a length fits an int, as the cells are few -/
theorem o_ald {kd : Nat} (h1 : 64 ≤ kd) (nx : rNx Wf D tc z0 ξ ζ H0 nL pc' ih rest) (hk : oAld kd ih rest ls st h NB nc ns env = true)
    (row : ∀ H locs nc ns LS st (q : Nat) (cell : Cell) (j : Int32) (v : Value), H[q]? = some cell → rAl tc (kd - 64) cell.cls → rVm cell → ¬ (j < 0 ∨ cell.slots.size ≤ j.toNatClampNeg) → cell.slots[j.toNatClampNeg]? = some v → Wf H locs nc ns pc' LS (v :: st) → Wf H locs nc ns pc LS (.int j :: .ref q :: st)) : rGo Wf D tc z0 ξ ζ H0 nL pc ls st h NB nc ns env := by
  obtain ⟨j, st1, rfl, g0⟩ := pop1_spec hk
  obtain ⟨o, st', rfl, g1⟩ := pop1_spec g0
  intro σ ρ H locs LS I
  obtain ⟨hj, j', env', lj, ej, he, g2⟩ := rconc_spec g1 I.2.2.2.1
  obtain ⟨g3, g4, g5, g6⟩ := rcellr_spec g2
  obtain ⟨g7, g8⟩ := rc_and g6
  have hN := I.1.2.2.1
  obtain ⟨c1, c2⟩ := I.1.2.2.2.2.1 (o - 4294967296) (by omega)
  obtain ⟨cell, e1, e2, e3, e4, -, e6⟩ := c1.arr g5 h1
  have hlt : j' < rlen (rget h (o - 4294967296)) := ble_le g7
  have h31 := rlen_small (rget h (o - 4294967296))
  obtain ⟨n1, n2⟩ := ofNat_clamp (j := j') (by omega)
  show Wf _ _ _ _ _ _ (rval ρ σ j :: rval ρ σ o :: st'.map (rval ρ σ))
  rw [rval_I hj, ej, rval_ref g3 (show o < 8589934592 by omega)]
  refine row _ _ _ _ _ _ _ cell _ _ e1 e2 e3 (fun x => x.elim n2 (fun y => ?_)) (by rw [n1]; exact e6 j' hlt) (nx _ _ _ _ _ _ _ g8 ρ H locs LS ⟨I.1, I.2.1, mem2 I.2.2.1 (c2 j' hlt), he, I.2.2.2.2⟩)
  rw [n1] at y
  omega
theorem o_ast {t kd : Nat} {ty : FieldType} (hch : rChS ζ.2) (ht : rtyOk t ty) (h1 : 64 ≤ kd) (h2 : kd < 1024) (nx : rNx Wf D tc z0 ξ ζ H0 nL pc' ih rest) (hk : oAst t kd ih rest ls st h NB nc ns env = true)
    (row : ∀ H locs nc ns LS st (q n : Nat) (f : Nat → Value) (j : Nat) (v : Value), H[q]? = some (arrV (tc (kd - 64)) n f) → z0 q → va_S z0 H0 H locs → narrow ty v = v → fits ty v = true → j < n → j < 2147483648 →
      (∀ H1 locs1, H1.size = H.size → (∀ x : Nat, x ≠ q → H1[x]? = H[x]?) → H1[q]? = some (arrV (tc (kd - 64)) n (updV f j v)) → va_S z0 H0 H1 locs1 → Wf H1 locs1 nc ns pc' LS st) → Wf H locs nc ns pc LS (v :: .int (Int32.ofNat j) :: .ref q :: st)) : rGo Wf D tc z0 ξ ζ H0 nL pc ls st h NB nc ns env := by
  obtain ⟨v, st0, rfl, g00⟩ := pop1_spec hk
  obtain ⟨j, st1, rfl, g0⟩ := pop1_spec g00
  obtain ⟨o, st', rfl, g1⟩ := pop1_spec g0
  obtain ⟨gt, g1⟩ := rc_and g1
  intro σ ρ H locs LS I
  have hch := I.2.2.2.1.sy.2.2
  obtain ⟨hj, j', env', lj, ej, he, g2⟩ := rconc_spec g1 I.2.2.2.1
  obtain ⟨g3, g4, g5, g6⟩ := rcell_spec g2
  obtain ⟨g7, g8⟩ := rc_and g6
  have hN := I.1.2.2.1
  obtain ⟨c1, c2⟩ := I.1.2.2.2.2.1 (o - 4294967296) (by omega)
  have hlt : j' < rlen (rget h (o - 4294967296)) := ble_le g7
  have h31 := rlen_small (rget h (o - 4294967296))
  obtain ⟨hz, e1⟩ := c1.2.2.1 (by omega) (by omega)
  rw [g5] at e1
  obtain ⟨f1, f2⟩ := rty_fits (ρ := ρ) hch ht gt
  have hv := rslot72 (rty_lt gt)
  obtain ⟨h', k1, k2, k3⟩ := rset_spec h 0 1024 I.1.1 (o - 4294967296) (rput (rget h (o - 4294967296)) (rsh j') v) (Nat.zero_le _) (by omega) _ g8
  show Wf _ _ _ _ _ _ (rval ρ σ v :: rval ρ σ j :: rval ρ σ o :: st'.map (rval ρ σ))
  rw [rval_I hj, ej, rval_ref g3 (show o < 8589934592 by omega)]
  refine row _ _ _ _ _ _ _ _ _ _ _ e1 hz I.2.2.2.2 f1 f2 hlt (by omega) fun H1 locs1 z oq hat hS => ?_
  refine nx _ _ _ _ _ _ _ k1 ρ H1 locs1 LS ⟨I.1.upd (by omega) (by omega) (by rw [rkind_put]) k2 k3 z oq ?_ fun i hi => ?_, I.2.1, mem0 (mem0 (mem0 I.2.2.1)), he, hS⟩
  · refine ⟨by rw [z]; exact c1.1, fun _ a => ?_, fun _ _ => ⟨hz, ?_⟩, fun a _ => ?_, fun a => ?_⟩
    · rw [rkind_put] at a; omega
    · rw [rkind_put, g5, hat, rlen_put]
      congr 1
      refine arrV_congr fun i hi => ?_
      rw [rslot_put _ _ _ _ hv]
      unfold updV
      split <;> rfl
    · rw [rkind_put] at a; omega
    · rw [rkind_put] at a; omega
  · rw [rlen_put] at hi
    rw [rslot_put _ _ _ _ hv]
    split
    · exact I.2.2.1 v List.mem_cons_self
    · exact c2 i hi
theorem o_len (nx : rNx Wf D tc z0 ξ ζ H0 nL pc' ih rest) (hk : oLen ih rest ls st h NB nc ns env = true)
    (row : ∀ H locs nc ns LS st (q : Nat) (cell : Cell) (t : Nat) (n : Int32), t < 13 → H[q]? = some cell → rAl tc t cell.cls → rVm cell → cell.slots.size.toInt32 = n → Wf H locs nc ns pc' LS (.int n :: st) → Wf H locs nc ns pc LS (.ref q :: st)) : rGo Wf D tc z0 ξ ζ H0 nL pc ls st h NB nc ns env := by
  obtain ⟨o, st', rfl, g1⟩ := pop1_spec hk
  obtain ⟨a1, g2⟩ := rc_and g1
  obtain ⟨a2, g3⟩ := rc_and g2
  obtain ⟨a3, g40⟩ := rc_and g3
  obtain ⟨a4, g4⟩ := rc_and g40
  have b4 : rget h (o - 4294967296) % 1024 ≤ 76 := ble_le a4
  have b1 : 4294967296 ≤ o := ble_le a1
  have b2 : o < NB := ble_le a2
  have b3 : 64 ≤ rget h (o - 4294967296) % 1024 := ble_le a3
  intro σ ρ H locs LS I
  have hN := I.1.2.2.1
  obtain ⟨c1, c2⟩ := I.1.2.2.2.2.1 (o - 4294967296) (by omega)
  obtain ⟨cell, e1, e2, e3, e4, e5, e6⟩ := c1.arr rfl b3
  have hl := rlen_small (rget h (o - 4294967296))
  show Wf _ _ _ _ _ _ (rval ρ σ o :: st'.map (rval ρ σ))
  rw [rval_ref b1 (show o < 8589934592 by omega)]
  have g := nx _ _ _ _ _ _ _ g4 ρ H locs LS ⟨I.1, I.2.1, mem1 I.2.2.1 (rwf_lt (show rlen (rget h (o - 4294967296)) < 4294967296 by omega)), I.2.2.2⟩
  refine row _ _ _ _ _ _ _ cell _ _ (by omega) e1 e2 e3 e5 ?_
  rw [← rval_lit (ρ := ρ) (σ := σ) (show rlen (rget h (o - 4294967296)) < 4294967296 by omega)]
  exact g
end HeapOps

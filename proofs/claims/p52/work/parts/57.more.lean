/-! NEW ARRAYS, CASTS, RETURNS -/
theorem rnulls_s (n : Nat) : rnulls (n + 1) = 8589934592 + rnulls n * 2 ^ 72 := by
  show Nat.add 8589934592 (Nat.shiftLeft (rnulls n) 72) = _
  rw [show Nat.shiftLeft (rnulls n) 72 = rnulls n * 2 ^ 72 from Nat.shiftLeft_eq _ _]
  rfl
theorem rnulls_slot : ∀ (n j : Nat), j < n → rnulls n / 2 ^ (72 * j) % 2 ^ 72 = 8589934592 := by
  intro n
  induction n with
  | zero => intro j h; omega
  | succ n ih =>
    intro j h
    rw [rnulls_s]
    cases j with
    | zero => rw [Nat.mul_zero, Nat.pow_zero, Nat.div_one, Nat.add_mul_mod_self_right]
    | succ j =>
      rw [Nat.mul_add, Nat.mul_one, Nat.add_comm (72 * j), Nat.pow_add, ← Nat.div_div_eq_div_mul]
      rw [Nat.add_mul_div_right _ _ (by decide), show (8589934592 : Nat) / 2 ^ 72 = 0 from by decide, Nat.zero_add]
      exact ih j (by omega)
theorem rblank_eq (kd z n : Nat) : rblank kd z n = kd + 65536 * n + z * 2 ^ 48 := by
  show Nat.add (kd + 65536 * n) (Nat.shiftLeft z 48) = _
  rw [show Nat.shiftLeft z 48 = z * 2 ^ 48 from Nat.shiftLeft_eq _ _]
  rfl
theorem rblank_kind {kd z n : Nat} (h : kd < 65536) : rblank kd z n % 65536 = kd := by
  rw [rblank_eq, show z * 2 ^ 48 = z * 2 ^ 32 * 65536 by rw [Nat.mul_assoc]]
  omega
theorem rblank_len {kd z n : Nat} (h : kd < 65536) (hn : n < 2147483648) : rlen (rblank kd z n) = n := by
  rw [rlen_eq, rblank_eq, show z * 2 ^ 48 = z * 2 ^ 32 * 65536 by rw [Nat.mul_assoc]]
  omega
theorem rblank_slot {kd z n j : Nat} (h : kd < 65536) (hn : n < 2147483648) : rslot (rblank kd z n) (rsh j) = z / 2 ^ (72 * j) % 2 ^ 72 := by
  rw [rslot_eq, rblank_eq, rsh_eq, Nat.pow_add, ← Nat.div_div_eq_div_mul, Nat.add_mul_div_right _ _ (by decide), show (kd + 65536 * n) / 2 ^ 48 = 0 from Nat.div_eq_of_lt (by omega), Nat.zero_add]
section MoreOps
variable {Wf : rWf} {D : va_G} {tc : Nat → ClassId} {z0 : Nat → Prop} {ξ : rX} {ζ : rZ} {σ : Nat → Int32} {H0 : Heap} {nL pc pc' tgt : Nat} {ih : rG} {rest tg : rCode} {ls st : List Nat} {h : rH} {NB nc ns : Nat} {env : rE}
theorem o_newA {kd B1 B2 R1 R2 : Nat} {z : Nat → Nat} {v : Nat} {dv : Value} (hdv : ∀ ρ (σ : Nat → Int32), rval ρ σ v = dv) (hv : ∀ NB, rwf NB v) (hz : ∀ n j, j < n → z n / 2 ^ (72 * j) % 2 ^ 72 = v) (hB1 : B1 ≤ R1) (hB2 : B2 ≤ R2) (h1 : 64 ≤ kd) (h2 : kd < 1024) (nx : rNx Wf D tc z0 ξ ζ H0 nL pc' ih rest) (hk : oNewA kd z B1 B2 ih rest ls st h NB nc ns env = true)
    (row : ∀ H locs nc ns LS st n, n ≤ 10000 → nc + 1 ≤ R1 → ns + n ≤ R2 → va_S z0 H0 H locs → (∀ H1, H.size < H1.size → (∀ x : Nat, x < H.size → H1[x]? = H[x]?) → H1[H.size]? = some (arrV (tc (kd - 64)) n (fun _ => dv)) → Wf H1 locs (nc + 1) (ns + n) pc' LS (.ref H.size :: st)) → Wf H locs nc ns pc LS (.int (Int32.ofNat n) :: st)) : rGo Wf D tc z0 ξ ζ H0 nL pc ls st h NB nc ns env := by
  obtain ⟨n, st', rfl, g1⟩ := pop1_spec hk
  obtain ⟨g2, g3⟩ := rc_and g1
  have hn : n ≤ 10000 := ble_le g2
  intro σ ρ H locs LS I
  obtain ⟨a1, a2, a3, h', k1, k2⟩ := o_mk hB1 hB2 g3 I.1
  have hN := I.1.2.1.1
  have e1 := rblank_kind (kd := kd) (z := z n) (n := n) (by omega)
  have e2 := rblank_len (kd := kd) (z := z n) (n := n) (by omega) (by omega)
  have e3 : ∀ j, j < n → rslot (rblank kd (z n) n) (rsh j) = v := fun j hj => by rw [rblank_slot (by omega) (by omega)]; exact hz n j hj
  show Wf _ _ _ _ _ _ (rval ρ σ n :: st'.map (rval ρ σ))
  rw [rval_lit (show n < 4294967296 by omega)]
  refine row H locs nc ns LS _ n hn a1 a2 I.2.2.2.2 fun H1 z oq hat => ?_
  have hup : ∀ a, a + 4294967296 < NB → va_up ρ (NB - 4294967296) H.size a = ρ a := fun a ha => va_up_ne ρ H.size (by omega)
  have g := nx _ _ _ _ _ _ _ k1 (va_up ρ (NB - 4294967296) H.size) H1 locs LS ⟨k2 H1 z oq ⟨z, fun _ a => by omega, fun _ _ => ⟨I.1.2.2.2.1 _ (Nat.le_refl _), ?_⟩, fun a _ => by omega, fun a => by omega⟩ (fun j hj => by rw [e2] at hj; rw [e3 j hj]; exact hv _), I.2.1.congr hup (Nat.le_succ _), ?_, I.2.2.2.1, ?_⟩
  · rw [List.map_cons, rval_new hN a3, map_new (mem0 I.2.2.1) (by omega)] at g
    exact g
  · rw [e1, e2, hat]
    exact congrArg some (arrV_congr fun j hj => by rw [e3 j hj]; exact (hdv _ _).symm)
  · intro x hx
    rcases List.mem_cons.mp hx with e | e
    · rw [e]; exact fun _ _ => Nat.lt_succ_self _
    · exact (I.2.2.1 x (List.mem_cons_of_mem _ e)).mono (Nat.le_succ _)
  · obtain ⟨b1, b2, b3⟩ := I.2.2.2.2
    exact ⟨Nat.le_trans b1 (Nat.le_of_lt z), fun x x1 x2 => (oq x (Nat.lt_of_lt_of_le x1 b1)).trans (b2 x x1 x2), b3⟩
theorem o_cast {kd : Nat} (h1 : 1 ≤ kd) (nx : rNx Wf D tc z0 ξ ζ H0 nL pc' ih rest) (hk : oCast kd ih rest ls st h NB nc ns env = true)
    (rowN : ∀ H locs nc ns LS st, Wf H locs nc ns pc' LS (.null :: st) → Wf H locs nc ns pc LS (.null :: st))
    (rowR : ∀ H locs nc ns LS st (q : Nat) (cell : Cell), H[q]? = some cell → cell.vm.isStatics = false → cell.cls = rcls D tc kd → Wf H locs nc ns pc' LS (.ref q :: st) → Wf H locs nc ns pc LS (.ref q :: st)) : rGo Wf D tc z0 ξ ζ H0 nL pc ls st h NB nc ns env := by
  obtain ⟨o, st', rfl, g1⟩ := pop1_spec hk
  intro σ ρ H locs LS I
  show Wf _ _ _ _ _ _ (rval ρ σ o :: st'.map (rval ρ σ))
  rcases rc_or g1 with ⟨a, b⟩ | ⟨-, b⟩
  · have e : o = 8589934592 := beq_eq a
    have g := nx _ _ _ _ _ _ _ b ρ H locs LS ⟨I.1, I.2.1, I.2.2.1, I.2.2.2⟩
    rw [List.map_cons, e, rval_null] at g
    rw [e, rval_null]
    exact rowN _ _ _ _ _ _ g
  · obtain ⟨g2, g3, g4, g5⟩ := rcellr_spec b
    obtain ⟨g6, g7⟩ := rc_and g5
    have g6 : rget h (o - 4294967296) % 65536 ≤ 1087 := ble_le g6
    have hN := I.1.2.2.1
    obtain ⟨c1, -⟩ := I.1.2.2.2.2.1 (o - 4294967296) (by omega)
    obtain ⟨cell, d1, d2, d3⟩ := c1.some (by omega) g6
    have g := nx _ _ _ _ _ _ _ g7 ρ H locs LS ⟨I.1, I.2.1, I.2.2.1, I.2.2.2⟩
    rw [List.map_cons, rval_ref g2 (by omega)] at g
    rw [rval_ref g2 (by omega)]
    exact rowR _ _ _ _ _ _ _ cell d1 (rVm_st d3) (by rw [d2, g4]) g
/-- Object.<init> -/
theorem o_objInit (nx : rNx Wf D tc z0 ξ ζ H0 nL pc' ih rest) (hk : pop1 st (fun o st' => rc (Nat.ble (nat_lit 4294967296) o) (rc (Nat.ble (Nat.succ o) NB) (ih rest ls st' h NB nc ns env) false) false) = true)
    (row : ∀ H locs nc ns LS st (q : Nat), LS.size = nL → (st.map fun v => v.category).sum ≤ 2 * st.length → Wf H locs nc ns pc' LS st → Wf H locs nc ns pc LS (.ref q :: st)) : rGo Wf D tc z0 ξ ζ H0 nL pc ls st h NB nc ns env := by
  obtain ⟨o, st', rfl, g1⟩ := pop1_spec hk
  obtain ⟨a1, b1⟩ := rc_and g1
  obtain ⟨a2, b2⟩ := rc_and b1
  have v1 : 4294967296 ≤ o := ble_le a1
  have v2 : o < NB := ble_le a2
  intro σ ρ H locs LS I
  have hN := I.1.2.2.1
  show Wf _ _ _ _ _ _ (rval ρ σ o :: st'.map (rval ρ σ))
  rw [rval_ref v1 (by omega)]
  refine row _ _ _ _ _ _ _ I.2.1.1 ?_ (nx _ _ _ _ _ _ _ b2 ρ H locs LS ⟨I.1, I.2.1, mem0 I.2.2.1, I.2.2.2⟩)
  generalize st'.map (rval ρ σ) = l
  induction l with
  | nil => simp
  | cons x t ih2 =>
    have : x.category ≤ 2 := by cases x <;> simp [Value.category]
    simp only [List.map_cons, List.sum_cons, List.length_cons]
    omega
end MoreOps

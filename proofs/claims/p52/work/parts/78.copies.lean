/-! ARRAYCOPY, the small machine's -/
theorem rcopy_s (src sp dst dp n : Nat) : rcopy src sp dst dp (n + 1) = rput (rcopy src sp dst dp n) (rsh (dp + n)) (rslot src (rsh (sp + n))) := rfl
theorem rcopy_slot (src sp dst dp : Nat) : ∀ (n j : Nat), rslot (rcopy src sp dst dp n) (rsh j) = if dp ≤ j ∧ j < dp + n then rslot src (rsh (sp + (j - dp))) else rslot dst (rsh j) := by
  intro n
  induction n with
  | zero => intro j; rw [if_neg (by omega)]; rfl
  | succ n ih =>
    intro j
    rw [rcopy_s, rslot_put _ _ _ _ (rslot_lt _ _), ih]
    by_cases e : j = dp + n
    · rw [if_pos e, if_pos (by omega), show sp + n = sp + (j - dp) by omega]
    · rw [if_neg e]
      by_cases e2 : dp ≤ j ∧ j < dp + n
      · rw [if_pos e2, if_pos (by omega)]
      · rw [if_neg e2, if_neg (by omega)]
theorem rcopy_kind (src sp dst dp : Nat) : ∀ n, rcopy src sp dst dp n % 65536 = dst % 65536 ∧ rlen (rcopy src sp dst dp n) = rlen dst := by
  intro n
  induction n with
  | zero => exact ⟨rfl, rfl⟩
  | succ n ih => rw [rcopy_s, rkind_put, rlen_put]; exact ih
section CopyOp
variable {Wf : rWf} {D : va_G} {tc : Nat → ClassId} {z0 : Nat → Prop} {ξ : rX} {ζ : rZ} {σ : Nat → Int32} {H0 : Heap} {nL pc pc' : Nat} {ih : rG} {rest : rCode} {ls st : List Nat} {h : rH} {NB nc ns : Nat} {env : rE}
theorem o_copy {kd : Nat} {q : Nat → rH → Nat → Bool} (h1 : 64 ≤ kd) (h2 : kd < 1024) (nx : rNx Wf D tc z0 ξ ζ H0 nL pc' ih rest) (hcat : rcats st ≤ 16) (hk : oCopy kd q ih rest ls st h NB nc ns env = true)
    (row : ∀ {σ : Nat → Int32} (ρ : Nat → Nat) H locs LS (st : List Value) (a0 a n0 n1 N sp dp : Nat) (f g : Nat → Value), rHR D tc z0 ξ ρ σ h NB H → LS.size = nL → (st.map fun v => v.category).sum ≤ 16 → H[a0]? = some (arrV (tc (kd - 64)) n0 f) → H[a]? = some (arrV (tc (kd - 64)) n1 g) → z0 a → sp + N ≤ n0 → dp + N ≤ n1 → n0 < 2147483648 → n1 < 2147483648 →
      (∀ i, i < N → ∃ v, f (sp + i) = rval ρ σ v ∧ q v h NB = true) → va_S z0 H0 H locs →
      (∀ H1 locs1, H1 = H.setIfInBounds a (arrV (tc (kd - 64)) n1 (va_cpy f g sp dp N)) → (∀ z ∈ locs1, z ∈ locs ∨ z.base = a) → Wf H1 locs1 nc ns pc' LS st) →
      Wf H locs nc ns pc LS (.int (Int32.ofNat N) :: .int (Int32.ofNat dp) :: .ref a :: .int (Int32.ofNat sp) :: .ref a0 :: st)) : rGo Wf D tc z0 ξ ζ H0 nL pc ls st h NB nc ns env := by
  obtain ⟨n, st0, rfl, g1⟩ := pop1_spec hk
  obtain ⟨dp, st1, rfl, g2⟩ := pop1_spec g1
  obtain ⟨d, st2, rfl, g3⟩ := pop1_spec g2
  obtain ⟨sp, st3, rfl, g4⟩ := pop1_spec g3
  obtain ⟨so, st', rfl, g5⟩ := pop1_spec g4
  obtain ⟨s1, s2, s3, g6⟩ := rcell_spec g5
  obtain ⟨d1, d2, d3, g7⟩ := rcell_spec g6
  obtain ⟨g8, g9⟩ := rc_and g7
  obtain ⟨g10, g11⟩ := rc_and g9
  obtain ⟨g12, g13⟩ := rc_and g11
  have hall := rall_spec _ _ g12
  have l1 : sp + n ≤ rlen (rget h (so - 4294967296)) := ble_le g8
  have l2 : dp + n ≤ rlen (rget h (d - 4294967296)) := ble_le g10
  have r1 := rlen_small (rget h (so - 4294967296))
  have r2 := rlen_small (rget h (d - 4294967296))
  intro σ ρ H locs LS I
  have hN := I.1.2.2.1
  obtain ⟨cs1, cs2⟩ := I.1.2.2.2.2.1 (so - 4294967296) (by omega)
  obtain ⟨cd1, cd2⟩ := I.1.2.2.2.2.1 (d - 4294967296) (by omega)
  obtain ⟨-, es⟩ := cs1.2.2.1 (by omega) (by omega)
  obtain ⟨zd, ed⟩ := cd1.2.2.1 (by omega) (by omega)
  rw [s3] at es
  rw [d3] at ed
  obtain ⟨h', k1, k2, k3⟩ := rset_spec h 0 1024 I.1.1 (d - 4294967296) (rcopy (rget h (so - 4294967296)) sp (rget h (d - 4294967296)) dp n) (Nat.zero_le _) (by omega) _ g13
  have hc := rcats_map (σ := σ) (ρ := ρ) hcat
  simp only [List.map_cons, List.sum_cons] at hc
  obtain ⟨ck, cl⟩ := rcopy_kind (rget h (so - 4294967296)) sp (rget h (d - 4294967296)) dp n
  have csl := rcopy_slot (rget h (so - 4294967296)) sp (rget h (d - 4294967296)) dp n
  generalize hC : rcopy (rget h (so - 4294967296)) sp (rget h (d - 4294967296)) dp n = cn at *
  show Wf _ _ _ _ _ _ (rval ρ σ n :: rval ρ σ dp :: rval ρ σ d :: rval ρ σ sp :: rval ρ σ so :: st'.map (rval ρ σ))
  rw [rval_lit (show n < 4294967296 by omega), rval_lit (show dp < 4294967296 by omega), rval_lit (show sp < 4294967296 by omega), rval_ref s1 (show so < 8589934592 by omega), rval_ref d1 (show d < 8589934592 by omega)]
  have hlt : ρ (d - 4294967296) < H.size := cd1.1
  refine row ρ H locs LS _ _ _ _ _ n sp dp _ _ I.1 I.2.1.1 (by omega) es ed zd l1 l2 r1 r2 (fun i hi => ⟨_, rfl, hall (sp + i) (by omega) (by omega)⟩) I.2.2.2.2 fun H1 locs1 e1 hl => ?_
  have z : H1.size = H.size := by rw [e1]; simp
  have oq : ∀ x : Nat, x ≠ ρ (d - 4294967296) → H1[x]? = H[x]? := fun x hx => by rw [e1]; simp [Array.getElem?_setIfInBounds, Ne.symm hx]
  have eq : H1[ρ (d - 4294967296)]? = some (arrV (tc (kd - 64)) (rlen (rget h (d - 4294967296))) (va_cpy (fun j => rval ρ σ (rslot (rget h (so - 4294967296)) (rsh j))) (fun j => rval ρ σ (rslot (rget h (d - 4294967296)) (rsh j))) sp dp n)) := by rw [e1]; simp [Array.getElem?_setIfInBounds, hlt]
  refine nx _ _ _ _ _ _ _ k1 ρ H1 locs1 LS ⟨I.1.upd (by omega) (by omega) ck k2 k3 z oq ?_ fun i hi => ?_, I.2.1, mem0 (mem0 (mem0 (mem0 (mem0 I.2.2.1)))), I.2.2.2.1, ?_⟩
  · refine ⟨by rw [z]; exact hlt, fun _ y => by omega, fun _ _ => ⟨zd, ?_⟩, fun y _ => by omega, fun y => by omega⟩
    rw [ck, d3, cl, eq]
    refine congrArg some (arrV_congr fun j _ => ?_)
    rw [csl]
    unfold va_cpy
    split <;> rfl
  · rw [cl] at hi
    rw [csl]
    split
    · exact cs2 _ (by omega)
    · exact cd2 i hi
  · obtain ⟨b1, b2, b3⟩ := I.2.2.2.2
    exact ⟨by rw [z]; exact b1, fun x x1 x2 => (oq x (fun y => x2 (by rw [y]; exact zd))).trans (b2 x x1 x2), fun y hy => (hl y hy).elim (b3 y) (fun w => by rw [w]; exact zd)⟩
end CopyOp

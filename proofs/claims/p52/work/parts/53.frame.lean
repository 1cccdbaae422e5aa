/-! A FRAME'S LOCALS -/
theorem lget_nil (i : Nat) : lget [] i = 73786976294838206464 := rfl
theorem lget_0 (x : Nat) (t : List Nat) : lget (x :: t) 0 = x := rfl
theorem lget_s (x : Nat) (t : List Nat) (i : Nat) : lget (x :: t) (i + 1) = lget t i := rfl
theorem lset_spec : ∀ (i v : Nat) (ls : List Nat) (k : List Nat → Bool), lset i v ls k = true → ∃ ls', k ls' = true ∧ lget ls' i = v ∧
    ∀ j, j ≠ i → lget ls' j = 73786976294838206464 ∨ (lget ls' j = lget ls j ∧ (j + 1 = i → rcat1 (lget ls j) = true)) := by
  intro i
  induction i with
  | zero =>
    intro v ls k h
    cases ls with
    | nil =>
      refine ⟨[v], h, rfl, fun j hj => ?_⟩
      cases j with
      | zero => exact absurd rfl hj
      | succ j => exact Or.inl rfl
    | cons x t =>
      refine ⟨v :: t, h, rfl, fun j hj => ?_⟩
      cases j with
      | zero => exact absurd rfl hj
      | succ j => exact Or.inr ⟨rfl, fun e => by omega⟩
  | succ i ih =>
    intro v ls k h
    cases ls with
    | nil =>
      obtain ⟨t', h1, h2, h3⟩ := ih v [] (fun t' => k (73786976294838206464 :: t')) h
      refine ⟨_, h1, h2, fun j hj => ?_⟩
      cases j with
      | zero => exact Or.inl rfl
      | succ j =>
        rcases h3 j (by omega) with a | ⟨a, b⟩
        · exact Or.inl a
        · exact Or.inl (a.trans rfl)
    | cons x t =>
      have h : rc (Nat.beq i 0) (rc (rcat1 x) (lset i v t (fun t' => k (x :: t'))) (lset i v t (fun t' => k (73786976294838206464 :: t')))) (lset i v t (fun t' => k (x :: t'))) = true := h
      rcases rc_or h with ⟨a, b⟩ | ⟨a, b⟩
      · have ha := beq_eq a
        rcases rc_or b with ⟨c, d⟩ | ⟨c, d⟩
        · obtain ⟨t', h1, h2, h3⟩ := ih v t _ d
          refine ⟨_, h1, h2, fun j hj => ?_⟩
          cases j with
          | zero => exact Or.inr ⟨rfl, fun _ => c⟩
          | succ j =>
            rcases h3 j (by omega) with q | ⟨q, r⟩
            · exact Or.inl q
            · exact Or.inr ⟨q, fun e => r (by omega)⟩
        · obtain ⟨t', h1, h2, h3⟩ := ih v t _ d
          refine ⟨_, h1, h2, fun j hj => ?_⟩
          cases j with
          | zero => exact Or.inl rfl
          | succ j =>
            rcases h3 j (by omega) with q | ⟨q, r⟩
            · exact Or.inl q
            · exact Or.inr ⟨q, fun e => r (by omega)⟩
      · have ha := beq_ne a
        obtain ⟨t', h1, h2, h3⟩ := ih v t _ b
        refine ⟨_, h1, h2, fun j hj => ?_⟩
        cases j with
        | zero => exact Or.inr ⟨rfl, fun e => by omega⟩
        | succ j =>
          rcases h3 j (by omega) with q | ⟨q, r⟩
          · exact Or.inl q
          · exact Or.inr ⟨q, fun e => r (by omega)⟩
def rLR (ρ : Nat → Nat) (σ : Nat → Int32) (NB nL : Nat) (ls : List Nat) (LS : Array Slot) : Prop :=
  LS.size = nL ∧ lv_wf LS ∧ ∀ i, lget ls i < 73786976294838206464 → LS[i]? = some (.val (rval ρ σ (lget ls i))) ∧ rwf NB (lget ls i)
noncomputable def lvl (ρ : Nat → Nat) (σ : Nat → Int32) (nL : Nat) (ls : List Nat) : List (Nat × Value) := (List.range nL).filterMap (fun i => if lget ls i < 73786976294838206464 then some (i, rval ρ σ (lget ls i)) else none)
section LR
variable {ρ ρ' : Nat → Nat} {ζ : rZ} {σ : Nat → Int32} {NB NB' nL : Nat} {ls ls' : List Nat} {LS LS' : Array Slot}
theorem mem_lvl {i : Nat} (hi : i < nL) (h : lget ls i < 73786976294838206464) : (i, rval ρ σ (lget ls i)) ∈ lvl ρ σ nL ls :=
  List.mem_filterMap.mpr ⟨i, List.mem_range.mpr hi, by rw [if_pos h]⟩
theorem rLR.has (h : rLR ρ σ NB nL ls LS) : lv_has LS nL (lvl ρ σ nL ls) := by
  refine ⟨h.1, h.2.1, fun q hq => ?_⟩
  obtain ⟨i, hi, e⟩ := List.mem_filterMap.mp hq
  by_cases g : lget ls i < 73786976294838206464
  · rw [if_pos g] at e
    cases e
    exact (h.2.2 i g).1
  · rw [if_neg g] at e; cases e
theorem rLR.of {lv : List (Nat × Value)} (h : lv_has LS nL lv) (hm : ∀ i, lget ls i < 73786976294838206464 → (i, rval ρ σ (lget ls i)) ∈ lv ∧ rwf NB (lget ls i)) : rLR ρ σ NB nL ls LS :=
  ⟨h.1, h.2.1, fun i hi => ⟨h.2.2 _ (hm i hi).1, (hm i hi).2⟩⟩
theorem rLR.lt (h : rLR ρ σ NB nL ls LS) {i : Nat} (hi : lget ls i < 73786976294838206464) : i < nL := by
  have := lv_lt (h.2.2 i hi).1
  rw [h.1] at this
  exact this
theorem rLR.congr (h : rLR ρ σ NB nL ls LS) (hρ : ∀ a, a + 4294967296 < NB → ρ' a = ρ a) (hN : NB ≤ NB') : rLR ρ' σ NB' nL ls LS :=
  ⟨h.1, h.2.1, fun i hi => ⟨by rw [rval_congr hρ (h.2.2 i hi).2]; exact (h.2.2 i hi).1, (h.2.2 i hi).2.mono hN⟩⟩
/-- one local written -/
theorem rLR.set1 (h : rLR ρ σ NB nL ls LS) {i v : Nat} (h2 : lget ls' i = v) (h3 : ∀ j, j ≠ i → lget ls' j = 73786976294838206464 ∨ (lget ls' j = lget ls j ∧ (j + 1 = i → rcat1 (lget ls j) = true)))
    (hw : rwf NB v) (hL : lv_has LS' nL ((i, rval ρ σ v) :: (lvl ρ σ nL ls).filter (fun q => !(q.1 == i) && !(q.1 + 1 == i && q.2.category == 2)))) : rLR ρ σ NB nL ls' LS' := by
  refine rLR.of hL fun j hj => ?_
  by_cases e : j = i
  · subst e
    rw [h2]
    exact ⟨List.mem_cons_self, hw⟩
  · rcases h3 j e with q | ⟨q, r⟩
    · rw [q] at hj; exact absurd hj (by omega)
    · rw [q] at hj ⊢
      refine ⟨List.mem_cons_of_mem _ (List.mem_filter.mpr ⟨mem_lvl (h.lt hj) hj, ?_⟩), (h.2.2 j hj).2⟩
      by_cases e2 : j + 1 = i
      · have := rval_cat1 (ρ := ρ) (σ := σ) (rcat1_lt (r e2))
        simp [e, this]
      · simp [e, e2]
end LR
/-! WHAT IS SO WHERE A FRAME STANDS -/
abbrev rWf : Type := Heap → List Loc → Nat → Nat → Nat → Array Slot → List Value → Prop
def rInv (D : va_G) (tc : Nat → ClassId) (z0 : Nat → Prop) (ξ : rX) (ζ : rZ) (σ : Nat → Int32) (H0 : Heap) (nL : Nat) (ρ : Nat → Nat) (ls st : List Nat) (h : rH) (NB : Nat) (env : rE) (H : Heap) (locs : List Loc) (LS : Array Slot) : Prop :=
  rHR D tc z0 ξ ρ σ h NB H ∧ rLR ρ σ NB nL ls LS ∧ (∀ x ∈ st, rwf NB x) ∧ rEN ζ σ env ∧ va_S z0 H0 H locs
/-- from here the small machine's word is good -/
def rGo (Wf : rWf) (D : va_G) (tc : Nat → ClassId) (z0 : Nat → Prop) (ξ : rX) (ζ : rZ) (H0 : Heap) (nL pc : Nat) (ls st : List Nat) (h : rH) (NB nc ns : Nat) (env : rE) : Prop :=
  ∀ ⦃σ : Nat → Int32⦄ (ρ : Nat → Nat) (H : Heap) (locs : List Loc) (LS : Array Slot), rInv D tc z0 ξ ζ σ H0 nL ρ ls st h NB env H locs LS → Wf H locs nc ns pc LS (st.map (rval ρ σ))
section Ops
variable {Wf : rWf} {D : va_G} {tc : Nat → ClassId} {z0 : Nat → Prop} {ξ : rX} {ζ : rZ} {σ : Nat → Int32} {H0 : Heap} {nL pc pc' : Nat} {ih : rG} {rest : rCode} {ls st : List Nat} {h : rH} {NB nc ns : Nat} {env : rE}
/-- the rest goes on at pc' -/
def rNx (Wf : rWf) (D : va_G) (tc : Nat → ClassId) (z0 : Nat → Prop) (ξ : rX) (ζ : rZ) (H0 : Heap) (nL pc' : Nat) (ih : rG) (rest : rCode) : Prop :=
  ∀ ls st h NB nc ns env, ih rest ls st h NB nc ns env = true → rGo Wf D tc z0 ξ ζ H0 nL pc' ls st h NB nc ns env
theorem o_push {v : Nat} (nx : rNx Wf D tc z0 ξ ζ H0 nL pc' ih rest) (hk : oPush v ih rest ls st h NB nc ns env = true) (hw : ∀ NB, 4294967360 ≤ NB → rwf NB v)
    (row : ∀ {σ : Nat → Int32} (ρ : Nat → Nat) H locs nc ns LS st, (∀ a, a < 64 → ρ a = ξ.2 a) → va_S z0 H0 H locs → Wf H locs nc ns pc' LS (rval ρ σ v :: st) → Wf H locs nc ns pc LS st) : rGo Wf D tc z0 ξ ζ H0 nL pc ls st h NB nc ns env := by
  intro σ ρ H locs LS I
  refine row ρ _ _ _ _ _ _ I.1.2.1.2.1 I.2.2.2.2 (nx _ _ _ _ _ _ _ hk ρ H locs LS ⟨I.1, I.2.1, ?_, I.2.2.2⟩)
  intro x hx
  rcases List.mem_cons.mp hx with e | e
  · rw [e]; exact hw _ I.1.2.1.1
  · exact I.2.2.1 x e
theorem o_load {i : Nat} {P : Nat → Bool} (hP : ∀ x, P x = true → x < 73786976294838206464) (nx : rNx Wf D tc z0 ξ ζ H0 nL pc' ih rest) (hk : rc (P (lget ls i)) (ih rest ls (lget ls i :: st) h NB nc ns env) false = true)
    (row : ∀ {σ : Nat → Int32} (ρ : Nat → Nat) H locs nc ns LS st (v : Nat), P v = true → LS[i]? = some (.val (rval ρ σ v)) → Wf H locs nc ns pc' LS (rval ρ σ v :: st) → Wf H locs nc ns pc LS st) : rGo Wf D tc z0 ξ ζ H0 nL pc ls st h NB nc ns env := by
  intro σ ρ H locs LS I
  obtain ⟨h1, h2⟩ := rc_and hk
  have hl := I.2.1.2.2 i (hP _ h1)
  refine row ρ _ _ _ _ _ _ _ h1 hl.1 (nx _ _ _ _ _ _ _ h2 ρ H locs LS ⟨I.1, I.2.1, ?_, I.2.2.2⟩)
  intro x hx
  rcases List.mem_cons.mp hx with e | e
  · rw [e]; exact hl.2
  · exact I.2.2.1 x e
theorem o_store {i mx : Nat} {P : Nat → Bool} (hmx : mx = nL) (nx : rNx Wf D tc z0 ξ ζ H0 nL pc' ih rest) (hk : oStore P mx i ih rest ls st h NB nc ns env = true)
    (row : ∀ {σ : Nat → Int32} (ρ : Nat → Nat) H locs nc ns LS st (v : Nat) (lv : List (Nat × Value)), P v = true → lv_has LS nL lv → i < nL → (∀ LS', lv_has LS' nL ((i, rval ρ σ v) :: lv.filter (fun q => !(q.1 == i) && !(q.1 + 1 == i && q.2.category == 2))) → Wf H locs nc ns pc' LS' st) → Wf H locs nc ns pc LS (rval ρ σ v :: st)) : rGo Wf D tc z0 ξ ζ H0 nL pc ls st h NB nc ns env := by
  intro σ ρ H locs LS I
  obtain ⟨v, st', rfl, h1⟩ := pop1_spec hk
  obtain ⟨h2, h3⟩ := rc_and h1
  obtain ⟨h4, h5⟩ := rc_and h3
  obtain ⟨ls', k1, k2, k3⟩ := lset_spec _ _ _ _ h5
  refine row ρ _ _ _ _ _ _ v _ h2 I.2.1.has (by rw [← hmx]; exact ble_le h4) fun LS' hL => ?_
  exact nx _ _ _ _ _ _ _ k1 ρ H locs LS' ⟨I.1, I.2.1.set1 k2 k3 (I.2.2.1 v List.mem_cons_self) hL, fun x hx => I.2.2.1 x (List.mem_cons_of_mem _ hx), I.2.2.2⟩
theorem mem2 {P : Nat → Prop} {a b : Nat} {st : List Nat} (h : ∀ x ∈ a :: b :: st, P x) {v : Nat} (hv : P v) : ∀ x ∈ v :: st, P x := by
  intro x hx
  rcases List.mem_cons.mp hx with e | e
  · rw [e]; exact hv
  · exact h x (List.mem_cons_of_mem _ (List.mem_cons_of_mem _ e))
theorem mem1 {P : Nat → Prop} {a : Nat} {st : List Nat} (h : ∀ x ∈ a :: st, P x) {v : Nat} (hv : P v) : ∀ x ∈ v :: st, P x := by
  intro x hx
  rcases List.mem_cons.mp hx with e | e
  · rw [e]; exact hv
  · exact h x (List.mem_cons_of_mem _ e)
theorem mem0 {P : Nat → Prop} {a : Nat} {st : List Nat} (h : ∀ x ∈ a :: st, P x) : ∀ x ∈ st, P x := fun x hx => h x (List.mem_cons_of_mem _ hx)
theorem o_bin {f : Nat → Nat → Nat} {F : Int32 → Int32 → Int32} (hf : ∀ a b, a < 4294967296 → b < 4294967296 → f a b < 4294967296 ∧ Int32.ofNat (f a b) = F (Int32.ofNat a) (Int32.ofNat b)) (nx : rNx Wf D tc z0 ξ ζ H0 nL pc' ih rest)
    {a b : Nat} (hk : rbin f a b env (fun v env' => ih rest ls (v :: st) h NB nc ns env') = true)
    (row : ∀ H locs nc ns LS st x y, Wf H locs nc ns pc' LS (.int (F x y) :: st) → Wf H locs nc ns pc LS (.int y :: .int x :: st)) : rGo Wf D tc z0 ξ ζ H0 nL pc ls (b :: a :: st) h NB nc ns env := by
  intro σ ρ H locs LS I
  obtain ⟨ha, hb, a', b', env', la, lb, ea, eb, he, h1⟩ := rbin_spec hk I.2.2.2.1
  obtain ⟨f1, f2⟩ := hf a' b' la lb
  have g := nx _ _ _ _ _ _ _ h1 ρ H locs LS ⟨I.1, I.2.1, mem2 I.2.2.1 (rwf_lt f1), he, I.2.2.2.2⟩
  show Wf _ _ _ _ _ _ (rval ρ σ b :: rval ρ σ a :: st.map (rval ρ σ))
  rw [rval_I ha, rval_I hb, ea, eb]
  refine row _ _ _ _ _ _ _ _ ?_
  rw [← f2]
  have e : rval ρ σ (f a' b') = .int (Int32.ofNat (f a' b')) := by simp [rval, f1]
  rw [← e]
  exact g
end Ops

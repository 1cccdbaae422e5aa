/-! SOUND: calls to any depth -/
theorem rcnt_eq : ∀ l : List Nat, rcnt l = l.length := by
  intro l
  induction l with
  | nil => rfl
  | cons x t ih => show Nat.succ (rcnt t) = _; rw [ih]; rfl
theorem lg_sl_cat1 {ρ : Nat → Nat} {σ : Nat → Int32} : ∀ as : List Nat, (∀ x ∈ as, x < 18446744073709551616) → (lg_sl (as.map (rval ρ σ))).length = as.length := by
  intro as
  induction as with
  | nil => intro _; rfl
  | cons x t ih =>
    intro h
    have h1 := rval_cat1 (ρ := ρ) (σ := σ) (h x List.mem_cons_self)
    have h2 := ih fun y hy => h y (List.mem_cons_of_mem _ hy)
    simp only [lg_sl, List.map_cons, List.flatMap_cons, h1] at h2 ⊢
    simp [h2]
theorem lv_args_cat1 {ρ : Nat → Nat} {σ : Nat → Int32} : ∀ (as : List Nat) (o i : Nat), (∀ x ∈ as, x < 18446744073709551616) → lget as i < 73786976294838206464 → (o + i, rval ρ σ (lget as i)) ∈ lv_args o (as.map (rval ρ σ)) ∧ lget as i ∈ as := by
  intro as
  induction as with
  | nil => intro o i _ h; rw [lget_nil] at h; exact absurd h (Nat.lt_irrefl _)
  | cons x t ih =>
    intro o i hx h
    have h1 := rval_cat1 (ρ := ρ) (σ := σ) (hx x List.mem_cons_self)
    have e : lv_args o ((x :: t).map (rval ρ σ)) = (o, rval ρ σ x) :: lv_args (o + 1) (t.map (rval ρ σ)) := by
      simp [lv_args, h1]
    rw [e]
    cases i with
    | zero => exact ⟨List.mem_cons_self, List.mem_cons_self⟩
    | succ i =>
      rw [lget_s] at h ⊢
      obtain ⟨a, b⟩ := ih (o + 1) i (fun y hy => hx y (List.mem_cons_of_mem _ hy)) h
      refine ⟨List.mem_cons_of_mem _ ?_, List.mem_cons_of_mem _ b⟩
      rw [show o + (i + 1) = o + 1 + i by omega]
      exact a

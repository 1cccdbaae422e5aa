/-! FORKS: what a test of the small machine says -/
theorem rall_spec {k : Nat → Bool} : ∀ (n lo : Nat), rall n lo k = true → ∀ v, lo ≤ v → v < lo + n → k v = true := by
  intro n
  induction n with
  | zero => intro lo _ v h1 h2; omega
  | succ n ih =>
    intro lo h v h1 h2
    obtain ⟨a, b⟩ := rc_and (show rc (k lo) (rall n (Nat.succ lo) k) false = true from h)
    rcases Nat.eq_or_lt_of_le h1 with q | q
    · rw [← q]; exact a
    · exact ih _ b v q (by simpa [Nat.succ_eq_add_one, Nat.add_assoc, Nat.add_comm 1] using h2)
section Forks
variable {ζ : rZ} {σ : Nat → Int32} {env : rE}
theorem rint_sym {c : Nat} (h : rsym c = true) : rint σ c = σ (rsi c) := by
  have h1 := rsym_in h
  have q : ¬ c < 4294967296 := by omega
  simp only [rint, q, if_false]
  rfl
/-- a symbol that is known well enough to be taken number by number -/
theorem rconc_spec {c : Nat} {k : Nat → rE → Bool} (h : rconc c env k = true) (he : rEN ζ σ env) :
    risI c = true ∧ ∃ v env', v < 4294967296 ∧ rint σ c = Int32.ofNat v ∧ rEN ζ σ env' ∧ k v env' = true := by
  rcases rc_or h with ⟨h1, h2⟩ | ⟨h1, h2⟩
  · exact ⟨risI_lit (rlit_lt h1), c, env, rlit_lt h1, rint_lit (rlit_lt h1), he, h2⟩
  · obtain ⟨h3, h4⟩ := rc_and h2
    obtain ⟨-, h5⟩ := rc_and h4
    refine ⟨risI_sym h3, ?_⟩
    rw [rint_sym h3]
    obtain ⟨a, b⟩ := he.1 (rsi c)
    have hn : ∀ x y z : Nat, x ≤ z → z ≤ y → z < x + Nat.sub (Nat.succ y) x := fun x y z h1 h2 => by
      show z < x + (y + 1 - x)
      omega
    have h6 := rall_spec _ _ h5 (sb (σ (rsi c))) a (hn _ _ _ a b)
    exact ⟨rbias (sb (σ (rsi c))), rupd env (rsi c) (sb (σ (rsi c)), sb (σ (rsi c))), rbias_lt _, of_sb _, he.upd (Nat.le_refl _) (Nat.le_refl _), h6⟩
theorem rlow_spec {i m : Nat} {t e : rE → Bool} (h : rlow i m env t e = true) (he : rEN ζ σ env) :
    (sb (σ i) < m ∧ ∃ env', rEN ζ σ env' ∧ t env' = true) ∨ (m ≤ sb (σ i) ∧ ∃ env', rEN ζ σ env' ∧ e env' = true) := by
  obtain ⟨a, b⟩ := he.1 i
  rcases rc_or h with ⟨h1, h2⟩ | ⟨h1, h2⟩
  · exact Or.inr ⟨Nat.le_trans (ble_le h1) a, env, he, h2⟩
  rcases rc_or h2 with ⟨h3, h4⟩ | ⟨h3, h4⟩
  · exact Or.inl ⟨Nat.lt_of_le_of_lt b (ble_le h3), env, he, h4⟩
  obtain ⟨h5, h6⟩ := rc_and h4
  rcases Nat.lt_or_ge (sb (σ i)) m with q | q
  · exact Or.inl ⟨q, rupd env i ((rnth env i).1, Nat.pred m), he.upd a (Nat.le_pred_of_lt q), h5⟩
  · exact Or.inr ⟨q, rupd env i (m, (rnth env i).2), he.upd q b, h6⟩
/-- a test: it holds and the one goes on, or it doesn't and the other does -/
def rTest (ζ : rZ) (σ : Nat → Int32) (P : Prop) (t e : rE → Bool) : Prop := (P ∧ ∃ env', rEN ζ σ env' ∧ t env' = true) ∨ (¬ P ∧ ∃ env', rEN ζ σ env' ∧ e env' = true)
theorem rTest.not {P : Prop} {t e : rE → Bool} (h : rTest ζ σ P t e) : rTest ζ σ (¬ P) e t := by
  rcases h with ⟨a, b⟩ | ⟨a, b⟩
  · exact Or.inr ⟨fun q => q a, b⟩
  · exact Or.inl ⟨a, b⟩
theorem rTest.iff {P Q : Prop} {t e : rE → Bool} (h : rTest ζ σ P t e) (hpq : P ↔ Q) : rTest ζ σ Q t e := by
  rcases h with ⟨a, b⟩ | ⟨a, b⟩
  · exact Or.inl ⟨hpq.mp a, b⟩
  · exact Or.inr ⟨fun q => a (hpq.mpr q), b⟩
theorem rlt2_spec {i j : Nat} {t e : rE → Bool} (h : rlt2 i j env t e = true) (he : rEN ζ σ env) : rTest ζ σ (sb (σ i) < sb (σ j)) t e := by
  have hi := he.1 i
  have hj := he.1 j
  rcases rc_or h with ⟨h1, h2⟩ | ⟨-, h2⟩
  · have e : i = j := beq_eq h1
    exact Or.inr ⟨by rw [e]; exact Nat.lt_irrefl _, env, he, h2⟩
  rcases rc_or h2 with ⟨h1, h3⟩ | ⟨-, h3⟩
  · have h1 : (rnth env i).2 + 1 ≤ (rnth env j).1 := ble_le h1
    exact Or.inl ⟨by omega, env, he, h3⟩
  rcases rc_or h3 with ⟨h1, h4⟩ | ⟨-, h4⟩
  · have h1 : (rnth env j).2 ≤ (rnth env i).1 := ble_le h1
    exact Or.inr ⟨by omega, env, he, h4⟩
  obtain ⟨h5, h6⟩ := rc_and h4
  by_cases q : sb (σ i) < sb (σ j)
  · exact Or.inl ⟨q, env, he, h5⟩
  · exact Or.inr ⟨q, env, he, h6⟩
theorem rmx_le {x y z : Nat} (h1 : x ≤ z) (h2 : y ≤ z) : rmx x y ≤ z := by
  unfold rmx rpk0
  cases Nat.ble x y with
  | true => exact h2
  | false => exact h1
theorem le_rmn {x y z : Nat} (h1 : z ≤ x) (h2 : z ≤ y) : z ≤ rmn x y := by
  unfold rmn rpk0
  cases Nat.ble x y with
  | true => exact h1
  | false => exact h2
theorem req2_spec {i j : Nat} {t e : rE → Bool} (h : req2 i j env t e = true) (he : rEN ζ σ env) : rTest ζ σ (sb (σ i) = sb (σ j)) t e := by
  have hi := he.1 i
  have hj := he.1 j
  rcases rc_or h with ⟨h1, h2⟩ | ⟨-, h2⟩
  · have e : i = j := beq_eq h1
    exact Or.inl ⟨by rw [e], env, he, h2⟩
  rcases rc_or h2 with ⟨h1, h3⟩ | ⟨-, h3⟩
  · refine Or.inr ⟨?_, env, he, h3⟩
    rcases rc_or h1 with ⟨h1, -⟩ | ⟨-, h1⟩
    · have h1 : (rnth env i).2 + 1 ≤ (rnth env j).1 := ble_le h1
      omega
    · have h1 : (rnth env j).2 + 1 ≤ (rnth env i).1 := ble_le h1
      omega
  obtain ⟨h5, h6⟩ := rc_and h3
  by_cases q : sb (σ i) = sb (σ j)
  · refine Or.inl ⟨q, _, (he.upd (i := i) ?_ ?_).upd ?_ ?_, h5⟩
    · exact rmx_le hi.1 (by rw [q]; exact hj.1)
    · exact le_rmn hi.2 (by rw [q]; exact hj.2)
    · exact rmx_le (by rw [← q]; exact hi.1) hj.1
    · exact le_rmn (by rw [← q]; exact hi.2) hj.2
  · exact Or.inr ⟨q, env, he, h6⟩
theorem rlt_spec {a b : Nat} {t e : rE → Bool} (h : rlt a b env t e = true) (he : rEN ζ σ env) : risI a = true ∧ risI b = true ∧ rTest ζ σ (rint σ a < rint σ b) t e := by
  rcases rc_or h with ⟨h1, h2⟩ | ⟨-, h2⟩
  · obtain ⟨ha, hb⟩ := lor_lt h1
    refine ⟨risI_lit ha, risI_lit hb, ?_⟩
    rw [rint_lit ha, rint_lit hb]
    refine rTest.iff (P := rbias a < rbias b) ?_ (by rw [sb_iff_lt, sb_of ha, sb_of hb])
    rcases rc_or h2 with ⟨h3, h4⟩ | ⟨h3, h4⟩
    · exact Or.inl ⟨ble_le h3, env, he, h4⟩
    · exact Or.inr ⟨Nat.not_lt.mpr (Nat.le_of_lt_succ (ble_nle h3)), env, he, h4⟩
  rcases rc_or h2 with ⟨h3, h4⟩ | ⟨-, h4⟩
  · obtain ⟨h5, h6⟩ := rc_and h4
    have hb := rlit_lt h3
    refine ⟨risI_sym h5, risI_lit hb, ?_⟩
    rw [rint_sym h5, rint_lit hb]
    refine rTest.iff (P := sb (σ (rsi a)) < rbias b) ?_ (by rw [sb_iff_lt, sb_of hb])
    rcases rlow_spec h6 he with ⟨q, r⟩ | ⟨q, r⟩
    · exact Or.inl ⟨q, r⟩
    · exact Or.inr ⟨Nat.not_lt.mpr q, r⟩
  rcases rc_or h4 with ⟨h3, h5⟩ | ⟨-, h5⟩
  · obtain ⟨h6, h7⟩ := rc_and h5
    have ha := rlit_lt h3
    refine ⟨risI_lit ha, risI_sym h6, ?_⟩
    rw [rint_sym h6, rint_lit ha]
    refine rTest.iff (P := rbias a < sb (σ (rsi b))) ?_ (by rw [sb_iff_lt, sb_of ha])
    rcases rlow_spec h7 he with ⟨q, r⟩ | ⟨q, r⟩
    · exact Or.inr ⟨Nat.not_lt.mpr (Nat.le_of_lt_succ q), r⟩
    · exact Or.inl ⟨q, r⟩
  · obtain ⟨h6, h7⟩ := rc_and h5
    obtain ⟨h8, h9⟩ := rc_and h7
    refine ⟨risI_sym h6, risI_sym h8, ?_⟩
    rw [rint_sym h6, rint_sym h8]
    exact rTest.iff (rlt2_spec h9 he) (by rw [sb_iff_lt])
theorem req_sym {i m : Nat} {t e : rE → Bool} (h : rlow i m env e (fun env' => rlow i (Nat.succ m) env' t e) = true) (he : rEN ζ σ env) : rTest ζ σ (sb (σ i) = m) t e := by
  rcases rlow_spec h he with ⟨q, r⟩ | ⟨q, env1, he1, h1⟩
  · exact Or.inr ⟨Nat.ne_of_lt q, r⟩
  rcases rlow_spec h1 he1 with ⟨q2, r⟩ | ⟨q2, r⟩
  · exact Or.inl ⟨Nat.le_antisymm (Nat.le_of_lt_succ q2) q, r⟩
  · exact Or.inr ⟨fun x => by rw [x] at q2; exact Nat.not_succ_le_self _ q2, r⟩
theorem req_spec {a b : Nat} {t e : rE → Bool} (h : req a b env t e = true) (he : rEN ζ σ env) : risI a = true ∧ risI b = true ∧ rTest ζ σ (rint σ a = rint σ b) t e := by
  have lits : ∀ {x y : Nat} {en : rE}, x < 4294967296 → y < 4294967296 → rEN ζ σ en → rc (Nat.beq x y) (t en) (e en) = true → rTest ζ σ (Int32.ofNat x = Int32.ofNat y) t e := by
    intro x y en hx hy hen hh
    refine rTest.iff (P := x = y) ?_ ⟨fun q => by rw [q], fun q => by rw [← of_i32n hx, ← of_i32n hy, q]⟩
    rcases rc_or hh with ⟨h3, h4⟩ | ⟨h3, h4⟩
    · exact Or.inl ⟨beq_eq h3, en, hen, h4⟩
    · exact Or.inr ⟨beq_ne h3, en, hen, h4⟩
  rcases rc_or h with ⟨h1, h2⟩ | ⟨-, h2⟩
  · obtain ⟨ha, hb⟩ := lor_lt h1
    refine ⟨risI_lit ha, risI_lit hb, ?_⟩
    rw [rint_lit ha, rint_lit hb]
    exact lits ha hb he h2
  rcases rc_or h2 with ⟨h3, h4⟩ | ⟨-, h4⟩
  · obtain ⟨h5, h6⟩ := rc_and h4
    have hb := rlit_lt h3
    refine ⟨risI_sym h5, risI_lit hb, ?_⟩
    rw [rint_sym h5, rint_lit hb]
    exact (req_sym h6 he).iff (by rw [sb_iff_eq, sb_of hb])
  rcases rc_or h4 with ⟨h3, h5⟩ | ⟨-, h5⟩
  · obtain ⟨h6, h7⟩ := rc_and h5
    have ha := rlit_lt h3
    refine ⟨risI_lit ha, risI_sym h6, ?_⟩
    rw [rint_sym h6, rint_lit ha]
    exact (req_sym h7 he).iff (by rw [sb_iff_eq, sb_of ha]; exact eq_comm)
  · obtain ⟨h6, h7⟩ := rc_and h5
    obtain ⟨h8, h9⟩ := rc_and h7
    refine ⟨risI_sym h6, risI_sym h8, ?_⟩
    rw [rint_sym h6, rint_sym h8]
    exact rTest.iff (req2_spec h9 he) (by rw [sb_iff_eq])
/-- what a condition says -/
def rCo (c : ClassFile.Cond) (x y : Int32) : Prop := match c with
  | .eq => x = y
  | .ne => ¬ x = y
  | .lt => x < y
  | .ge => y ≤ x
  | .gt => y < x
  | .le => x ≤ y
theorem i32_nlt (x y : Int32) : ¬ x < y ↔ y ≤ x := by rw [Int32.lt_iff_toInt_lt, Int32.le_iff_toInt_le]; omega
theorem rcond_spec (c : ClassFile.Cond) {a b : Nat} {t e : rE → Bool} (h : rcond c a b env t e = true) (he : rEN ζ σ env) : risI a = true ∧ risI b = true ∧ rTest ζ σ (rCo c (rint σ a) (rint σ b)) t e := by
  cases c with
  | eq => exact req_spec h he
  | ne => obtain ⟨x, y, z⟩ := req_spec h he; exact ⟨x, y, z.not⟩
  | lt => exact rlt_spec h he
  | ge => obtain ⟨x, y, z⟩ := rlt_spec h he; exact ⟨x, y, z.not.iff (i32_nlt _ _)⟩
  | gt => obtain ⟨x, y, z⟩ := rlt_spec h he; exact ⟨y, x, z⟩
  | le => obtain ⟨x, y, z⟩ := rlt_spec h he; exact ⟨y, x, z.not.iff (i32_nlt _ _)⟩
theorem rbin_spec {f : Nat → Nat → Nat} {a b : Nat} {k : Nat → rE → Bool} (h : rbin f a b env k = true) (he : rEN ζ σ env) :
    risI a = true ∧ risI b = true ∧ ∃ a' b' env', a' < 4294967296 ∧ b' < 4294967296 ∧ rint σ a = Int32.ofNat a' ∧ rint σ b = Int32.ofNat b' ∧ rEN ζ σ env' ∧ k (f a' b') env' = true := by
  rcases rc_or h with ⟨h1, h2⟩ | ⟨-, h2⟩
  · obtain ⟨ha, hb⟩ := lor_lt h1
    exact ⟨risI_lit ha, risI_lit hb, a, b, env, ha, hb, rint_lit ha, rint_lit hb, he, h2⟩
  · obtain ⟨hb, b', env1, hb', eb, he1, h6⟩ := rconc_spec h2 he
    obtain ⟨ha, a', env2, ha', ea, he2, h7⟩ := rconc_spec h6 he1
    exact ⟨ha, hb, a', b', env2, ha', hb', ea, eb, he2, h7⟩
/-- where a switch goes: the target of a key that is the number, or the other one -/
def rSw (l : List (Nat × Nat)) (d : Nat) (x : Int32) (tg : Nat) : Prop := (∃ q ∈ l, x = Int32.ofNat q.1 ∧ tg = q.2) ∨ ((∀ q ∈ l, x ≠ Int32.ofNat q.1) ∧ tg = d)
theorem rlook_spec (x d : Nat) : ∀ l : List (Nat × Nat), (∃ q ∈ l, q.1 = x ∧ rlook l x d = q.2) ∨ ((∀ q ∈ l, q.1 ≠ x) ∧ rlook l x d = d) := by
  intro l
  induction l with
  | nil => exact Or.inr ⟨fun q h => by (cases h), rfl⟩
  | cons y t ih =>
    have e : rlook (y :: t) x d = rc (Nat.beq y.1 x) y.2 (rlook t x d) := rfl
    cases hb : Nat.beq y.1 x with
    | true => exact Or.inl ⟨y, List.mem_cons_self, beq_eq hb, by rw [e, hb]⟩
    | false =>
      rw [e, hb]
      rcases ih with ⟨q, h1, h2, h3⟩ | ⟨h1, h2⟩
      · exact Or.inl ⟨q, List.mem_cons_of_mem _ h1, h2, h3⟩
      · exact Or.inr ⟨fun q hq => (List.mem_cons.mp hq).elim (fun r => by rw [r]; exact beq_ne hb) (h1 q), h2⟩
theorem rswS_spec {i : Nat} {onD : rE → Bool} {onK : Nat → rE → Bool} : ∀ (l : List (Nat × Nat)) (env : rE), (∀ q ∈ l, q.1 < 4294967296) → l.Pairwise (fun a b => rbias a.1 < rbias b.1) → rswS i onD onK l env = true → rEN ζ σ env →
    (∃ q ∈ l, σ i = Int32.ofNat q.1 ∧ ∃ env', rEN ζ σ env' ∧ onK q.2 env' = true) ∨ ((∀ q ∈ l, σ i ≠ Int32.ofNat q.1) ∧ ∃ env', rEN ζ σ env' ∧ onD env' = true) := by
  intro l
  induction l with
  | nil => intro env _ _ h he; exact Or.inr ⟨fun q h => by (cases h), env, he, h⟩
  | cons y t ih =>
    intro env hl hs h he
    have hy := hl y List.mem_cons_self
    obtain ⟨hs1, hs2⟩ := List.pairwise_cons.mp hs
    have h : rlow i (rbias y.1) env onD (fun env' => rlow i (Nat.succ (rbias y.1)) env' (fun env'' => onK y.2 env'') (rswS i onD onK t)) = true := h
    rcases rlow_spec h he with ⟨q, r⟩ | ⟨q, env1, he1, h1⟩
    · refine Or.inr ⟨fun z hz e => ?_, r⟩
      have hz1 := hl z hz
      rw [e, sb_of hz1] at q
      rcases List.mem_cons.mp hz with x | x
      · rw [x] at q; exact Nat.lt_irrefl _ q
      · exact Nat.lt_asymm q (hs1 z x)
    rcases rlow_spec h1 he1 with ⟨q2, env2, he2, h2⟩ | ⟨q2, env2, he2, h2⟩
    · exact Or.inl ⟨y, List.mem_cons_self, by rw [sb_iff_eq, sb_of hy]; exact Nat.le_antisymm (Nat.le_of_lt_succ q2) q, env2, he2, h2⟩
    · have ne : σ i ≠ Int32.ofNat y.1 := fun x => by rw [x, sb_of hy] at q2; exact Nat.not_succ_le_self _ q2
      rcases ih env2 (fun q hq => hl q (List.mem_cons_of_mem _ hq)) hs2 h2 he2 with ⟨q, hq, r⟩ | ⟨hq, r⟩
      · exact Or.inl ⟨q, List.mem_cons_of_mem _ hq, r⟩
      · exact Or.inr ⟨fun q h => (List.mem_cons.mp h).elim (fun x => by rw [x]; exact ne) (hq q), r⟩
theorem rsw_spec {x d : Nat} {l : List (Nat × Nat)} {k : Nat → rE → Bool} (hl : ∀ q ∈ l, q.1 < 4294967296) (hs : l.Pairwise (fun a b => rbias a.1 < rbias b.1)) (h : rsw x l d env k = true) (he : rEN ζ σ env) :
    risI x = true ∧ ∃ tg env', rSw l d (rint σ x) tg ∧ rEN ζ σ env' ∧ k tg env' = true := by
  rcases rc_or h with ⟨h1, h2⟩ | ⟨-, h2⟩
  · have hx := rlit_lt h1
    refine ⟨risI_lit hx, rlook l x d, env, ?_, he, h2⟩
    rw [rint_lit hx]
    rcases rlook_spec x d l with ⟨q, a, b, e⟩ | ⟨a, b⟩
    · exact Or.inl ⟨q, a, by rw [b], e⟩
    · exact Or.inr ⟨fun q hq e => a q hq (by rw [← of_i32n (hl q hq), ← of_i32n hx, e]), b⟩
  · obtain ⟨h3, h4⟩ := rc_and h2
    refine ⟨risI_sym h3, ?_⟩
    rw [rint_sym h3]
    rcases rswS_spec l env hl hs h4 he with ⟨q, a, b, env', he', r⟩ | ⟨a, env', he', r⟩
    · exact ⟨q.2, env', Or.inl ⟨q, a, b, rfl⟩, he', r⟩
    · exact ⟨d, env', Or.inr ⟨a, rfl⟩, he', r⟩
end Forks

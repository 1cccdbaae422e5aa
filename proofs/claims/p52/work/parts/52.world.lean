/-! THE TREE OF CELLS AND THE HEAP -/
noncomputable def rtw (t : rH) : Nat → Nat → Prop := Lean.RArray.rec (motive := fun _ => Nat → Nat → Prop) (fun _ lo hi => hi = lo + 1) (fun p _ _ l r lo hi => l lo p ∧ r p hi) t
theorem rtw_lt : ∀ (t : rH) (lo hi : Nat), rtw t lo hi → lo < hi := by
  intro t
  induction t with
  | leaf x => intro lo hi h; have h : hi = lo + 1 := h; omega
  | branch p l r il ir =>
    intro lo hi h
    have h : rtw l lo p ∧ rtw r p hi := h
    exact Nat.lt_trans (il _ _ h.1) (ir _ _ h.2)
theorem rset_spec : ∀ (t : rH) (lo hi : Nat), rtw t lo hi → ∀ (i v : Nat), lo ≤ i → i < hi → ∀ k : rH → Bool, rset t i v k = true →
    ∃ t', k t' = true ∧ rtw t' lo hi ∧ ∀ j, lo ≤ j → j < hi → rget t' j = if j = i then v else rget t j := by
  intro t
  induction t with
  | leaf x =>
    intro lo hi h i v h1 h2 k hk
    have h : hi = lo + 1 := h
    refine ⟨.leaf v, hk, h, fun j h3 h4 => ?_⟩
    have : j = i := by omega
    simp [this]; rfl
  | branch p l r il ir =>
    intro lo hi h i v h1 h2 k hk
    have h : rtw l lo p ∧ rtw r p hi := h
    have gl := rtw_lt _ _ _ h.1
    have gr := rtw_lt _ _ _ h.2
    have ge : ∀ (q : Nat) (x y : rH) (j : Nat), rget (.branch q x y) j = rc (Nat.ble q j) (rget y j) (rget x j) := fun _ _ _ _ => rfl
    rcases rc_or (show rc (Nat.ble p i) (rset r i v (fun r' => k (.branch p l r'))) (rset l i v (fun l' => k (.branch p l' r))) = true from hk) with ⟨a, b⟩ | ⟨a, b⟩
    · have hp := ble_le a
      obtain ⟨r', k1, k2, k3⟩ := ir _ _ h.2 i v hp h2 _ b
      refine ⟨_, k1, ⟨h.1, k2⟩, fun j h3 h4 => ?_⟩
      rw [ge, ge]
      cases hb : Nat.ble p j with
      | true => exact k3 j (ble_le hb) h4
      | false => have := ble_nle hb; rw [if_neg (by omega)]
    · have hp := ble_nle a
      obtain ⟨l', k1, k2, k3⟩ := il _ _ h.1 i v h1 hp _ b
      refine ⟨_, k1, ⟨k2, h.2⟩, fun j h3 h4 => ?_⟩
      rw [ge, ge]
      cases hb : Nat.ble p j with
      | true => have := ble_le hb; rw [if_neg (by omega)]
      | false => exact k3 j h3 (ble_nle hb)
/-! slots of a cell -/
theorem rsh_eq (j : Nat) : rsh j = 48 + 72 * j := rfl
theorem rslot_eq (c sh : Nat) : rslot c sh = c / 2 ^ sh % 2 ^ 72 := by
  show Nat.mod (Nat.shiftRight c sh) _ = _
  rw [show Nat.shiftRight c sh = c / 2 ^ sh from Nat.shiftRight_eq_div_pow c sh]
  rfl
theorem rslot_lt (c sh : Nat) : rslot c sh < 2 ^ 72 := by rw [rslot_eq]; exact Nat.mod_lt _ (by decide)
theorem rput_eq (c sh v : Nat) : rput c sh v = c - rslot c sh * 2 ^ sh + v * 2 ^ sh := by
  show Nat.add (Nat.sub c (Nat.shiftLeft (rslot c sh) sh)) (Nat.shiftLeft v sh) = _
  rw [show Nat.shiftLeft (rslot c sh) sh = rslot c sh * 2 ^ sh from Nat.shiftLeft_eq _ _, show Nat.shiftLeft v sh = v * 2 ^ sh from Nat.shiftLeft_eq _ _]
  rfl
theorem rput_div (c sh v : Nat) : rput c sh v / 2 ^ sh = c / 2 ^ sh / 2 ^ 72 * 2 ^ 72 + v ∧ rput c sh v % 2 ^ sh = c % 2 ^ sh := by
  have hS : 0 < 2 ^ sh := Nat.two_pow_pos sh
  have h1 : c = c / 2 ^ sh * 2 ^ sh + c % 2 ^ sh := by rw [Nat.mul_comm]; exact (Nat.div_add_mod c (2 ^ sh)).symm
  have h2 : c / 2 ^ sh = c / 2 ^ sh / 2 ^ 72 * 2 ^ 72 + rslot c sh := by rw [rslot_eq, Nat.mul_comm]; exact (Nat.div_add_mod _ _).symm
  have h3 : rput c sh v = (c / 2 ^ sh / 2 ^ 72 * 2 ^ 72 + v) * 2 ^ sh + c % 2 ^ sh := by
    rw [rput_eq]
    generalize hq : c / 2 ^ sh / 2 ^ 72 * 2 ^ 72 = X at h2 ⊢
    generalize hr : rslot c sh = Y at h2 ⊢
    generalize ho : c % 2 ^ sh = Z at h1 ⊢
    rw [h2] at h1
    rw [h1, Nat.add_mul, Nat.add_mul]
    omega
  rw [h3]
  have hZ : c % 2 ^ sh < 2 ^ sh := Nat.mod_lt _ hS
  exact ⟨by rw [Nat.mul_comm, Nat.mul_add_div hS, Nat.div_eq_of_lt hZ, Nat.add_zero], by rw [Nat.mul_comm, Nat.mul_add_mod, Nat.mod_eq_of_lt hZ]⟩
/-- what lies below 2^n of two numbers that are one below 2^sh -/
theorem low_eq {a b sh : Nat} (h : a % 2 ^ sh = b % 2 ^ sh) {n k : Nat} (hn : n + k ≤ sh) : a / 2 ^ n % 2 ^ k = b / 2 ^ n % 2 ^ k := by
  have e : ∀ x : Nat, x / 2 ^ n % 2 ^ k = x % 2 ^ sh % 2 ^ (n + k) / 2 ^ n := fun x => by
    rw [Nat.mod_mod_of_dvd _ (Nat.pow_dvd_pow 2 hn), Nat.pow_add, Nat.mod_mul_right_div_self]
  rw [e a, e b, h]
theorem rslot_put (c i j v : Nat) (hv : v < 2 ^ 72) : rslot (rput c (rsh j) v) (rsh i) = if i = j then v else rslot c (rsh i) := by
  obtain ⟨h1, h2⟩ := rput_div c (rsh j) v
  rcases Nat.lt_trichotomy i j with q | q | q
  · rw [if_neg (by omega), rslot_eq, rslot_eq]
    exact low_eq h2 (by rw [rsh_eq, rsh_eq]; omega)
  · rw [if_pos q, rslot_eq, q, h1, Nat.mul_comm, Nat.mul_add_mod, Nat.mod_eq_of_lt hv]
  · rw [if_neg (by omega), rslot_eq, rslot_eq]
    have e : rsh i = rsh j + (72 + (72 * (i - j) - 72)) := by rw [rsh_eq, rsh_eq]; omega
    rw [e, Nat.pow_add, ← Nat.div_div_eq_div_mul, ← Nat.div_div_eq_div_mul, h1, Nat.pow_add, ← Nat.div_div_eq_div_mul, ← Nat.div_div_eq_div_mul]
    rw [Nat.mul_comm _ (2 ^ 72), Nat.mul_add_div (by decide), Nat.div_eq_of_lt hv, Nat.add_zero]
theorem rkind_put (c j v : Nat) : rput c (rsh j) v % 65536 = c % 65536 := by
  obtain ⟨-, h2⟩ := rput_div c (rsh j) v
  have h := low_eq h2 (n := 0) (k := 16) (by rw [rsh_eq]; omega)
  simpa using h
theorem rlen_eq (c : Nat) : rlen c = c / 65536 % 2147483648 := rfl
theorem rlen_small (c : Nat) : rlen c < 2147483648 := Nat.mod_lt _ (by decide)
theorem rlen_put (c j v : Nat) : rlen (rput c (rsh j) v) = rlen c := by
  obtain ⟨-, h2⟩ := rput_div c (rsh j) v
  exact low_eq h2 (n := 16) (k := 31) (by rw [rsh_eq]; omega)
/-! a code's reference is below NB -/
def rwf (NB c : Nat) : Prop := (4294967296 ≤ c → c < 8589934592 → c < NB) ∧ (8589934592 < c → c < 17179869184 → (c - 8589934593) % 1024 + 8 + 4294967296 ≤ NB)
theorem rwf.mono {a b c : Nat} (h : rwf a c) (hab : a ≤ b) : rwf b c := ⟨fun h1 h2 => Nat.lt_of_lt_of_le (h.1 h1 h2) hab, fun h1 h2 => Nat.le_trans (h.2 h1 h2) hab⟩
theorem rwf_I {NB c : Nat} (h : risI c = true) : rwf NB c := ⟨fun h1 h2 => by rcases risI_or h with q | q <;> omega, fun h1 h2 => by rcases risI_or h with q | q <;> omega⟩
theorem rwf_lt {NB c : Nat} (h : c < 4294967296) : rwf NB c := ⟨fun h1 h2 => by omega, fun h1 h2 => by omega⟩
theorem rwf_ge {NB c : Nat} (h : c = 8589934592 ∨ 17179869184 ≤ c) : rwf NB c := ⟨fun h1 h2 => by omega, fun h1 h2 => by omega⟩
theorem rwf_null {NB : Nat} : rwf NB 8589934592 := rwf_ge (Or.inl rfl)
theorem rwf_ref {NB c : Nat} (h : c < 8589934592) (h2 : c < NB) : rwf NB c := ⟨fun _ _ => h2, fun h1 _ => by omega⟩
theorem rval_congr {ρ ρ' : Nat → Nat} {σ : Nat → Int32} {NB c : Nat} (h : ∀ a, a + 4294967296 < NB → ρ' a = ρ a) (hw : rwf NB c) : rval ρ' σ c = rval ρ σ c := by
  rcases Nat.lt_or_ge c 4294967296 with q | q
  · simp [rval, q]
  rcases Nat.lt_or_ge c 8589934592 with r | r
  · rw [rval_ref q r, rval_ref q r, h _ (by have := hw.1 q r; omega)]
  · have q1 : ¬ c < 4294967296 := by omega
    have q2 : ¬ c < 8589934592 := by omega
    unfold rval
    rw [if_neg q1, if_neg q1, if_neg q2, if_neg q2]
    by_cases q3 : c < 17179869184
    · rw [if_pos q3, if_pos q3]
      unfold rrf
      by_cases q4 : c = 8589934592
      · rw [if_pos q4, if_pos q4]
      · rw [if_neg q4, if_neg q4]
        have hw2 := hw.2 (by omega) q3
        rw [h _ (by omega)]
    · rw [if_neg q3, if_neg q3]
theorem arrV_congr {cA : ClassId} {n : Nat} {f g : Nat → Value} (h : ∀ j, j < n → f j = g j) : arrV cA n f = arrV cA n g := by
  unfold arrV
  congr 1
  apply Array.ext
  · simp
  · intro i h1 h2
    simp at h1
    simp [h i h1]
/-- the fields of a cell -/
noncomputable def rfl_ (ρ : Nat → Nat) (σ : Nat → Int32) (c : Nat) : List Value := (List.range (rlen c)).map (fun j => rval ρ σ (rslot c (rsh j)))
theorem rfl_at {ρ : Nat → Nat} {σ : Nat → Int32} {c k : Nat} (h : k < rlen c) : (rfl_ ρ σ c)[k]? = some (rval ρ σ (rslot c (rsh k))) := by simp [rfl_, h]
theorem rfl_len {ρ : Nat → Nat} {σ : Nat → Int32} {c : Nat} : (rfl_ ρ σ c).length = rlen c := by simp [rfl_]
theorem rfl_put {ρ : Nat → Nat} {σ : Nat → Int32} {c k v : Nat} (hv : v < 2 ^ 72) : rfl_ ρ σ (rput c (rsh k) v) = (rfl_ ρ σ c).set k (rval ρ σ v) := by
  apply List.ext_getElem?
  intro i
  rw [List.getElem?_set]
  rcases Nat.lt_or_ge i (rlen c) with h | h
  · rw [rfl_at (by rw [rlen_put]; exact h), rslot_put _ _ _ _ hv, rfl_at h, rfl_len]
    by_cases e : i = k
    · subst e; simp [h]
    · rw [if_neg e, if_neg (Ne.symm e)]
  · rw [List.getElem?_eq_none (by rw [rfl_len, rlen_put]; exact h), List.getElem?_eq_none (by rw [rfl_len]; exact h), rfl_len]
    split
    · rw [if_neg (by omega)]
    · rfl
def rVm (cell : Cell) : Prop := cell.vm ≠ .unknown ∧ ∀ x, cell.vm ≠ .statics x
theorem rVm_st {cell : Cell} (h : rVm cell) : cell.vm.isStatics = false := by
  cases hv : cell.vm with
  | statics x => exact absurd hv (h.2 x)
  | _ => rfl
/-- a class of arrays of the kind t: that of our cells, or one of those that were there before -/
def rAl (tc : Nat → ClassId) (t : Nat) (x : ClassId) : Prop := x = tc t ∨ ∃ u, 100 ≤ u ∧ u % 16 = t ∧ x = tc u
/-- an object that was there before, to be read alone -/
def rat (D : va_G) (q : Nat × Nat × List Value) (H : Heap) : Prop := ∃ r : vw_C, vwCl[q.2.1]? = some r ∧ ∃ cell : Cell, H[q.1]? = some cell ∧ cell.cls = D.1 q.2.1 ∧ rVm cell ∧ ∀ k, k < r.2.2 → cell.slots[D.2 q.2.1 k]? = some (vp_V q.2.2 k)
theorem rat.kept {D : va_G} {q : Nat × Nat × List Value} {H H1 : Heap} (h : rat D q H) (he : H1[q.1]? = H[q.1]?) : rat D q H1 := by
  obtain ⟨r, h1, cell, h2, h3⟩ := h
  exact ⟨r, h1, cell, he.trans h2, h3⟩
theorem rat_of {D : va_G} {q ci : Nat} {fs : List Value} {H : Heap} (h : va_at D vwCl (q, .inr (ci, fs)) H) : rat D (q, ci, fs) H := by
  obtain ⟨r, h1, cell, h2, h3, h4, h5⟩ := h
  exact ⟨r, h1, cell, h2, h3, ⟨fun x => (by rw [h4] at x; cases x), fun _ x => (by rw [h4] at x; cases x)⟩, h5⟩
/-- a cell of the small machine is a cell of the heap -/
def rCR (D : va_G) (tc : Nat → ClassId) (z0 : Nat → Prop) (ρ : Nat → Nat) (σ : Nat → Int32) (c q : Nat) (H : Heap) : Prop :=
  q < H.size ∧ (1 ≤ c % 65536 → c % 65536 < 64 → z0 q ∧ va_at D vwCl (q, .inr (c % 65536 - 1, rfl_ ρ σ c)) H) ∧
  (64 ≤ c % 65536 → c % 65536 < 1024 → z0 q ∧ H[q]? = some (arrV (tc (c % 65536 - 64)) (rlen c) (fun j => rval ρ σ (rslot c (rsh j))))) ∧
  (1025 ≤ c % 65536 → c % 65536 < 1088 → rat D (q, c % 65536 - 1025, rfl_ ρ σ c) H) ∧
  (1088 ≤ c % 65536 → ¬ z0 q ∧ c % 65536 < 2048 ∧ ∃ cell : Cell, H[q]? = some cell ∧ rAl tc (c % 65536 - 1088) cell.cls ∧ rVm cell ∧ rlen c ≤ cell.slots.size ∧ cell.slots.size.toInt32 = Int32.ofNat (rlen c) ∧ ∀ j, j < rlen c → cell.slots[j]? = some (rval ρ σ (rslot c (rsh j))))
theorem rCR.kept {D : va_G} {tc : Nat → ClassId} {z0 : Nat → Prop} {ρ : Nat → Nat} {σ : Nat → Int32} {c q : Nat} {H H1 : Heap} (h : rCR D tc z0 ρ σ c q H) (hz : H.size ≤ H1.size) (he : H1[q]? = H[q]?) : rCR D tc z0 ρ σ c q H1 := by
  obtain ⟨h0, h1, h2, h3, h4⟩ := h
  refine ⟨Nat.lt_of_lt_of_le h0 hz, fun a b => ⟨(h1 a b).1, (h1 a b).2.kept he⟩, fun a b => ⟨(h2 a b).1, he.trans (h2 a b).2⟩, fun a b => (h3 a b).kept he, fun a => ?_⟩
  obtain ⟨x, y, cell, e1, e2⟩ := h4 a
  exact ⟨x, y, cell, he.trans e1, e2⟩
theorem rCR.congr {D : va_G} {tc : Nat → ClassId} {z0 : Nat → Prop} {ρ ρ' : Nat → Nat} {σ : Nat → Int32} {NB c q : Nat} {H : Heap} (h : rCR D tc z0 ρ σ c q H) (hρ : ∀ a, a + 4294967296 < NB → ρ' a = ρ a) (hw : ∀ j, j < rlen c → rwf NB (rslot c (rsh j))) : rCR D tc z0 ρ' σ c q H := by
  have e : ∀ j, j < rlen c → rval ρ' σ (rslot c (rsh j)) = rval ρ σ (rslot c (rsh j)) := fun j hj => rval_congr hρ (hw j hj)
  have ef : rfl_ ρ' σ c = rfl_ ρ σ c := by
    unfold rfl_
    exact List.map_congr_left (fun j hj => e j (List.mem_range.mp hj))
  obtain ⟨h0, h1, h2, h3, h4⟩ := h
  refine ⟨h0, fun a b => by rw [ef]; exact h1 a b, fun a b => ⟨(h2 a b).1, by rw [arrV_congr e]; exact (h2 a b).2⟩, fun a b => by rw [ef]; exact h3 a b, fun a => ?_⟩
  obtain ⟨x, y, cell, e1, e2, e3, e4, e5, e6⟩ := h4 a
  exact ⟨x, y, cell, e1, e2, e3, e4, e5, fun j hj => by rw [e j hj]; exact e6 j hj⟩
/-- below a number, addresses that are fixed -/
abbrev rX : Type := Nat × (Nat → Nat)
/-- the small machine's cells are the heap's -/
def rHR (D : va_G) (tc : Nat → ClassId) (z0 : Nat → Prop) (ξ : rX) (ρ : Nat → Nat) (σ : Nat → Int32) (h : rH) (NB : Nat) (H : Heap) : Prop :=
  rtw h 0 1024 ∧ (4294967360 ≤ NB ∧ (∀ a, a < 64 → ρ a = ξ.2 a) ∧ ξ.1 ≤ NB ∧ ∀ a, a + 4294967296 < ξ.1 → ρ a = ξ.2 a) ∧ NB ≤ 4294968320 ∧ (∀ x : Nat, H.size ≤ x → z0 x) ∧
  (∀ a, a + 4294967296 < NB → rCR D tc z0 ρ σ (rget h a) (ρ a) H ∧ ∀ j, j < rlen (rget h a) → rwf NB (rslot (rget h a) (rsh j))) ∧
  ∀ a b, a + 4294967296 < NB → b + 4294967296 < NB → rget h a % 65536 ≠ 0 ∧ rget h a % 65536 < 1024 → rget h b % 65536 ≠ 0 → ρ a = ρ b → a = b
section HR
variable {D : va_G} {tc : Nat → ClassId} {z0 : Nat → Prop} {ξ : rX} {ρ : Nat → Nat} {ζ : rZ} {σ : Nat → Int32} {h : rH} {NB : Nat} {H : Heap}
theorem rHR.kept (hh : rHR D tc z0 ξ ρ σ h NB H) {H1 : Heap} (hz : H.size ≤ H1.size) (he : ∀ q : Nat, q < H.size → H1[q]? = H[q]?) : rHR D tc z0 ξ ρ σ h NB H1 := by
  obtain ⟨a1, a2, a3, a4, a5, a6⟩ := hh
  exact ⟨a1, a2, a3, (fun x hx => a4 x (Nat.le_trans hz hx)), fun a ha => ⟨(a5 a ha).1.kept hz (he _ (a5 a ha).1.1), (a5 a ha).2⟩, a6⟩
/-- one cell written -/
theorem rHR.upd (hh : rHR D tc z0 ξ ρ σ h NB H) {a v : Nat} {h' : rH} {H1 : Heap} (ha : a + 4294967296 < NB) (hk0 : rget h a % 65536 ≠ 0 ∧ rget h a % 65536 < 1024) (hk1 : v % 65536 = rget h a % 65536) (t1 : rtw h' 0 1024) (t2 : ∀ j, 0 ≤ j → j < 1024 → rget h' j = if j = a then v else rget h j)
    (hz : H1.size = H.size) (he : ∀ q : Nat, q ≠ ρ a → H1[q]? = H[q]?) (hc : rCR D tc z0 ρ σ v (ρ a) H1) (hw : ∀ j, j < rlen v → rwf NB (rslot v (rsh j))) : rHR D tc z0 ξ ρ σ h' NB H1 := by
  obtain ⟨a1, a2, a3, a4, a5, a6⟩ := hh
  have hkk : ∀ b, b + 4294967296 < NB → rget h' b % 65536 = rget h b % 65536 := fun b hb => by
    rw [t2 b (Nat.zero_le _) (by omega)]
    split
    · rename_i e; rw [e, hk1]
    · rfl
  refine ⟨t1, a2, a3, by rw [hz]; exact a4, fun b hb => ?_, fun b d hb hd kb kd => a6 b d hb hd (by rw [← hkk b hb]; exact kb) (by rw [← hkk d hd]; exact kd)⟩
  rw [t2 b (Nat.zero_le _) (by omega)]
  by_cases e : b = a
  · rw [if_pos e, e]; exact ⟨hc, hw⟩
  · rw [if_neg e]
    by_cases e0 : rget h b % 65536 = 0
    · refine ⟨⟨by rw [hz]; exact (a5 b hb).1.1, fun x => by omega, fun x => by omega, fun x => by omega, fun x => by omega⟩, (a5 b hb).2⟩
    · exact ⟨(a5 b hb).1.kept (Nat.le_of_eq hz.symm) (he _ fun q => e (a6 a b ha hb hk0 e0 q.symm).symm), (a5 b hb).2⟩
/-- a new cell -/
theorem rHR.new (hh : rHR D tc z0 ξ ρ σ h NB H) {v q : Nat} {h' : rH} {H1 : Heap} (hN : NB < 4294968320) (t1 : rtw h' 0 1024) (t2 : ∀ j, 0 ≤ j → j < 1024 → rget h' j = if j = NB - 4294967296 then v else rget h j)
    (hq : q = H.size) (hz : H.size ≤ H1.size) (he : ∀ x : Nat, x < H.size → H1[x]? = H[x]?) (hc : rCR D tc z0 (va_up ρ (NB - 4294967296) q) σ v q H1) (hw : ∀ j, j < rlen v → rwf (NB + 1) (rslot v (rsh j))) :
    rHR D tc z0 ξ (va_up ρ (NB - 4294967296) q) σ h' (NB + 1) H1 := by
  obtain ⟨a1, a2, a3, a4, a5, a6⟩ := hh
  have hup : ∀ a, a + 4294967296 < NB → va_up ρ (NB - 4294967296) q a = ρ a := fun a ha => va_up_ne ρ q (by omega)
  refine ⟨t1, ⟨Nat.le_succ_of_le a2.1, fun a ha => by rw [hup a (by omega)]; exact a2.2.1 a ha, Nat.le_succ_of_le a2.2.2.1, fun a ha => by rw [hup a (Nat.lt_of_lt_of_le ha a2.2.2.1)]; exact a2.2.2.2 a ha⟩, by omega, (fun x hx => a4 x (Nat.le_trans hz hx)), fun b hb => ?_, fun a b ha hb => ?_⟩
  · rw [t2 b (Nat.zero_le _) (by omega)]
    by_cases e : b = NB - 4294967296
    · rw [if_pos e, e, va_up_self]; exact ⟨hc, hw⟩
    · rw [if_neg e, hup b (by omega)]
      have hb' : b + 4294967296 < NB := by omega
      exact ⟨((a5 b hb').1.kept hz (he _ (a5 b hb').1.1)).congr hup (a5 b hb').2, fun j hj => ((a5 b hb').2 j hj).mono (Nat.le_succ _)⟩
  · intro ka kb e
    have hg : ∀ b, b ≠ NB - 4294967296 → b + 4294967296 < NB + 1 → rget h' b = rget h b := fun b hb hb2 => by rw [t2 b (Nat.zero_le _) (by omega), if_neg hb]
    by_cases ea : a = NB - 4294967296
    · by_cases eb : b = NB - 4294967296
      · rw [ea, eb]
      · have hb' : b + 4294967296 < NB := by omega
        rw [ea, va_up_self, hup b hb'] at e
        have := (a5 b hb').1.1
        omega
    · have ha' : a + 4294967296 < NB := by omega
      by_cases eb : b = NB - 4294967296
      · rw [eb, va_up_self, hup a ha'] at e
        have := (a5 a ha').1.1
        omega
      · have hb' : b + 4294967296 < NB := by omega
        rw [hup a ha', hup b hb'] at e
        rw [hg a ea ha] at ka
        rw [hg b eb hb] at kb
        exact a6 a b ha' hb' ka kb e
/-- a place of which nothing is said -/
theorem rHR.junk (hh : rHR D tc z0 ξ ρ σ h NB H) {q : Nat} {h' : rH} (hN : NB < 4294968320) (t1 : rtw h' 0 1024) (t2 : ∀ j, 0 ≤ j → j < 1024 → rget h' j = if j = NB - 4294967296 then 0 else rget h j) (hq : q < H.size) :
    rHR D tc z0 ξ (va_up ρ (NB - 4294967296) q) σ h' (NB + 1) H := by
  obtain ⟨a1, a2, a3, a4, a5, a6⟩ := hh
  have hup : ∀ a, a + 4294967296 < NB → va_up ρ (NB - 4294967296) q a = ρ a := fun a ha => va_up_ne ρ q (by omega)
  refine ⟨t1, ⟨Nat.le_succ_of_le a2.1, fun a ha => by rw [hup a (by omega)]; exact a2.2.1 a ha, Nat.le_succ_of_le a2.2.2.1, fun a ha => by rw [hup a (Nat.lt_of_lt_of_le ha a2.2.2.1)]; exact a2.2.2.2 a ha⟩, by omega, a4, fun b hb => ?_, fun a b ha hb ka kb e => ?_⟩
  · rw [t2 b (Nat.zero_le _) (by omega)]
    by_cases e : b = NB - 4294967296
    · rw [if_pos e, e, va_up_self]
      exact ⟨⟨hq, fun x => by simp at x, fun x => by simp at x, fun x => by simp at x, fun x => by simp at x⟩, fun j hj => by simp [rlen_eq] at hj⟩
    · rw [if_neg e, hup b (by omega)]
      have hb' : b + 4294967296 < NB := by omega
      exact ⟨(a5 b hb').1.congr hup (a5 b hb').2, fun j hj => ((a5 b hb').2 j hj).mono (Nat.le_succ _)⟩
  · have ne : ∀ x, x + 4294967296 < NB + 1 → rget h' x % 65536 ≠ 0 → x ≠ NB - 4294967296 := fun x hx kx e => kx (by rw [t2 x (Nat.zero_le _) (by omega), if_pos e])
    have na := ne a ha ka.1
    have nb := ne b hb kb
    rw [t2 a (Nat.zero_le _) (by omega), if_neg na] at ka
    rw [t2 b (Nat.zero_le _) (by omega), if_neg nb] at kb
    rw [hup a (by omega), hup b (by omega)] at e
    exact a6 a b (by omega) (by omega) ka kb e
theorem rHR.self (hh : rHR D tc z0 ξ ρ σ h NB H) : rHR D tc z0 (NB, ρ) ρ σ h NB H := ⟨hh.1, ⟨hh.2.1.1, fun _ _ => rfl, Nat.le_refl _, fun _ _ => rfl⟩, hh.2.2⟩
theorem rHR.re {σ' : Nat → Int32} {ρ' : Nat → Nat} {h' : rH} {NB' : Nat} {H' : Heap} (h2 : rHR D tc z0 (NB, ρ) ρ' σ' h' NB' H') (h1 : rHR D tc z0 ξ ρ σ h NB H) : rHR D tc z0 ξ ρ' σ' h' NB' H' := by
  obtain ⟨b1, ⟨b2, b3, b4, b5⟩, b6⟩ := h2
  obtain ⟨-, ⟨c2, c3, c4, c5⟩, -⟩ := h1
  have b4 : NB ≤ NB' := b4
  have b5 : ∀ a, a + 4294967296 < NB → ρ' a = ρ a := b5
  exact ⟨b1, ⟨b2, fun a ha => (b5 a (by omega)).trans (c3 a ha), Nat.le_trans c4 b4, fun a ha => (b5 a (Nat.lt_of_lt_of_le ha c4)).trans (c5 a ha)⟩, b6⟩
end HR

/-! WHAT CODES SPEAK OF; A NEW SYMBOL -/
theorem rpb_lt {n i : Nat} (h : rpb n i = true) : i < n := ble_le h
theorem rpv_lt {n i : Nat} (h : rpv n i = true) : i < n ∧ ¬ rVo i := by
  obtain ⟨h1, h2⟩ := rc_and h
  refine ⟨ble_le h1, fun hv => ?_⟩
  rcases rc_or h2 with ⟨-, h3⟩ | ⟨h3, -⟩
  · have h3 : 1536 ≤ i := ble_le h3
    have := hv.2
    omega
  · have h3 : i < 256 := ble_nle h3
    have := hv.1
    omega
theorem rsb_val {p : Nat → Bool} {c : Nat} (h : rsb p c = true) (hc : c < 73786976294838206464) {ρ : Nat → Nat} {σ σ' : Nat → Int32} (hs : ∀ i, p i = true → σ' i = σ i) : rval ρ σ' c = rval ρ σ c := by
  rcases rc_or h with ⟨h1, -⟩ | ⟨h0, h2⟩
  · have h1 : c ≤ 8589934592 := ble_le h1
    unfold rval
    split
    · rfl
    split
    · rfl
    · have e : c = 8589934592 := by omega
      rw [if_pos (by omega), if_pos (by omega), e]
      unfold rrf
      rw [if_pos rfl, if_pos rfl]
  have h0 : 8589934592 < c := ble_nle h0
  rcases rc_or h2 with ⟨h1, h3⟩ | ⟨h00, h3⟩
  · have h1 : c ≤ 17179869183 := ble_le h1
    have q1 : ¬ c < 4294967296 := by omega
    have q2 : ¬ c < 8589934592 := by omega
    have q3 : c < 17179869184 := by omega
    have q4 : ¬ c = 8589934592 := by omega
    have e := hs _ h3
    have e : σ' ((c - 8589934593) / 1024) = σ ((c - 8589934593) / 1024) := e
    simp only [rval, rrf, q1, q2, q3, q4, if_false, if_true]
    rw [e]
  have h00 : 17179869183 < c := ble_nle h00
  rcases rc_or h3 with ⟨h1, h3⟩ | ⟨h1, h3⟩
  · have h4 := rsym_in h1
    rw [rval_I (risI_sym h1), rval_I (risI_sym h1), rint_sym h1, rint_sym h1, hs _ h3]
  rcases rc_or h3 with ⟨h4, -⟩ | ⟨-, h4⟩
  · have h4 : c ≤ 55340232221128654847 := ble_le h4
    have g : ¬ (17179869184 ≤ c ∧ c < 34359738368) := fun q => by
      have e : rsym c = true := by
        show Nat.beq (c / 17179869184) 1 = true
        rw [show c / 17179869184 = 1 by omega]; rfl
      rw [e] at h1; cases h1
    have g1 : ¬ c < 4294967296 := by omega
    have g2 : ¬ c < 8589934592 := by omega
    have g0 : ¬ c < 17179869184 := by omega
    have g3 : ¬ c < 34359738368 := by omega
    have g4 : c < 55340232221128654848 := by omega
    unfold rval
    simp only [g0, g1, g2, g3, g4, if_true, if_false]
  rcases rc_or h4 with ⟨h5, -⟩ | ⟨-, h5⟩
  · have h5 : 73786976294838206464 ≤ c := ble_le h5
    omega
  · have e : σ' (c - 55340232221128654848) = σ (c - 55340232221128654848) := hs _ h5
    have g4 : ¬ (17179869184 ≤ c ∧ c < 34359738368) := fun q => by
      have e : rsym c = true := by
        show Nat.beq (c / 17179869184) 1 = true
        rw [show c / 17179869184 = 1 by omega]; rfl
      rw [e] at h1; cases h1
    have q1 : ¬ c < 4294967296 := by omega
    have q2 : ¬ c < 8589934592 := by omega
    have q3 : ¬ c < 17179869184 := by omega
    have q4 : ¬ c < 34359738368 := by omega
    unfold rval
    simp only [q1, q2, q3, q4, if_false]
    rw [e]
theorem rsbs_spec {p : Nat → Bool} : ∀ ls : List Nat, rsbs p ls = true → ∀ x ∈ ls, rsb p x = true := by
  intro ls
  induction ls with
  | nil => intro _ x hx; cases hx
  | cons y t ih =>
    intro h x hx
    obtain ⟨h1, h2⟩ := rc_and (show rc (rsb p y) (rsbs p t) false = true from h)
    rcases List.mem_cons.mp hx with e | e
    · rw [e]; exact h1
    · exact ih h2 x e
theorem rsbt_spec {p : Nat → Bool} : ∀ ls : List Nat, rsbt p ls = true → ∀ x ∈ ls, x < 73786976294838206464 ∧ rsb p x = true := by
  intro ls
  induction ls with
  | nil => intro _ x hx; cases hx
  | cons y t ih =>
    intro h x hx
    obtain ⟨h0, h1⟩ := rc_and (show rc (Nat.ble y (nat_lit 73786976294838206463)) (rc (rsb p y) (rsbt p t) false) false = true from h)
    obtain ⟨h2, h3⟩ := rc_and h1
    have h0 : y ≤ 73786976294838206463 := ble_le h0
    rcases List.mem_cons.mp hx with e | e
    · rw [e]; exact ⟨by omega, h2⟩
    · exact ih h3 x e
theorem lget_mem : ∀ (ls : List Nat) (i : Nat), lget ls i < 73786976294838206464 → lget ls i ∈ ls := by
  intro ls
  induction ls with
  | nil => intro i h; rw [lget_nil] at h; exact absurd h (Nat.lt_irrefl _)
  | cons y t ih =>
    intro i h
    cases i with
    | zero => exact List.mem_cons_self
    | succ i => rw [lget_s] at h ⊢; exact List.mem_cons_of_mem _ (ih i h)
theorem rLR.sg {ρ : Nat → Nat} {σ σ' : Nat → Int32} {NB nL : Nat} {p : Nat → Bool} {ls : List Nat} {LS : Array Slot} (h : rLR ρ σ NB nL ls LS) (hb : rsbs p ls = true) (hs : ∀ i, p i = true → σ' i = σ i) : rLR ρ σ' NB nL ls LS :=
  ⟨h.1, h.2.1, fun i hi => ⟨by rw [rsb_val (rsbs_spec ls hb _ (lget_mem ls i hi)) hi hs]; exact (h.2.2 i hi).1, (h.2.2 i hi).2⟩⟩
theorem rcno_spec {p : Nat → Bool} {c : Nat} (h : rcno p c = true) : ∀ j, j < rlen c → rslot c (rsh j) < 73786976294838206464 ∧ rsb p (rslot c (rsh j)) = true := by
  have key : ∀ m, (Nat.rec (motive := fun _ => Bool) true (fun j ih => rc (Nat.ble (rslot c (rsh j)) (nat_lit 73786976294838206463)) (rc (rsb p (rslot c (rsh j))) ih false) false) m : Bool) = true → ∀ j, j < m → rslot c (rsh j) < 73786976294838206464 ∧ rsb p (rslot c (rsh j)) = true := by
    intro m
    induction m with
    | zero => intro _ j hj; exact absurd hj (Nat.not_lt_zero _)
    | succ m ih =>
      intro hm j hj
      obtain ⟨h1, h2⟩ := rc_and hm
      obtain ⟨h3, h4⟩ := rc_and h2
      have h1 : rslot c (rsh m) ≤ 73786976294838206463 := ble_le h1
      rcases Nat.lt_or_ge j m with q | q
      · exact ih h4 j q
      · have e : j = m := by omega
        rw [e]; exact ⟨by omega, h3⟩
  exact key (rlen c) h
theorem rhno_spec {p : Nat → Bool} : ∀ (h : rH), rhno p h = true → ∀ a, rcno p (rget h a) = true := by
  intro h
  induction h with
  | leaf c => intro hh a; exact hh
  | branch q l r il ir =>
    intro hh a
    obtain ⟨h1, h2⟩ := rc_and (show rc (rhno p l) (rhno p r) false = true from hh)
    show rcno p (rc (Nat.ble q a) (rget r a) (rget l a)) = true
    cases Nat.ble q a with
    | true => exact ir h2 a
    | false => exact il h1 a
theorem rCR.sg {D : va_G} {tc : Nat → ClassId} {z0 : Nat → Prop} {ρ : Nat → Nat} {σ σ' : Nat → Int32} {c q : Nat} {H : Heap} (h : rCR D tc z0 ρ σ c q H) (e : ∀ j, j < rlen c → rval ρ σ' (rslot c (rsh j)) = rval ρ σ (rslot c (rsh j))) : rCR D tc z0 ρ σ' c q H := by
  have ef : rfl_ ρ σ' c = rfl_ ρ σ c := by
    unfold rfl_
    exact List.map_congr_left (fun j hj => e j (List.mem_range.mp hj))
  obtain ⟨h0, h1, h2, h3, h4⟩ := h
  refine ⟨h0, fun a b => by rw [ef]; exact h1 a b, fun a b => ⟨(h2 a b).1, by rw [arrV_congr e]; exact (h2 a b).2⟩, fun a b => by rw [ef]; exact h3 a b, fun a => ?_⟩
  obtain ⟨x, y, cell, e1, e2, e3, e4, e5, e6⟩ := h4 a
  exact ⟨x, y, cell, e1, e2, e3, e4, e5, fun j hj => by rw [e j hj]; exact e6 j hj⟩
theorem rHR.sg {D : va_G} {tc : Nat → ClassId} {z0 : Nat → Prop} {ξ : rX} {ρ : Nat → Nat} {σ σ' : Nat → Int32} {h : rH} {NB : Nat} {p : Nat → Bool} {H : Heap} (hh : rHR D tc z0 ξ ρ σ h NB H) (hb : rhno p h = true) (hs : ∀ i, p i = true → σ' i = σ i) : rHR D tc z0 ξ ρ σ' h NB H := by
  obtain ⟨a1, a2, a3, a4, a5, a6⟩ := hh
  exact ⟨a1, a2, a3, a4, fun a ha => ⟨(a5 a ha).1.sg fun j hj => rsb_val (rcno_spec (rhno_spec h hb a) j hj).2 (rcno_spec (rhno_spec h hb a) j hj).1 hs, (a5 a ha).2⟩, a6⟩
theorem sb_int (x : Int32) : x.toInt = (sb x : Int) - 2147483648 := by
  have h1 := x.toInt_lt
  have h2 := x.le_toInt
  unfold sb
  omega
theorem rfull_ok (x : Int32) : rfull.1 ≤ sb x ∧ sb x ≤ rfull.2 := ⟨Nat.zero_le _, Nat.le_of_lt_succ (sb_lt x)⟩
theorem badd_ok (x y : Int32) (la ha lb hb : Nat) (h1 : la ≤ sb x) (h2 : sb x ≤ ha) (h3 : lb ≤ sb y) (h4 : sb y ≤ hb) : (badd la ha lb hb).1 ≤ sb (x + y) ∧ sb (x + y) ≤ (badd la ha lb hb).2 := by
  unfold badd
  cases g1 : Nat.ble (nat_lit 2147483648) (Nat.add la lb) with
  | false => exact rfull_ok _
  | true =>
    cases g2 : Nat.ble (Nat.add ha hb) (nat_lit 6442450943) with
    | false => exact rfull_ok _
    | true =>
      have g1 : 2147483648 ≤ la + lb := ble_le g1
      have g2 : ha + hb ≤ 6442450943 := ble_le g2
      show la + lb - 2147483648 ≤ _ ∧ _ ≤ ha + hb - 2147483648
      have hx := sb_int x
      have hy := sb_int y
      have hz := sb_int (x + y)
      rw [Int32.toInt_add, Int.bmod_def] at hz
      split at hz <;> omega
theorem bsub_ok (x y : Int32) (la ha lb hb : Nat) (h1 : la ≤ sb x) (h2 : sb x ≤ ha) (h3 : lb ≤ sb y) (h4 : sb y ≤ hb) : (bsub la ha lb hb).1 ≤ sb (x - y) ∧ sb (x - y) ≤ (bsub la ha lb hb).2 := by
  unfold bsub
  cases g1 : Nat.ble hb (Nat.add la (nat_lit 2147483648)) with
  | false => exact rfull_ok _
  | true =>
    cases g2 : Nat.ble (Nat.add ha (nat_lit 2147483648)) (Nat.add (nat_lit 4294967295) lb) with
    | false => exact rfull_ok _
    | true =>
      have g1 : hb ≤ la + 2147483648 := ble_le g1
      have g2 : ha + 2147483648 ≤ 4294967295 + lb := ble_le g2
      show la + 2147483648 - hb ≤ _ ∧ _ ≤ ha + 2147483648 - lb
      have hx := sb_int x
      have hy := sb_int y
      have hz := sb_int (x - y)
      rw [Int32.toInt_sub, Int.bmod_def] at hz
      split at hz <;> omega
theorem bmul_ok (x y : Int32) (la ha lb hb : Nat) (h1 : la ≤ sb x) (h2 : sb x ≤ ha) (h3 : lb ≤ sb y) (h4 : sb y ≤ hb) : (bmul la ha lb hb).1 ≤ sb (x * y) ∧ sb (x * y) ≤ (bmul la ha lb hb).2 := by
  unfold bmul
  cases g1 : Nat.ble (nat_lit 2147483648) la with
  | false => exact rfull_ok _
  | true =>
    cases g2 : Nat.ble (nat_lit 2147483648) lb with
    | false => exact rfull_ok _
    | true =>
      cases g3 : Nat.ble (Nat.mul (Nat.sub ha (nat_lit 2147483648)) (Nat.sub hb (nat_lit 2147483648))) (nat_lit 2147483647) with
      | false => exact rfull_ok _
      | true =>
        have g1 : 2147483648 ≤ la := ble_le g1
        have g2 : 2147483648 ≤ lb := ble_le g2
        have g3 : (ha - 2147483648) * (hb - 2147483648) ≤ 2147483647 := ble_le g3
        show 2147483648 ≤ _ ∧ _ ≤ 2147483648 + (ha - 2147483648) * (hb - 2147483648)
        have hx := sb_int x
        have hy := sb_int y
        have hz := sb_int (x * y)
        have hm : (sb x - 2147483648) * (sb y - 2147483648) ≤ (ha - 2147483648) * (hb - 2147483648) := Nat.mul_le_mul (by omega) (by omega)
        have e : x.toInt * y.toInt = (((sb x - 2147483648) * (sb y - 2147483648) : Nat) : Int) := by
          rw [Int.natCast_mul, show x.toInt = ((sb x - 2147483648 : Nat) : Int) from by omega, show y.toInt = ((sb y - 2147483648 : Nat) : Int) from by omega]
        rw [Int32.toInt_mul, e, Int.bmod_def] at hz
        generalize (sb x - 2147483648) * (sb y - 2147483648) = m at hm hz
        generalize (ha - 2147483648) * (hb - 2147483648) = w at hm g3 ⊢
        split at hz <;> omega
theorem idiv_int (x y : Int32) (hy : 1 ≤ y.toInt) : (x / y).toInt = x.toInt.tdiv y.toInt := by
  rw [Int32.toInt_div]
  have h1 := x.toInt_lt
  have h2 := x.le_toInt
  have h3 : (x.toInt.tdiv y.toInt).natAbs ≤ x.toInt.natAbs := Int.natAbs_tdiv_le_natAbs _ _
  rcases Int.lt_or_le x.toInt 0 with q | q
  · have h4 : x.toInt.tdiv y.toInt ≤ 0 := by
      have : 0 ≤ (-x.toInt).tdiv y.toInt := Int.tdiv_nonneg (by omega) (by omega)
      rw [Int.neg_tdiv] at this
      omega
    rw [Int.bmod_def]
    split <;> omega
  · have h4 : 0 ≤ x.toInt.tdiv y.toInt := Int.tdiv_nonneg q (by omega)
    rw [Int.bmod_def]
    split <;> omega
theorem irem_int (x y : Int32) (hy : 1 ≤ y.toInt) : (x - x / y * y).toInt = x.toInt.tmod y.toInt := by
  have h1 := x.toInt_lt
  have h2 := x.le_toInt
  have hd := idiv_int x y hy
  have e : x.toInt.tmod y.toInt = x.toInt - y.toInt * x.toInt.tdiv y.toInt := Int.tmod_def _ _
  have b1 : x.toInt.tmod y.toInt < y.toInt := Int.tmod_lt_of_pos _ (by omega)
  have b2 : -y.toInt < x.toInt.tmod y.toInt := by
    have := Int.lt_tmod_of_pos x.toInt (b := y.toInt) (by omega)
    exact this
  have s : (0 ≤ x.toInt → 0 ≤ x.toInt.tmod y.toInt ∧ x.toInt.tmod y.toInt ≤ x.toInt) ∧ (x.toInt ≤ 0 → x.toInt.tmod y.toInt ≤ 0 ∧ x.toInt ≤ x.toInt.tmod y.toInt) := by
    have g : ∀ z : Int, 0 ≤ z → 0 ≤ z.tmod y.toInt ∧ z.tmod y.toInt ≤ z := fun z hz => by
      refine ⟨Int.tmod_nonneg _ hz, ?_⟩
      rw [Int.tmod_def]
      have : 0 ≤ y.toInt * z.tdiv y.toInt := Int.mul_nonneg (by omega) (Int.tdiv_nonneg hz (by omega))
      omega
    refine ⟨g _, fun hx => ?_⟩
    have := g (-x.toInt) (by omega)
    rw [Int.neg_tmod] at this
    omega
  have hm : (x / y * y).toInt = y.toInt * x.toInt.tdiv y.toInt := by
    rw [Int32.toInt_mul, hd, Int.mul_comm, Int.bmod_def]
    generalize y.toInt * x.toInt.tdiv y.toInt = w at e
    split <;> omega
  rw [Int32.toInt_sub, hm, ← e, Int.bmod_def]
  split <;> omega
theorem brem_ok (x y : Int32) (la ha lb hb : Nat) (h1 : la ≤ sb x) (h2 : sb x ≤ ha) (h3 : lb ≤ sb y) (h4 : sb y ≤ hb) : (brem la ha lb hb).1 ≤ sb (x - x / y * y) ∧ sb (x - x / y * y) ≤ (brem la ha lb hb).2 := by
  unfold brem
  cases g1 : Nat.ble (nat_lit 2147483649) lb with
  | false => exact rfull_ok _
  | true =>
    have g1 : 2147483649 ≤ lb := ble_le g1
    have hx := sb_int x
    have hy := sb_int y
    have hz := sb_int (x - x / y * y)
    have hy1 : 1 ≤ y.toInt := by omega
    rw [irem_int x y hy1] at hz
    have b1 : x.toInt.tmod y.toInt < y.toInt := Int.tmod_lt_of_pos _ (by omega)
    have b2 : -y.toInt < x.toInt.tmod y.toInt := Int.lt_tmod_of_pos x.toInt (b := y.toInt) (by omega)
    cases g2 : Nat.ble (nat_lit 2147483648) la with
    | true =>
      have g2 : 2147483648 ≤ la := ble_le g2
      have hx0 : 0 ≤ x.toInt := by omega
      have b3 : 0 ≤ x.toInt.tmod y.toInt := Int.tmod_nonneg _ hx0
      have b4 : x.toInt.tmod y.toInt ≤ x.toInt := by
        rw [Int.tmod_def]
        have : 0 ≤ y.toInt * x.toInt.tdiv y.toInt := Int.mul_nonneg (by omega) (Int.tdiv_nonneg hx0 (by omega))
        omega
      show 2147483648 ≤ _ ∧ _ ≤ rpk0 (Nat.ble ha (Nat.pred hb)) ha (Nat.pred hb)
      refine ⟨by omega, ?_⟩
      unfold rpk0
      cases Nat.ble ha (Nat.pred hb) with
      | true => show _ ≤ ha; omega
      | false => show _ ≤ hb - 1; omega
    | false =>
      show 4294967297 - hb ≤ _ ∧ _ ≤ hb - 1
      omega
theorem bdiv_ok (x y : Int32) (la ha lb hb : Nat) (h1 : la ≤ sb x) (h2 : sb x ≤ ha) (h3 : lb ≤ sb y) (h4 : sb y ≤ hb) : (bdiv la ha lb hb).1 ≤ sb (x / y) ∧ sb (x / y) ≤ (bdiv la ha lb hb).2 := by
  unfold bdiv
  cases g1 : Nat.ble (nat_lit 2147483649) lb with
  | false => exact rfull_ok _
  | true =>
    have g1 : 2147483649 ≤ lb := ble_le g1
    cases g2 : Nat.ble (nat_lit 2147483648) la with
    | false => exact rfull_ok _
    | true =>
      have g2 : 2147483648 ≤ la := ble_le g2
      have hx := sb_int x
      have hy := sb_int y
      have hz := sb_int (x / y)
      rw [idiv_int x y (by omega), Int.tdiv_eq_ediv_of_nonneg (by omega)] at hz
      show 2147483648 ≤ _ ∧ _ ≤ 2147483648 + (ha - 2147483648) / (lb - 2147483648)
      have e : x.toInt / y.toInt = (((sb x - 2147483648) / (sb y - 2147483648) : Nat) : Int) := by
        rw [Int.natCast_ediv, show x.toInt = ((sb x - 2147483648 : Nat) : Int) from by omega, show y.toInt = ((sb y - 2147483648 : Nat) : Int) from by omega]
      have hm : (sb x - 2147483648) / (sb y - 2147483648) ≤ (ha - 2147483648) / (lb - 2147483648) := Nat.le_trans (Nat.div_le_div_right (by omega)) (Nat.div_le_div_left (by omega) (by omega))
      rw [e] at hz
      generalize (sb x - 2147483648) / (sb y - 2147483648) = m at hm hz
      generalize (ha - 2147483648) / (lb - 2147483648) = w at hm ⊢
      omega
theorem iand_nonneg (x y : Int32) (hy : 0 ≤ y.toInt) : 0 ≤ (x &&& y).toInt ∧ (x &&& y).toInt ≤ y.toInt := by
  have e1 : y = Int32.ofNat (i32n y) := (i32n_of y).symm
  have e2 : x = Int32.ofNat (i32n x) := (i32n_of x).symm
  have hy2 : i32n y < 2147483648 := by
    rcases Nat.lt_or_ge (i32n y) 2147483648 with q | q
    · exact q
    · exfalso
      have h := sb_int y
      rw [e1, sb_of (i32n_lt y)] at h
      have h9 := i32n_lt y
      have : rbias (i32n y) = i32n y - 2147483648 := by
        show (i32n y + 2147483648) % 4294967296 = _
        omega
      rw [this, ← e1] at h
      omega
  have hl : Nat.land (i32n x) (i32n y) ≤ i32n y := show i32n x &&& i32n y ≤ i32n y from Nat.and_le_right
  have e3 : x &&& y = Int32.ofNat (Nat.land (i32n x) (i32n y)) := by
    rw [f_and, ← e1, ← e2]
  have ti : ∀ n, n < 2147483648 → (Int32.ofNat n).toInt = (n : Int) := fun n hn => by
    have h := sb_int (Int32.ofNat n)
    rw [sb_of (by omega)] at h
    have : rbias n = n + 2147483648 := by
      show (n + 2147483648) % 4294967296 = _
      omega
    rw [this] at h
    omega
  have e4 := ti _ hy2
  rw [← e1] at e4
  rw [e3, ti _ (by omega), e4]
  omega
theorem band_ok (x y : Int32) (la ha lb hb : Nat) (h1 : la ≤ sb x) (h2 : sb x ≤ ha) (h3 : lb ≤ sb y) (h4 : sb y ≤ hb) : (band la ha lb hb).1 ≤ sb (x &&& y) ∧ sb (x &&& y) ≤ (band la ha lb hb).2 := by
  have hx := sb_int x
  have hy := sb_int y
  have hz := sb_int (x &&& y)
  unfold band
  cases g1 : Nat.ble (nat_lit 2147483648) lb with
  | true =>
    have g1 : 2147483648 ≤ lb := ble_le g1
    show 2147483648 ≤ _ ∧ _ ≤ hb
    have := iand_nonneg x y (by omega)
    omega
  | false =>
    cases g2 : Nat.ble (nat_lit 2147483648) la with
    | true =>
      have g2 : 2147483648 ≤ la := ble_le g2
      show 2147483648 ≤ _ ∧ _ ≤ ha
      have h := iand_nonneg y x (by omega)
      rw [Int32.and_comm] at h
      omega
    | false => exact rfull_ok _
section New
variable {Wf : rWf} {D : va_G} {tc : Nat → ClassId} {z0 : Nat → Prop} {ξ : rX} {ζ : rZ} {σ : Nat → Int32} {H0 : Heap} {nL pc pc' : Nat} {ih : rG} {rest : rCode} {ls st : List Nat} {h : rH} {NB nc ns : Nat} {env : rE} {ρ : Nat → Nat} {H : Heap} {locs : List Loc} {LS : Array Slot}
/-- a number in its bounds becomes a new symbol -/
theorem rnew_spec {q : Nat × Nat} {k : Nat → rE → Bool} (hk : rnew q ls st h env k = true) (h1 : rHR D tc z0 ξ ρ σ h NB H) (h2 : rLR ρ σ NB nL ls LS) (h4 : rEN ζ σ env) {x : Int32} (g1 : q.1 ≤ sb x) (g2 : sb x ≤ q.2) :
    ∃ σ' c env', risI c = true ∧ k c env' = true ∧ rint σ' c = x ∧ rHR D tc z0 ξ ρ σ' h NB H ∧ rLR ρ σ' NB nL ls LS ∧ rEN ζ σ' env' ∧ st.map (rval ρ σ') = st.map (rval ρ σ) := by
  obtain ⟨a1, b1⟩ := rc_and hk
  obtain ⟨a0, a00⟩ := rc_and a1
  obtain ⟨f1, f2⟩ := rc_and a00
  obtain ⟨a2, b2⟩ := rc_and b1
  obtain ⟨a3, b3⟩ := rc_and b2
  obtain ⟨a4, b4⟩ := rc_and b3
  obtain ⟨a5, b5⟩ := rc_and b4
  have a2 : env.1 + 1 ≤ 17179869184 := ble_le a2
  have hs : rsym (17179869184 + env.1) = true := by
    show Nat.beq ((17179869184 + env.1) / 17179869184) 1 = true
    rw [show (17179869184 + env.1) / 17179869184 = 1 by omega]; rfl
  have lt : ∀ i, rpb env.1 i = true → rsU σ env.1 x i = σ i := fun i hi => rsU_lt i (rpb_lt hi)
  refine ⟨rsU σ env.1 x, 17179869184 + env.1, rapp env q, risI_sym hs, b5, ?_, h1.sg a5 lt, h2.sg a3 lt, h4.app (ble_le a0) ⟨beq_eq f1, beq_eq f2⟩ g1 g2, List.map_congr_left fun y hy => rsb_val (rsbt_spec _ a4 y hy).2 (rsbt_spec _ a4 y hy).1 lt⟩
  rw [rint_sym hs, show rsi (17179869184 + env.1) = env.1 from by show 17179869184 + env.1 - 17179869184 = env.1; omega, rsU_at]
theorem rbd_spec {c : Nat} (hc : risI c = true) (he : rEN ζ σ env) : (rbd c env).1 ≤ sb (rint σ c) ∧ sb (rint σ c) ≤ (rbd c env).2 := by
  rcases rc_or (show rc (rlit c) true (rsym c) = true from hc) with ⟨h1, -⟩ | ⟨h1, h2⟩
  · have e : rbd c env = (rbias c, rbias c) := by unfold rbd; rw [h1]
    rw [e, rint_lit (rlit_lt h1), sb_of (rlit_lt h1)]
    exact ⟨Nat.le_refl _, Nat.le_refl _⟩
  · have e : rbd c env = rnth env (rsi c) := by unfold rbd; rw [h1]
    rw [e, rint_sym h2]
    exact he.1 _
/-- a number out of two -/
theorem rar_spec {f : Nat → Nat → Nat} {bf : Nat → Nat → Nat → Nat → Nat × Nat} {F : Int32 → Int32 → Int32} (hf : ∀ a b, a < 4294967296 → b < 4294967296 → f a b < 4294967296 ∧ Int32.ofNat (f a b) = F (Int32.ofNat a) (Int32.ofNat b)) {a b : Nat}
    (hbf : ∀ la ha lb hb, la ≤ sb (rint σ a) → sb (rint σ a) ≤ ha → lb ≤ sb (rint σ b) → sb (rint σ b) ≤ hb → (b < 4294967296 → lb = hb) → (bf la ha lb hb).1 ≤ sb (F (rint σ a) (rint σ b)) ∧ sb (F (rint σ a) (rint σ b)) ≤ (bf la ha lb hb).2)
    {k : Nat → rE → Bool} (hk : rar f bf a b ls st h env k = true) (h1 : rHR D tc z0 ξ ρ σ h NB H) (h2 : rLR ρ σ NB nL ls LS) (h4 : rEN ζ σ env) :
    risI a = true ∧ risI b = true ∧ ∃ σ' c env', risI c = true ∧ k c env' = true ∧ rint σ' c = F (rint σ a) (rint σ b) ∧ rHR D tc z0 ξ ρ σ' h NB H ∧ rLR ρ σ' NB nL ls LS ∧ rEN ζ σ' env' ∧ st.map (rval ρ σ') = st.map (rval ρ σ) := by
  rcases rc_or hk with ⟨g1, g2⟩ | ⟨-, g2⟩
  · obtain ⟨ha, hb⟩ := lor_lt g1
    obtain ⟨f1, f2⟩ := hf a b ha hb
    exact ⟨risI_lit ha, risI_lit hb, σ, f a b, env, risI_lit f1, g2, by rw [rint_lit f1, rint_lit ha, rint_lit hb, f2], h1, h2, h4, rfl⟩
  obtain ⟨ha, g3⟩ := rc_and g2
  obtain ⟨hb, g4⟩ := rc_and g3
  obtain ⟨a1, a2⟩ := rbd_spec ha h4
  obtain ⟨b1, b2⟩ := rbd_spec hb h4
  refine ⟨ha, hb, ?_⟩
  rcases rc_or g4 with ⟨g5, g6⟩ | ⟨-, g6⟩
  · obtain ⟨e1, e2⟩ := rc_and g5
    have e1 := beq_eq e1
    have e2 := beq_eq e2
    have ea : sb (rint σ a) = (rbd a env).1 := by omega
    have eb : sb (rint σ b) = (rbd b env).1 := by omega
    obtain ⟨f1, f2⟩ := hf (rbias (rbd a env).1) (rbias (rbd b env).1) (rbias_lt _) (rbias_lt _)
    refine ⟨σ, _, env, risI_lit f1, g6, ?_, h1, h2, h4, rfl⟩
    rw [rint_lit f1, f2, ← ea, ← eb, ← of_sb, ← of_sb]
  · obtain ⟨c1, c2⟩ := hbf _ _ _ _ a1 a2 b1 b2 (fun hl => by
      have e : rbd b env = (rbias b, rbias b) := by
        unfold rbd
        rw [show rlit b = true from Nat.ble_eq_true_of_le (Nat.le_of_lt_succ hl)]
      rw [e])
    exact rnew_spec g6 h1 h2 h4 c1 c2
theorem o_ar {f : Nat → Nat → Nat} {bf : Nat → Nat → Nat → Nat → Nat × Nat} {F : Int32 → Int32 → Int32} (hf : ∀ a b, a < 4294967296 → b < 4294967296 → f a b < 4294967296 ∧ Int32.ofNat (f a b) = F (Int32.ofNat a) (Int32.ofNat b))
    (hbf : ∀ (x y : Int32) la ha lb hb, la ≤ sb x → sb x ≤ ha → lb ≤ sb y → sb y ≤ hb → (bf la ha lb hb).1 ≤ sb (F x y) ∧ sb (F x y) ≤ (bf la ha lb hb).2) (nx : rNx Wf D tc z0 ξ ζ H0 nL pc' ih rest)
    {a b : Nat} (hk : rar f bf a b ls st h env (fun v env' => ih rest ls (v :: st) h NB nc ns env') = true)
    (row : ∀ H locs nc ns LS st x y, Wf H locs nc ns pc' LS (.int (F x y) :: st) → Wf H locs nc ns pc LS (.int y :: .int x :: st)) : rGo Wf D tc z0 ξ ζ H0 nL pc ls (b :: a :: st) h NB nc ns env := by
  intro σ ρ H locs LS I
  obtain ⟨ha, hb, σ', c, env', hc, g, ev, j1, j2, j4, js⟩ := rar_spec hf (fun _ _ _ _ p1 p2 p3 p4 _ => hbf _ _ _ _ _ _ p1 p2 p3 p4) hk I.1 I.2.1 I.2.2.2.1
  have w := nx _ _ _ _ _ _ _ g ρ H locs LS ⟨j1, j2, mem2 I.2.2.1 (rwf_I hc), j4, I.2.2.2.2⟩
  rw [List.map_cons, js, rval_I hc, ev] at w
  show Wf _ _ _ _ _ _ (rval ρ σ b :: rval ρ σ a :: st.map (rval ρ σ))
  rw [rval_I ha, rval_I hb]
  exact row _ _ _ _ _ _ _ _ w
end New

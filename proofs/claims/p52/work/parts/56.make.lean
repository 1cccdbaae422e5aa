/-! STORES OF REFERENCES, NEW CELLS, CASTS -/
section MakeOps
variable {Wf : rWf} {D : va_G} {tc : Nat → ClassId} {z0 : Nat → Prop} {ξ : rX} {ζ : rZ} {σ : Nat → Int32} {H0 : Heap} {nL pc pc' tgt : Nat} {ih : rG} {rest tg : rCode} {ls st : List Nat} {h : rH} {NB nc ns : Nat} {env : rE}
/-- the class of a kind of cell -/
def rcls (D : va_G) (tc : Nat → ClassId) (k : Nat) : ClassId := if k < 64 then D.1 (k - 1) else tc (k - 64)
/-- a cell of a kind that isn't 0 is some cell of that class -/
theorem rCR.some {ρ : Nat → Nat} {c q : Nat} {H : Heap} (hc : rCR D tc z0 ρ σ c q H) (h1 : 1 ≤ c % 1024) (h2 : c % 65536 ≤ 1087) : ∃ cell : Cell, H[q]? = some cell ∧ cell.cls = rcls D tc (c % 1024) ∧ rVm cell := by
  unfold rcls
  rcases Nat.lt_or_ge (c % 1024) 64 with g | g
  · rw [if_pos g]
    obtain ⟨r, -, cell, e1, e2, e3, -⟩ := hc.obj rfl h1 g
    exact ⟨cell, e1, e2, e3⟩
  · rw [if_neg (by omega)]
    rcases Nat.lt_or_ge (c % 65536) 1024 with r | r
    · obtain ⟨-, e1⟩ := hc.2.2.1 (by omega) r
      rw [show c % 65536 = c % 1024 by omega] at e1
      exact ⟨_, e1, rfl, fun x => by (cases x), fun _ x => by (cases x)⟩
    · omega
theorem o_aastS {kd v j o : Nat} (h1 : 64 ≤ kd) (h2 : kd < 1024) (hw : rwf NB v) (hv : v < 73786976294838206464) (nx : rNx Wf D tc z0 ξ ζ H0 nL pc' ih rest) (hk : oAastS kd v j o ih rest ls st h NB nc ns env = true)
    {ρ : Nat → Nat} {H : Heap} {locs : List Loc} {LS : Array Slot} (hI : rHR D tc z0 ξ ρ σ h NB H) (hL : rLR ρ σ NB nL ls LS) (hst : ∀ x ∈ st, rwf NB x) (hE : rEN ζ σ env) (hS : va_S z0 H0 H locs)
    (row : ∀ (q n : Nat) (f : Nat → Value) (j : Nat), H[q]? = some (arrV (tc (kd - 64)) n f) → z0 q → j < n → j < 2147483648 →
      (∀ H1 locs1, H1.size = H.size → (∀ x : Nat, x ≠ q → H1[x]? = H[x]?) → H1[q]? = some (arrV (tc (kd - 64)) n (updV f j (rval ρ σ v))) → va_S z0 H0 H1 locs1 → Wf H1 locs1 nc ns pc' LS (st.map (rval ρ σ))) → Wf H locs nc ns pc LS (rval ρ σ v :: .int (Int32.ofNat j) :: .ref q :: st.map (rval ρ σ))) :
    Wf H locs nc ns pc LS (rval ρ σ v :: rval ρ σ j :: rval ρ σ o :: st.map (rval ρ σ)) := by
  obtain ⟨hj, j', env', lj, ej, he, g2⟩ := rconc_spec hk hE
  obtain ⟨g3, g4, g5, g6⟩ := rcell_spec g2
  obtain ⟨g7, g8⟩ := rc_and g6
  have hN := hI.2.2.1
  obtain ⟨c1, c2⟩ := hI.2.2.2.2.1 (o - 4294967296) (by omega)
  have hlt : j' < rlen (rget h (o - 4294967296)) := ble_le g7
  have h31 := rlen_small (rget h (o - 4294967296))
  obtain ⟨hz, e1⟩ := c1.2.2.1 (by omega) (by omega)
  rw [g5] at e1
  have hv72 := rslot72 hv
  obtain ⟨h', k1, k2, k3⟩ := rset_spec h 0 1024 hI.1 (o - 4294967296) (rput (rget h (o - 4294967296)) (rsh j') v) (Nat.zero_le _) (by omega) _ g8
  rw [rval_I hj, ej, rval_ref g3 (show o < 8589934592 by omega)]
  refine row _ _ _ _ e1 hz hlt (by omega) fun H1 locs1 z oq hat hS1 => ?_
  refine nx _ _ _ _ _ _ _ k1 ρ H1 locs1 LS ⟨hI.upd (by omega) (by omega) (by rw [rkind_put]) k2 k3 z oq ?_ fun i hi => ?_, hL, hst, he, hS1⟩
  · refine ⟨by rw [z]; exact c1.1, fun _ a => ?_, fun _ _ => ⟨hz, ?_⟩, fun a _ => ?_, fun a => ?_⟩
    · rw [rkind_put] at a; omega
    · rw [rkind_put, g5, hat, rlen_put]
      congr 1
      refine arrV_congr fun i hi => ?_
      rw [rslot_put _ _ _ _ hv72]
      unfold updV
      split <;> rfl
    · rw [rkind_put] at a; omega
    · rw [rkind_put] at a; omega
  · rw [rlen_put] at hi
    rw [rslot_put _ _ _ _ hv72]
    split
    · exact hw
    · exact c2 i hi
theorem o_aast {kd : Nat} (h1 : 64 ≤ kd) (h2 : kd < 1024) (nx : rNx Wf D tc z0 ξ ζ H0 nL pc' ih rest) (hk : oAast kd ih rest ls st h NB nc ns env = true)
    (rowN : kd ≤ 73 → ∀ H locs nc ns LS st (q n : Nat) (f : Nat → Value) (j : Nat), H[q]? = some (arrV (tc (kd - 64)) n f) → z0 q → va_S z0 H0 H locs → j < n → j < 2147483648 →
      (∀ H1 locs1, H1.size = H.size → (∀ x : Nat, x ≠ q → H1[x]? = H[x]?) → H1[q]? = some (arrV (tc (kd - 64)) n (updV f j .null)) → va_S z0 H0 H1 locs1 → Wf H1 locs1 nc ns pc' LS st) → Wf H locs nc ns pc LS (.null :: .int (Int32.ofNat j) :: .ref q :: st))
    (rowR : ∀ H locs nc ns LS st (q n : Nat) (f : Nat → Value) (j v kv : Nat) (cv : Cell), rasg kd kv = true → H[v]? = some cv → cv.cls = rcls D tc kv → (∀ x, cv.vm ≠ .statics x) → H[q]? = some (arrV (tc (kd - 64)) n f) → z0 q → va_S z0 H0 H locs → j < n → j < 2147483648 →
      (∀ H1 locs1, H1.size = H.size → (∀ x : Nat, x ≠ q → H1[x]? = H[x]?) → H1[q]? = some (arrV (tc (kd - 64)) n (updV f j (.ref v))) → va_S z0 H0 H1 locs1 → Wf H1 locs1 nc ns pc' LS st) → Wf H locs nc ns pc LS (.ref v :: .int (Int32.ofNat j) :: .ref q :: st)) : rGo Wf D tc z0 ξ ζ H0 nL pc ls st h NB nc ns env := by
  obtain ⟨v, st0, rfl, g00⟩ := pop1_spec hk
  obtain ⟨j, st1, rfl, g0⟩ := pop1_spec g00
  obtain ⟨o, st', rfl, g1⟩ := pop1_spec g0
  intro σ ρ H locs LS I
  have hN := I.1.2.2.1
  show Wf _ _ _ _ _ _ (rval ρ σ v :: rval ρ σ j :: rval ρ σ o :: st'.map (rval ρ σ))
  rcases rc_or g1 with ⟨a, b⟩ | ⟨-, b⟩
  · have e : v = 8589934592 := beq_eq a
    obtain ⟨b73, b⟩ := rc_and b
    refine o_aastS h1 h2 (I.2.2.1 v List.mem_cons_self) (by omega) nx b I.1 I.2.1 (mem0 (mem0 (mem0 I.2.2.1))) I.2.2.2.1 I.2.2.2.2 fun q n f j e1 e2 e3 e4 kk => ?_
    rw [e, rval_null] at kk ⊢
    exact rowN (ble_le b73) _ _ _ _ _ _ _ _ _ _ e1 e2 I.2.2.2.2 e3 e4 kk
  · obtain ⟨a1, b1⟩ := rc_and b
    obtain ⟨a2, b2⟩ := rc_and b1
    obtain ⟨a3, b3⟩ := rc_and b2
    obtain ⟨a4, b4⟩ := rc_and b3
    have v1 : 4294967296 ≤ v := ble_le a1
    have v2 : v < NB := ble_le a2
    have a3 : rasg kd (rget h (v - 4294967296) % 1024) = true := a3
    have a4 : rget h (v - 4294967296) % 65536 ≤ 1087 := ble_le a4
    obtain ⟨c1, -⟩ := I.1.2.2.2.2.1 (v - 4294967296) (by omega)
    have hk1 : 1 ≤ rget h (v - 4294967296) % 1024 := by
      rcases Nat.eq_zero_or_pos (rget h (v - 4294967296) % 1024) with q | q
      · rw [q] at a3
        exfalso
        have : rasg kd 0 = false := by
          show rc (Nat.beq kd (nat_lit 70)) false (rc (Nat.beq kd (nat_lit 71)) false (rc (Nat.beq kd (nat_lit 72)) false (rc (Nat.beq kd (nat_lit 73)) false (rc (Nat.beq kd (nat_lit 74)) false false)))) = false
          cases Nat.beq kd (nat_lit 70) <;> cases Nat.beq kd (nat_lit 71) <;> cases Nat.beq kd (nat_lit 72) <;> cases Nat.beq kd (nat_lit 73) <;> cases Nat.beq kd (nat_lit 74) <;> rfl
        rw [this] at a3
        cases a3
      · exact q
    obtain ⟨cv, d1, d2, d3⟩ := c1.some hk1 a4
    refine o_aastS h1 h2 (I.2.2.1 v List.mem_cons_self) (by omega) nx b4 I.1 I.2.1 (mem0 (mem0 (mem0 I.2.2.1))) I.2.2.2.1 I.2.2.2.2 fun q n f j e1 e2 e3 e4 kk => ?_
    rw [rval_ref v1 (by omega)] at kk ⊢
    exact rowR _ _ _ _ _ _ _ _ _ _ _ _ cv a3 d1 d2 d3.2 e1 e2 I.2.2.2.2 e3 e4 kk
/-- a cell that a row has made comes to the small machine -/
theorem o_mk {c w B1 B2 R1 R2 : Nat} {k : rH → Bool} (hB1 : B1 ≤ R1) (hB2 : B2 ≤ R2) (hk : rmk c w B1 B2 h NB nc ns k = true) {ρ : Nat → Nat} {H : Heap} (hI : rHR D tc z0 ξ ρ σ h NB H) :
    nc + 1 ≤ R1 ∧ ns + w ≤ R2 ∧ NB < 4294968320 ∧ ∃ h', k h' = true ∧ ∀ (H1 : Heap), H.size < H1.size → (∀ x : Nat, x < H.size → H1[x]? = H[x]?) → rCR D tc z0 (va_up ρ (NB - 4294967296) H.size) σ c H.size H1 → (∀ j, j < rlen c → rwf (NB + 1) (rslot c (rsh j))) →
      rHR D tc z0 ξ (va_up ρ (NB - 4294967296) H.size) σ h' (NB + 1) H1 := by
  obtain ⟨a1, b1⟩ := rc_and hk
  obtain ⟨a2, b2⟩ := rc_and b1
  obtain ⟨a3, b3⟩ := rc_and b2
  have hN := hI.2.1.1
  have a3 : NB < 4294968320 := Nat.lt_of_succ_le (Nat.le_trans (ble_le a3) (by decide))
  obtain ⟨h', k1, k2, k3⟩ := rset_spec h 0 1024 hI.1 (NB - 4294967296) c (Nat.zero_le _) (by omega) _ b3
  refine ⟨Nat.le_trans (ble_le a1) hB1, Nat.le_trans (ble_le a2) hB2, a3, h', k1, fun H1 z oq hc hw => ?_⟩
  exact hI.new a3 k2 k3 rfl (Nat.le_of_lt z) oq hc hw
theorem rval_new {ρ : Nat → Nat} {q : Nat} (h1 : 4294967360 ≤ NB) (h2 : NB < 4294968320) : rval (va_up ρ (NB - 4294967296) q) σ NB = .ref q := by
  rw [rval_ref (by omega) (by omega), va_up_self]
theorem map_new {ρ : Nat → Nat} {q : Nat} (hst : ∀ x ∈ st, rwf NB x) (h1 : 4294967296 ≤ NB) : st.map (rval (va_up ρ (NB - 4294967296) q) σ) = st.map (rval ρ σ) :=
  List.map_congr_left fun x hx => rval_congr (NB := NB) (fun a ha => va_up_ne ρ q (by omega)) (hst x hx)
theorem o_new {c kd n B1 B2 R1 R2 : Nat} (hB1 : B1 ≤ R1) (hB2 : B2 ≤ R2) (hkd : c % 65536 = kd) (h1 : 1 ≤ kd) (h2 : kd < 64) (hn : rlen c = n) (hz : ∀ j, j < n → ∀ NB, rwf NB (rslot c (rsh j))) (nx : rNx Wf D tc z0 ξ ζ H0 nL pc' ih rest) (hk : oNew c B1 B2 ih rest ls st h NB nc ns env = true)
    (row : ∀ {σ : Nat → Int32} (ρ : Nat → Nat) H locs nc ns LS st, nc + 1 ≤ R1 → ns + n ≤ R2 → va_S z0 H0 H locs → (∀ H1, H.size < H1.size → (∀ x : Nat, x < H.size → H1[x]? = H[x]?) → va_at D vwCl (H.size, .inr (kd - 1, rfl_ ρ σ c)) H1 → Wf H1 locs (nc + 1) (ns + n) pc' LS (.ref H.size :: st)) → Wf H locs nc ns pc LS st) : rGo Wf D tc z0 ξ ζ H0 nL pc ls st h NB nc ns env := by
  intro σ ρ H locs LS I
  obtain ⟨a1, a2, a3, h', k1, k2⟩ := o_mk hB1 hB2 hk I.1
  have hN := I.1.2.1.1
  subst hn
  refine row (σ := σ) (va_up ρ (NB - 4294967296) H.size) H locs nc ns LS _ a1 a2 I.2.2.2.2 fun H1 z oq hat => ?_
  have hup : ∀ a, a + 4294967296 < NB → va_up ρ (NB - 4294967296) H.size a = ρ a := fun a ha => va_up_ne ρ H.size (by omega)
  have g := nx _ _ _ _ _ _ _ k1 (va_up ρ (NB - 4294967296) H.size) H1 locs LS ⟨k2 H1 z oq ⟨z, fun _ _ => ⟨I.1.2.2.2.1 _ (Nat.le_refl _), by rw [hkd]; exact hat⟩, fun a _ => by omega, fun a _ => by omega, fun a => by omega⟩ (fun j hj => hz j hj _), I.2.1.congr hup (Nat.le_succ _), ?_, I.2.2.2.1, ?_⟩
  · rw [List.map_cons, rval_new hN a3, map_new I.2.2.1 (by omega)] at g
    exact g
  · intro x hx
    rcases List.mem_cons.mp hx with e | e
    · rw [e]; exact fun _ _ => Nat.lt_succ_self _
    · exact (I.2.2.1 x e).mono (Nat.le_succ _)
  · obtain ⟨b1, b2, b3⟩ := I.2.2.2.2
    exact ⟨Nat.le_trans b1 (Nat.le_of_lt z), fun x x1 x2 => (oq x (Nat.lt_of_lt_of_le x1 b1)).trans (b2 x x1 x2), b3⟩
end MakeOps

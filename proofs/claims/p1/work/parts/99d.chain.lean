/-! FORGETTING AND RENAMING CELLS; LOOPS IN CHUNKS -/
theorem rAll_ok {p : Nat → Bool} : ∀ n, rAll n p = true → ∀ i, i < n → p i = true := by
  intro n
  induction n with
  | zero => intro _ i hi; exact absurd hi (Nat.not_lt_zero i)
  | succ n ih =>
    intro h i hi
    obtain ⟨h1, h2⟩ := rc_and (show rc (p n) (rAll n p) false = true from h)
    rcases Nat.lt_or_ge i n with g | g
    · exact ih h2 i g
    · rw [show i = n by omega]; exact h1
theorem rsub_ok : ∀ (t u : rH), rsub t u = true → ∀ i, rget t i = rget u i ∨ rget t i = 0 := by
  intro t
  induction t with
  | leaf x =>
    intro u h i
    cases u with
    | leaf y =>
      rcases rc_or (show rc (Nat.beq x 0) true (Nat.beq x y) = true from h) with ⟨a, -⟩ | ⟨-, a⟩
      · exact Or.inr (beq_eq a)
      · exact Or.inl (beq_eq a)
    | branch q l r => cases h
  | branch p l r il ir =>
    intro u h i
    cases u with
    | leaf y => cases h
    | branch q l2 r2 =>
      obtain ⟨h1, h2⟩ := rc_and (show rc (Nat.beq p q) (rc (rsub l l2) (rsub r r2) false) false = true from h)
      obtain ⟨h3, h4⟩ := rc_and h2
      have e := beq_eq h1
      subst e
      show rc (Nat.ble p i) (rget r i) (rget l i) = rc (Nat.ble p i) (rget r2 i) (rget l2 i) ∨ rc (Nat.ble p i) (rget r i) (rget l i) = 0
      cases Nat.ble p i with
      | true => exact ir _ h4 i
      | false => exact il _ h3 i
section Forget
variable {D : va_G} {tc : Nat → ClassId} {z0 : Nat} {ξ : rX} {ρ ρ' : Nat → Nat} {σ : Nat → Int32} {h h' : rH} {NB NB' : Nat} {H : Heap}
theorem rCR.vals {c c' q : Nat} (h : rCR D tc z0 ρ σ c q H) (hk : c' % 65536 = c % 65536) (hl : rlen c' = rlen c) (hv : ∀ j, j < rlen c → rval ρ' σ (rslot c' (rsh j)) = rval ρ σ (rslot c (rsh j))) : rCR D tc z0 ρ' σ c' q H := by
  have ef : rfl_ ρ' σ c' = rfl_ ρ σ c := by
    unfold rfl_
    rw [hl]
    exact List.map_congr_left (fun j hj => hv j (List.mem_range.mp hj))
  obtain ⟨h0, h1, h2, h3, h4⟩ := h
  refine ⟨h0, fun a b => ?_, fun a b => ?_, fun a b => ?_, fun a => ?_⟩
  · rw [hk] at a b ⊢
    rw [ef]
    exact h1 a b
  · rw [hk] at a b ⊢
    rw [hl, arrV_congr hv]
    exact h2 a b
  · rw [hk] at a b ⊢
    rw [ef]
    exact h3 a b
  · rw [hk] at a ⊢
    obtain ⟨x, y, cell, e1, e2, e3, e4, e5, e6⟩ := h4 a
    exact ⟨x, y, cell, e1, e2, e3, by rw [hl]; exact e4, by rw [hl]; exact e5, fun j hj => by rw [hl] at hj; rw [hv j hj]; exact e6 j hj⟩
theorem rCR.zero {q : Nat} (hq : q < H.size) : rCR D tc z0 ρ σ 0 q H := ⟨hq, fun a => absurd a (by decide), fun a => absurd a (by decide), fun a => absurd a (by decide), fun a => absurd a (by decide)⟩
theorem rlen_0 : rlen 0 = 0 := rfl
theorem rHR.forget (hh : rHR D tc z0 ξ ρ σ h NB H) (hw : rtw h' 0 1024) (hs : ∀ a, rget h' a = rget h a ∨ rget h' a = 0) : rHR D tc z0 ξ ρ σ h' NB H := by
  obtain ⟨a1, a2, a3, a4, a5, a6⟩ := hh
  refine ⟨hw, a2, a3, a4, fun a ha => ?_, fun a b ha hb ka kb e => ?_⟩
  · rcases hs a with q | q
    · rw [q]; exact a5 a ha
    · rw [q]; exact ⟨rCR.zero (a5 a ha).1.1, fun j hj => absurd hj (by rw [rlen_0]; exact Nat.not_lt_zero j)⟩
  · rcases hs a with q | q
    · rcases hs b with r | r
      · rw [q] at ka; rw [r] at kb; exact a6 a b ha hb ka kb e
      · rw [r] at kb; exact absurd rfl kb
    · rw [q] at ka; exact absurd rfl ka.1
/-- fewer cells -/
theorem rHR.cut (hh : rHR D tc z0 ξ ρ σ h NB H) (h1 : 4294967360 ≤ NB') (h2 : ξ.1 ≤ NB') (h3 : NB' ≤ NB) (hw : rwb NB' h (NB' - 4294967296) = true) : rHR D tc z0 ξ ρ σ h NB' H := by
  obtain ⟨a1, a2, a3, a4, a5, a6⟩ := hh
  refine ⟨a1, ⟨h1, a2.2.1, h2, a2.2.2.2⟩, by omega, a4, fun a ha => ⟨(a5 a (by omega)).1, fun j hj => ?_⟩, fun a b ha hb => a6 a b (by omega) (by omega)⟩
  have g := rAll_ok _ (rAll_ok _ hw a (by omega)) j hj
  rcases rc_or g with ⟨g, -⟩ | ⟨-, g⟩
  · rcases rc_or g with ⟨q, -⟩ | ⟨-, q⟩
    · exact rwf_lt (Nat.lt_of_le_of_lt (ble_le q) (by decide))
    · exact rwf_ge (ble_le q)
  · exact fun _ _ => ble_le g
theorem rkeys_ok {n : Nat} : ∀ (mp : List (Nat × Nat)), rkeys mp n = true → ∀ a, a < n → rgm mp a = a := by
  intro mp
  induction mp with
  | nil => intro _ a _; rfl
  | cons q t ih =>
    intro h a ha
    obtain ⟨h1, h2⟩ := rc_and (show rc (Nat.ble n q.1) (rkeys t n) false = true from h)
    have := ble_le h1
    have hb : Nat.beq q.1 a = false := by
      cases hb : Nat.beq q.1 a with
      | false => rfl
      | true => have := beq_eq hb; omega
    show rc (Nat.beq q.1 a) q.2 (rlook t a a) = a
    rw [hb]
    exact ih h2 a ha
/-- cells at new addresses -/
theorem rHR.ren {mp : List (Nat × Nat)} {NB0 : Nat} {ρ0 : Nat → Nat} (hh : rHR D tc z0 (NB0, ρ0) ρ σ h NB H) (hw : rtw h' 0 1024) (hb : rrenB mp NB0 NB' NB h' h = true) : rHR D tc z0 (NB0, ρ0) (fun a => ρ (rgm mp a)) σ h' NB' H := by
  obtain ⟨b1, hb⟩ := rc_and hb
  obtain ⟨b2, hb⟩ := rc_and hb
  obtain ⟨b3, hb⟩ := rc_and hb
  obtain ⟨b4, hb⟩ := rc_and hb
  obtain ⟨b5, b6⟩ := rc_and hb
  have b1 : 4294967360 ≤ NB0 := ble_le b1
  have b2 : NB0 ≤ NB' := ble_le b2
  have b3 : NB' ≤ NB := ble_le b3
  have g0 : ∀ a, a + 4294967296 < NB0 → rgm mp a = a := fun a ha => rkeys_ok mp b4 a (show a < NB0 - 4294967296 by omega)
  have g1 : ∀ a, a + 4294967296 < NB' → rrc mp NB' (rget h' a) (rget h (rgm mp a)) = true ∧ rgm mp a + 4294967296 < NB := fun a ha => by
    obtain ⟨q1, q2⟩ := rc_and (rAll_ok _ b5 a (show a < NB' - 4294967296 by omega))
    exact ⟨q1, ble_le q2⟩
  have g2 : ∀ a, NB0 ≤ a + 4294967296 → a + 4294967296 < NB' → NB0 ≤ rgm mp a + 4294967296 ∧ ∀ c, NB0 ≤ c + 4294967296 → c < a → rgm mp a ≠ rgm mp c := fun a h1 h2 => by
    obtain ⟨q1, q2⟩ := rc_and (rAll_ok _ b6 (a - (NB0 - 4294967296)) (show a - (NB0 - 4294967296) < NB' - NB0 by omega))
    have e1 : NB0 - 4294967296 + (a - (NB0 - 4294967296)) = a := by omega
    have q1 : NB0 - 4294967296 ≤ rgm mp (NB0 - 4294967296 + (a - (NB0 - 4294967296))) := ble_le q1
    rw [e1] at q1
    refine ⟨by omega, fun c h3 h4 e => ?_⟩
    have q3 : rc (Nat.beq (rgm mp (NB0 - 4294967296 + (a - (NB0 - 4294967296)))) (rgm mp (NB0 - 4294967296 + (c - (NB0 - 4294967296))))) false true = true := rAll_ok _ q2 (c - (NB0 - 4294967296)) (by omega)
    rw [e1, show NB0 - 4294967296 + (c - (NB0 - 4294967296)) = c by omega, e] at q3
    obtain ⟨q4, -⟩ := rc_nand q3
    rw [Nat.beq_refl] at q4
    cases q4
  have inj : ∀ a c, a + 4294967296 < NB' → c + 4294967296 < NB' → rgm mp a = rgm mp c → a = c := fun a c ha hc e => by
    rcases Nat.lt_or_ge (a + 4294967296) NB0 with p | p
    · rcases Nat.lt_or_ge (c + 4294967296) NB0 with q | q
      · rw [g0 a p, g0 c q] at e; exact e
      · have := (g2 c q hc).1
        rw [g0 a p] at e
        omega
    · rcases Nat.lt_or_ge (c + 4294967296) NB0 with q | q
      · have := (g2 a p ha).1
        rw [g0 c q] at e
        omega
      · rcases Nat.lt_trichotomy a c with r | r | r
        · exact absurd e.symm ((g2 c q hc).2 a p r)
        · exact r
        · exact absurd e ((g2 a p ha).2 c q r)
  obtain ⟨a1, a2, a3, a4, a5, a6⟩ := hh
  have slots : ∀ x y, rrs mp NB' x y = true → rval (fun a => ρ (rgm mp a)) σ x = rval ρ σ y ∧ rwf NB' x := fun x y hx => by
    rcases rc_or hx with ⟨p, q⟩ | ⟨-, q⟩
    · have e := beq_eq q
      subst e
      have hw0 : rwf 0 x := by
        rcases rc_or p with ⟨r, -⟩ | ⟨-, r⟩
        · exact rwf_lt (Nat.lt_of_le_of_lt (ble_le r) (by decide))
        · exact rwf_ge (ble_le r)
      exact ⟨rval_congr (NB := 0) (fun a ha => absurd ha (Nat.not_lt_zero _)) hw0, hw0.mono (Nat.zero_le _)⟩
    · obtain ⟨q1, q2⟩ := rc_and q
      have q1 : x < NB' := ble_le q1
      have q2 : y = 4294967296 + rgm mp (x - 4294967296) := beq_eq q2
      rcases Nat.lt_or_ge x 4294967296 with r | r
      · rename_i p
        have p2 := (rc_nand (show rc (Nat.ble x (nat_lit 4294967295)) false true = true by
          cases hx2 : Nat.ble x (nat_lit 4294967295) with
          | false => rfl
          | true => exact absurd (Nat.le_of_ble_eq_true hx2) (by
              intro _
              have hx3 := hx
              unfold rrs at hx3
              rw [hx2] at hx3
              have := beq_eq (show Nat.beq x y = true from hx3)
              omega))).1
        have h9 : 4294967295 < x := ble_nle p2
        omega
      · have h3 := (g1 (x - 4294967296) (by omega)).2
        refine ⟨?_, fun _ _ => q1⟩
        rw [rval_ref r (by omega), q2, rval_ref (by omega) (by omega), show 4294967296 + rgm mp (x - 4294967296) - 4294967296 = rgm mp (x - 4294967296) by omega]
  refine ⟨hw, ⟨by omega, fun a ha => ?_, b2, fun a ha => ?_⟩, by omega, a4, fun a ha => ?_, fun a c ha hc ka kc e => ?_⟩
  · show ρ (rgm mp a) = ρ0 a
    rw [g0 a (by omega)]
    exact a2.2.1 a ha
  · show ρ (rgm mp a) = ρ0 a
    rw [g0 a ha]
    exact a2.2.2.2 a ha
  · obtain ⟨q1, q2⟩ := g1 a ha
    obtain ⟨c1, c2⟩ := a5 _ q2
    rcases rc_or q1 with ⟨z, -⟩ | ⟨-, q1⟩
    · rw [beq_eq z]
      exact ⟨rCR.zero c1.1, fun j hj => absurd hj (by rw [rlen_0]; exact Nat.not_lt_zero j)⟩
    · obtain ⟨r1, q1⟩ := rc_and q1
      obtain ⟨r2, r3⟩ := rc_and q1
      have r1 : rget h' a % 65536 = rget h (rgm mp a) % 65536 := beq_eq r1
      have r2 := beq_eq r2
      refine ⟨c1.vals r1 r2 fun j hj => (slots _ _ (rAll_ok _ r3 j hj)).1, fun j hj => ?_⟩
      rw [r2] at hj
      exact (slots _ _ (rAll_ok _ r3 j hj)).2
  · have kk : ∀ x, x + 4294967296 < NB' → rget h' x % 65536 ≠ 0 → rget h' x % 65536 = rget h (rgm mp x) % 65536 := fun x hx hk => by
      rcases rc_or (g1 x hx).1 with ⟨z, -⟩ | ⟨-, q1⟩
      · rw [beq_eq z] at hk; exact absurd rfl hk
      · exact beq_eq (rc_and q1).1
    have k1 := kk a ha ka.1
    have k2 := kk c hc kc
    exact inj a c ha hc (a6 _ _ (g1 a ha).2 (g1 c hc).2 (by rw [← k1]; exact ka) (by rw [← k2]; exact kc) e)
end Forget

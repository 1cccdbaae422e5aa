/-! THE START: the symbols, the addresses, the world, the first tree -/
section Second
/-- the symbols: the script's ints (0 to 8), as chars (16 more), & 63 (32 more), the chars by 8 (48 more) -/
def st_ch (x : Int32) : Int32 := (x.toUInt32 % 65536).toInt32
def st_sg (xs : Nat → Int32) : Nat → Int32 := fun k => if k < 16 then xs k else if k < 32 then st_ch (xs (k - 16)) else if k < 48 then xs (k - 32) &&& 63 else ((st_ch (xs (k - 48))).toUInt32 >>> ((Int32.ofNat 8).toUInt32 &&& Int32.toUInt32 31)).toInt32
theorem st_ch_nat (x : Int32) : ∃ n, n < 65536 ∧ st_ch x = Int32.ofNat n := by
  refine ⟨Nat.mod (i32n x) (nat_lit 65536), Nat.mod_lt _ (by decide), ?_⟩
  rw [f_i2c (i32n_lt x), i32n_of]
  rfl
theorem st_toInt {n : Nat} (h : n < 2147483648) : (Int32.ofNat n).toInt = n := by
  rw [Int32.toInt_ofNat', show Int32.size = 4294967296 from rfl, Int.bmod_def]
  split <;> omega
theorem st_char {n : Nat} (h : n < 65536) : narrow .char (.int (Int32.ofNat n)) = .int (Int32.ofNat n) ∧ fits .char (.int (Int32.ofNat n)) = true := by
  have h0 : rChS (fun _ => (0 : Int32)) := fun k _ _ => (show narrow .char (.int (0 : Int32)) = .int 0 ∧ fits .char (.int (0 : Int32)) = true from ⟨rfl, rfl⟩)
  have hq : rty 2 n = true := by
    show rc (Nat.ble n (nat_lit 65535)) true (rc (rsym n) (rc (Nat.ble (nat_lit 16) (rsi n)) (Nat.ble (rsi n) (nat_lit 31)) false) false) = true
    rw [Nat.ble_eq_true_of_le (show n ≤ 65535 by omega)]
  have := rty_fits (ρ := fun a => a) h0 (t := 2) (ty := .char) rfl hq
  rw [rval_lit (by omega)] at this
  exact this
theorem st_Sy (xs : Nat → Int32) : rSy (st_sg xs) := by
  refine ⟨fun k hk => ?_, fun k hk => ?_, fun k h1 h2 => ?_⟩
  · show (if k + 16 < 16 then xs (k + 16) else if k + 16 < 32 then st_ch (xs (k + 16 - 16)) else _) = ((if k < 16 then xs k else _ : Int32).toUInt32 % 65536).toInt32
    rw [if_neg (by omega), if_pos (by omega), if_pos hk, show k + 16 - 16 = k by omega]
    rfl
  · show (if k + 32 < 16 then xs (k + 32) else if k + 32 < 32 then _ else if k + 32 < 48 then xs (k + 32 - 32) &&& 63 else _) = (if k < 16 then xs k else _ : Int32) &&& 63
    rw [if_neg (by omega), if_neg (by omega), if_pos (by omega), if_pos hk, show k + 32 - 32 = k by omega]
  · have e : st_sg xs k = st_ch (xs (k - 16)) := by
      show (if k < 16 then xs k else if k < 32 then st_ch (xs (k - 16)) else _) = _
      rw [if_neg (by omega), if_pos (by omega)]
    obtain ⟨n, hn, e2⟩ := st_ch_nat (xs (k - 16))
    rw [e, e2]
    exact st_char hn
theorem st_Sh (xs : Nat → Int32) : rSh (st_sg xs) := by
  intro k h1 h2
  have e : st_sg xs k = st_ch (xs (k - 16)) := by
    show (if k < 16 then xs k else if k < 32 then st_ch (xs (k - 16)) else _) = _
    rw [if_neg (by omega), if_pos (by omega)]
  obtain ⟨n, hn, e2⟩ := st_ch_nat (xs (k - 16))
  refine ⟨?_, ?_, ?_⟩
  · rw [e, e2, st_toInt (by omega)]; omega
  · rw [e, e2, st_toInt (by omega)]; omega
  · rw [e]
    show (if k + 32 < 16 then xs (k + 32) else if k + 32 < 32 then _ else if k + 32 < 48 then _ else ((st_ch (xs (k + 32 - 48))).toUInt32 >>> ((Int32.ofNat 8).toUInt32 &&& Int32.toUInt32 31)).toInt32) = _
    rw [if_neg (by omega), if_neg (by omega), if_neg (by omega), show k + 32 - 48 = k - 16 by omega]
theorem st_sb {n : Nat} (h : n < 2147483648) : sb (Int32.ofNat n) = n + 2147483648 := by
  unfold sb
  rw [st_toInt h]
  omega
theorem rnth_ge : ∀ (e : rE) (i : Nat), e.length ≤ i → rnth e i = (0, 4294967295) := by
  intro e
  induction e with
  | nil => intro i _; rfl
  | cons x t ih =>
    intro i h
    cases i with
    | zero => simp at h
    | succ i => rw [rnth_s]; exact ih i (by simpa using h)
noncomputable def st_e0 (i : Nat) : Bool := (Nat.beq (rnth rE0 i).1 0 && Nat.beq (rnth rE0 i).2 4294967295) || (Nat.ble 16 i && (Nat.ble i 31 && (Nat.beq (rnth rE0 i).1 2147483648 && Nat.beq (rnth rE0 i).2 2147549183)))
theorem st_e0_all : (List.range 64).all st_e0 = true := by decide +kernel
theorem st_e0_len : rE0.length = 64 := by decide +kernel
theorem st_EN (xs : Nat → Int32) : rEN (st_sg xs) rE0 := by
  intro i
  rcases Nat.lt_or_ge i 64 with g | g
  · have h := List.all_eq_true.mp st_e0_all i (List.mem_range.mpr g)
    unfold st_e0 at h
    simp only [Bool.or_eq_true, Bool.and_eq_true] at h
    rcases h with ⟨h1, h2⟩ | ⟨h1, h2, h3, h4⟩
    · rw [beq_eq h1, beq_eq h2]
      exact ⟨Nat.zero_le _, by have := sb_lt (st_sg xs i); omega⟩
    · rw [beq_eq h3, beq_eq h4]
      have h1 := ble_le h1
      have h2 := ble_le h2
      have e : st_sg xs i = st_ch (xs (i - 16)) := by
        show (if i < 16 then xs i else if i < 32 then st_ch (xs (i - 16)) else _) = _
        rw [if_neg (by omega), if_pos (by omega)]
      obtain ⟨n, hn, e2⟩ := st_ch_nat (xs (i - 16))
      rw [e, e2, st_sb (by omega)]
      omega
  · rw [rnth_ge _ _ (by rw [st_e0_len]; exact g)]
    exact ⟨Nat.zero_le _, by have := sb_lt (st_sg xs i); show _ ≤ 4294967295; omega⟩
theorem rEc_eq (lo hi : Nat) : rEc lo hi = rupd rE0 32 (lo, hi) := rfl
theorem st_ENc (xs : Nat → Int32) : ∃ c, c < 64 ∧ ∀ lo hi, lo ≤ c + 2147483648 → c + 2147483648 ≤ hi → rEN (st_sg xs) (rEc lo hi) := by
  refine ⟨Nat.land (i32n (xs 0)) 63, Nat.lt_of_le_of_lt (show i32n (xs 0) &&& 63 ≤ 63 from Nat.and_le_right) (by decide), fun lo hi h1 h2 => ?_⟩
  have hlt : Nat.land (i32n (xs 0)) 63 < 64 := Nat.lt_of_le_of_lt (show i32n (xs 0) &&& 63 ≤ 63 from Nat.and_le_right) (by decide)
  have e : st_sg xs 32 = Int32.ofNat (Nat.land (i32n (xs 0)) 63) := by
    rw [f_and, i32n_of]
    rfl
  have e2 : sb (st_sg xs 32) = Nat.land (i32n (xs 0)) 63 + 2147483648 := by rw [e, st_sb (by omega)]
  rw [rEc_eq]
  exact (st_EN xs).upd (by rw [e2]; exact h1) (by rw [e2]; exact h2)
/-- a word that is kept by warming -/
theorem st_Nw {args : Array Value} {s : State} {w : Cond} (hk : rnOk w = true) (h : w.before args s = true) : va_Nw w s := by
  unfold rnOk at hk
  split at hk
  · exact va_Nw.of rfl h
  · exact va_Nw.of rfl h
  · exact h
  · rw [Bool.and_eq_true] at hk; exact va_Nw.of hk.2 h
/-- the trees' shape -/
noncomputable def rtwB (t : rH) : Nat → Nat → Bool := Lean.RArray.rec (motive := fun _ => Nat → Nat → Bool) (fun _ lo hi => Nat.beq hi (Nat.succ lo)) (fun p _ _ l r lo hi => l lo p && r p hi) t
theorem rtwB_ok : ∀ (t : rH) (lo hi : Nat), rtwB t lo hi = true → rtw t lo hi := by
  intro t
  induction t with
  | leaf x => intro lo hi h; exact beq_eq (show Nat.beq hi (Nat.succ lo) = true from h)
  | branch p l r il ir =>
    intro lo hi h
    have h : (rtwB l lo p && rtwB r p hi) = true := h
    rw [Bool.and_eq_true] at h
    exact ⟨il _ _ h.1, ir _ _ h.2⟩
/-- a cell by its kind and slots -/
noncomputable def st_ck (c k : Nat) (L : List Nat) : Bool := Nat.beq (c % 65536) k && (Nat.beq (rlen c) L.length && (List.range L.length).all (fun j => Nat.beq (rslot c (rsh j)) (L.getD j 0)))
theorem st_ck_ok {c k : Nat} {L : List Nat} (h : st_ck c k L = true) : c % 65536 = k ∧ rlen c = L.length ∧ ∀ j, j < L.length → rslot c (rsh j) = L.getD j 0 := by
  unfold st_ck at h
  simp only [Bool.and_eq_true] at h
  exact ⟨beq_eq h.1, beq_eq h.2.1, fun j hj => beq_eq (List.all_eq_true.mp h.2.2 j (List.mem_range.mpr hj))⟩
def st_f8 : List Nat := [40, 25, 3, 50, 20, 4, 95, 105]
def st_d8 : List Nat := [3, 5, 6, 7, 9, 10, 11, 12]
/-- what lies at the place a of the first tree -/
noncomputable def st_c0 (a : Nat) : Bool := match stN a with
  | some _ => st_ck (rget rh0 a) 1025 [4294967296 + (a + 42), 0]
  | none => match stN (a - 42) with
    | some (_, L) => Nat.ble 42 a && (L.all (fun x => Nat.ble x 255) && st_ck (rget rh0 a) 1093 L)
    | none => if a = 1 then st_ck (rget rh0 a) 1088 st_f8 else if a = 3 then st_ck (rget rh0 a) 1088 st_d8 else if a = 18 then st_ck (rget rh0 a) 1094 [] else if a = 40 then st_ck (rget rh0 a) 1026 [0] else Nat.beq (rget rh0 a) 0
theorem st_c0_all : (List.range 64).all st_c0 = true := by decide +kernel
theorem st_w0 : rtwB rh0 0 1024 = true := by decide +kernel
noncomputable def st_k0 (a : Nat) : Bool := Nat.beq (rget rh0 a % 65536) 0 || Nat.ble 1024 (rget rh0 a % 65536)
theorem st_k0_all : (List.range 64).all st_k0 = true := by decide +kernel
section Cells
variable {D : va_G} {tc : Nat → ClassId} {z0 : Nat} {ρ : Nat → Nat} {σ : Nat → Int32} {H : Heap}
/-- an array that was there before, in the tree -/
theorem st_cA {c q t : Nat} {L : List Nat} (h : st_ck c (1088 + t) L = true) (ht : t < 13) (hL : ∀ j, j < L.length → L.getD j 0 < 4294967296) {cell : Cell} (hcell : H[q]? = some cell) (hz : q < z0) (hcls : rAl tc t cell.cls) (hvm : rVm cell)
    (h1 : L.length ≤ cell.slots.size) (h2 : cell.slots.size.toInt32 = Int32.ofNat L.length) (h3 : ∀ j, j < L.length → cell.slots[j]? = some (.int (Int32.ofNat (L.getD j 0)))) : rCR D tc z0 ρ σ c q H ∧ ∀ NB j, j < rlen c → rwf NB (rslot c (rsh j)) := by
  obtain ⟨g1, g2, g3⟩ := st_ck_ok h
  refine ⟨⟨(Array.getElem?_eq_some_iff.mp hcell).1, fun a b => by omega, fun a b => by omega, fun a b => by omega, fun a => ⟨hz, by omega, cell, hcell, ?_, hvm, by rw [g2]; exact h1, by rw [g2]; exact h2, fun j hj => ?_⟩⟩, fun NB j hj => ?_⟩
  · rw [g1, show 1088 + t - 1088 = t by omega]; exact hcls
  · rw [g2] at hj
    rw [g3 j hj, rval_lit (hL j hj)]
    exact h3 j hj
  · rw [g2] at hj
    rw [g3 j hj]
    exact rwf_lt (hL j hj)
/-- an object that was there before, in the tree -/
theorem st_cO {c q ci : Nat} {L : List Nat} (h : st_ck c (1025 + ci) L = true) (hci : ci < 63) (hz : q < z0) {r : vw_C} (hr : vwCl[ci]? = some r) (hN : r.2.2 = L.length) {cell : Cell} (hcell : H[q]? = some cell) (hcls : cell.cls = D.1 ci) (hvm : rVm cell) (h3 : ∀ j, j < L.length → cell.slots[D.2 ci j]? = some (rval ρ σ (L.getD j 0))) : rCR D tc z0 ρ σ c q H := by
  obtain ⟨g1, g2, g3⟩ := st_ck_ok h
  refine ⟨(Array.getElem?_eq_some_iff.mp hcell).1, fun a b => by omega, fun a b => by omega, fun a b => ⟨hz, ?_⟩, fun a => by omega⟩
  rw [g1, show 1025 + ci - 1025 = ci by omega]
  refine ⟨r, hr, cell, hcell, hcls, hvm, fun k hk => ?_⟩
  have hk2 : k < r.2.2 := hk
  rw [hN] at hk2
  have e := rfl_at (ρ := ρ) (σ := σ) (c := c) (k := k) (by rw [g2]; exact hk2)
  rw [g3 k hk2] at e
  have h4 := h3 k hk2
  show cell.slots[D.2 ci k]? = some (vp_V (rfl_ ρ σ c) k)
  rw [h4]
  simp [vp_V, e]
end Cells
end Second

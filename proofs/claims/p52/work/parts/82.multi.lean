/-! NEW ARRAYS OF ARRAYS -/
theorem rrefs_s (n q : Nat) : rrefs (n + 1) q = q + rrefs n (q + 1) * 2 ^ 72 := by
  show Nat.add q (Nat.shiftLeft (rrefs n (q + 1)) 72) = _
  rw [show Nat.shiftLeft (rrefs n (q + 1)) 72 = rrefs n (q + 1) * 2 ^ 72 from Nat.shiftLeft_eq _ _]
  rfl
theorem rrefs_slot : ∀ (n j q : Nat), j < n → q + n < 2 ^ 72 → rrefs n q / 2 ^ (72 * j) % 2 ^ 72 = q + j := by
  intro n
  induction n with
  | zero => intro j q h; omega
  | succ n ih =>
    intro j q h hq
    rw [rrefs_s]
    cases j with
    | zero => rw [Nat.mul_zero, Nat.pow_zero, Nat.div_one, Nat.add_mul_mod_self_right, Nat.mod_eq_of_lt (by omega)]; rfl
    | succ j =>
      rw [Nat.mul_add, Nat.mul_one, Nat.add_comm (72 * j), Nat.pow_add, ← Nat.div_div_eq_div_mul]
      rw [Nat.add_mul_div_right _ _ (by decide), Nat.div_eq_of_lt (show q < 2 ^ 72 by omega), Nat.zero_add, ih j (q + 1) (by omega) (by omega)]
      omega
theorem vr_outer (c : ClassId) (N h0 : Nat) : ∀ i : Nat, Jvm.Free.Multi.outerC c N h0 i = arrV c N (fun j => va_rf (if j < i then some (h0 + 1 + j) else none))
  | 0 => by
    show ({ cls := c, slots := Array.replicate N .null, vm := .none } : Cell) = _
    rw [arrV_new]
    refine congrArg (arrV c N) (funext fun j => ?_)
    simp [va_rf]
  | i + 1 => by
    show (Jvm.Free.Multi.outerC c N h0 i).setSlot i (.ref (h0 + 1 + i)) = _
    rw [vr_outer c N h0 i, arrV_store]
    refine congrArg (arrV c N) (funext fun j => ?_)
    by_cases e : j = i
    · subst e
      simp [updV, va_rf]
    · by_cases h : j < i
      · simp [updV, e, h, Nat.lt_succ_of_lt h]
      · simp [updV, e, h, show ¬ j < i + 1 by omega]
theorem rmany_spec (c w B1 B2 : Nat) : ∀ (n : Nat) (h : rH) (NB X nc ns : Nat) (k : rH → Nat → Nat → Nat → Bool), rtw h 0 1024 → NB = 4294967296 + X → rmany c w B1 B2 n h NB nc ns k = true →
    ∃ h', k h' (NB + n) (nc + n) (ns + n * w) = true ∧ rtw h' 0 1024 ∧ (n = 0 ∨ (nc + n ≤ B1 ∧ ns + n * w ≤ B2 ∧ NB + n ≤ 4294968319)) ∧
      ∀ j, j < 1024 → rget h' j = if X ≤ j ∧ j < X + n then c else rget h j := by
  intro n
  induction n with
  | zero =>
    intro h NB X nc ns k h1 _ hk
    refine ⟨h, by rw [Nat.zero_mul]; exact hk, h1, Or.inl rfl, fun j _ => ?_⟩
    rw [if_neg (by omega)]
  | succ n ih =>
    intro h NB X nc ns k h1 hN hk
    obtain ⟨a1, b1⟩ := rc_and (show rmk c w B1 B2 h NB nc ns (fun h' => rmany c w B1 B2 n h' (NB + 1) (nc + 1) (ns + w) k) = true from hk)
    obtain ⟨a2, b2⟩ := rc_and b1
    obtain ⟨a3, b3⟩ := rc_and b2
    have a1 : nc + 1 ≤ B1 := ble_le a1
    have a2 : ns + w ≤ B2 := ble_le a2
    have a3 : NB + 1 ≤ 4294968319 := ble_le a3
    have eX : Nat.sub NB (nat_lit 4294967296) = X := by show NB - 4294967296 = X; omega
    rw [eX] at b3
    obtain ⟨h', k1, k2, k3⟩ := rset_spec h 0 1024 h1 X c (Nat.zero_le _) (by omega) _ b3
    obtain ⟨h'', g1, g2, g3, g4⟩ := ih h' (NB + 1) (X + 1) (nc + 1) (ns + w) k k2 (by omega) k1
    have e : ns + (n + 1) * w = ns + w + n * w := by rw [Nat.succ_mul]; omega
    refine ⟨h'', by rw [e, show NB + (n + 1) = NB + 1 + n by omega, show nc + (n + 1) = nc + 1 + n by omega]; exact g1, g2, Or.inr ?_, fun j hj => ?_⟩
    · rw [e]
      rcases g3 with g3 | g3
      · subst g3
        rw [Nat.zero_mul]
        exact ⟨a1, a2, a3⟩
      · omega
    · rw [g4 j hj, k3 j (Nat.zero_le _) hj]
      by_cases q : j = X
      · rw [if_neg (by omega), if_pos q, if_pos (by omega)]
      · by_cases r : X + 1 ≤ j ∧ j < X + 1 + n
        · rw [if_pos r, if_pos (by omega)]
        · rw [if_neg r, if_neg q, if_neg (by omega)]
section ManyR
variable {D : va_G} {tc : Nat → ClassId} {z0 : Nat → Prop} {ξ : rX} {ρ : Nat → Nat} {ζ : rZ} {σ : Nat → Int32} {h : rH} {NB : Nat} {H : Heap}
/-- addresses of new cells, one behind the other -/
def rman (ρ : Nat → Nat) (X q : Nat) : Nat → Nat := fun a => if X ≤ a then q + (a - X) else ρ a
theorem rman_old {X q a : Nat} (h : a < X) : rman ρ X q a = ρ a := if_neg (by omega)
theorem rman_new {X q i : Nat} : rman ρ X q (X + i) = q + i := by
  unfold rman
  rw [if_pos (by omega)]
  omega
/-- K new cells -/
theorem rHR.many (hh : rHR D tc z0 ξ ρ σ h NB H) {K X : Nat} {v : Nat → Nat} {h' : rH} {H1 : Heap} (hX : NB = 4294967296 + X) (hN : NB + K ≤ 4294968320) (t1 : rtw h' 0 1024) (t2 : ∀ j, j < 1024 → rget h' j = if X ≤ j ∧ j < X + K then v (j - X) else rget h j)
    (hz : H.size + K ≤ H1.size) (he : ∀ x : Nat, x < H.size → H1[x]? = H[x]?) (hc : ∀ i, i < K → rCR D tc z0 (rman ρ X H.size) σ (v i) (H.size + i) H1) (hw : ∀ i, i < K → ∀ j, j < rlen (v i) → rwf (NB + K) (rslot (v i) (rsh j))) :
    rHR D tc z0 ξ (rman ρ X H.size) σ h' (NB + K) H1 := by
  obtain ⟨a1, a2, a3, a4, a5, a6⟩ := hh
  have hN0 := a2.1
  have lt : ∀ a, a + 4294967296 < NB → a < X := fun a ha => by omega
  have gt : ∀ a, a < X → a + 4294967296 < NB := fun a ha => by omega
  have old : ∀ a, a < X → rget h' a = rget h a := fun a ha => by rw [t2 a (by omega), if_neg (by omega)]
  refine ⟨t1, ⟨by omega, fun a ha => by rw [rman_old (by omega)]; exact a2.2.1 a ha, Nat.le_trans a2.2.2.1 (Nat.le_add_right _ _), fun a ha => by rw [rman_old (lt a (Nat.lt_of_lt_of_le ha a2.2.2.1))]; exact a2.2.2.2 a ha⟩, hN, (fun x hx => a4 x (by omega)), fun b hb => ?_, fun a b ha hb => ?_⟩
  · by_cases e : b < X
    · rw [old b e, rman_old e]
      exact ⟨((a5 b (gt b e)).1.kept (by omega) (he _ (a5 b (gt b e)).1.1)).congr (fun a ha => rman_old (lt a ha)) (a5 b (gt b e)).2, fun j hj => ((a5 b (gt b e)).2 j hj).mono (Nat.le_add_right _ _)⟩
    · obtain ⟨i, hi, rfl⟩ : ∃ i, i < K ∧ b = X + i := ⟨b - X, by omega, by omega⟩
      rw [t2 _ (by omega), if_pos (by omega), rman_new, show X + i - X = i by omega]
      exact ⟨hc i hi, hw i hi⟩
  · intro ka kb e
    by_cases qa : a < X
    · by_cases qb : b < X
      · rw [rman_old qa, rman_old qb] at e
        rw [old a qa] at ka
        rw [old b qb] at kb
        exact a6 a b (gt a qa) (gt b qb) ka kb e
      · obtain ⟨i, rfl⟩ : ∃ i, b = X + i := ⟨b - X, by omega⟩
        rw [rman_old qa, rman_new] at e
        have := (a5 a (gt a qa)).1.1
        omega
    · obtain ⟨i, rfl⟩ : ∃ i, a = X + i := ⟨a - X, by omega⟩
      by_cases qb : b < X
      · rw [rman_old qb, rman_new] at e
        have := (a5 b (gt b qb)).1.1
        omega
      · obtain ⟨j, rfl⟩ : ∃ j, b = X + j := ⟨b - X, by omega⟩
        rw [rman_new, rman_new] at e
        omega
end ManyR
theorem sub_help (A X j : Nat) : A + X + 1 + j - A = X + (1 + j) := by omega
section MultiO
variable {Wf : rWf} {D : va_G} {tc : Nat → ClassId} {z0 : Nat → Prop} {ξ : rX} {ζ : rZ} {σ : Nat → Int32} {H0 : Heap} {nL pc pc' : Nat} {ih : rG} {rest : rCode} {ls st : List Nat} {h : rH} {NB nc ns : Nat} {env : rE}
theorem o_multi {kd ki B1 B2 R1 R2 v : Nat} {z : Nat → Nat} {dv : Value} (hdv : ∀ ρ (σ : Nat → Int32), rval ρ σ v = dv) (hv : ∀ NB, rwf NB v) (hz : ∀ n j, j < n → z n / 2 ^ (72 * j) % 2 ^ 72 = v) (hB1 : B1 ≤ R1) (hB2 : B2 ≤ R2) (h1 : 64 ≤ kd) (h2 : kd < 1024) (h3 : 64 ≤ ki) (h4 : ki < 1024)
    (nx : rNx Wf D tc z0 ξ ζ H0 nL pc' ih rest) (hk : oMulti kd ki z B1 B2 ih rest ls st h NB nc ns env = true)
    (row : ∀ H locs nc ns LS st (n m : Nat), n ≤ 100 → m ≤ 1000 → nc + (1 + n) ≤ R1 → ns + (n + n * m) ≤ R2 → va_S z0 H0 H locs → (∀ H1, H1.size = H.size + 1 + n → (∀ x : Nat, x < H.size → H1[x]? = H[x]?) → H1[H.size]? = some (arrV (tc (kd - 64)) n (fun j => .ref (H.size + 1 + j))) → (∀ j, j < n → H1[H.size + 1 + j]? = some (arrV (tc (ki - 64)) m (fun _ => dv))) →
      Wf H1 locs (nc + 1 + n) (ns + n + n * m) pc' LS (.ref H.size :: st)) → Wf H locs nc ns pc LS (.int (Int32.ofNat m) :: .int (Int32.ofNat n) :: st)) : rGo Wf D tc z0 ξ ζ H0 nL pc ls st h NB nc ns env := by
  obtain ⟨m, st1, rfl, g0⟩ := pop1_spec hk
  obtain ⟨n, st', rfl, g1⟩ := pop1_spec g0
  obtain ⟨g2, g3⟩ := rc_and g1
  obtain ⟨g4, g5⟩ := rc_and g3
  have hn : n ≤ 100 := ble_le g2
  have hm : m ≤ 1000 := ble_le g4
  intro σ ρ H locs LS I
  have hN := I.1.2.1.1
  obtain ⟨a1, b1⟩ := rc_and g5
  obtain ⟨a2, b2⟩ := rc_and b1
  obtain ⟨a3, b3⟩ := rc_and b2
  have a1 : nc + 1 ≤ B1 := ble_le a1
  have a2 : ns + n ≤ B2 := ble_le a2
  have a3 : NB + 1 ≤ 4294968319 := ble_le a3
  obtain ⟨X, hX⟩ : ∃ X, NB = 4294967296 + X := ⟨NB - 4294967296, by omega⟩
  have eX : Nat.sub NB (nat_lit 4294967296) = X := by show NB - 4294967296 = X; omega
  rw [eX] at b3
  obtain ⟨h', k1, k2, k3⟩ := rset_spec h 0 1024 I.1.1 X (rblank kd (rrefs n (NB + 1)) n) (Nat.zero_le _) (by omega) _ b3
  obtain ⟨h'', q1, q2, q3, q4⟩ := rmany_spec _ _ _ _ _ _ _ (X + 1) _ _ _ k2 (by show NB + 1 = _; omega) k1
  have q1 : ih rest ls (NB :: st') h'' (NB + 1 + n) (nc + 1 + n) (ns + n + n * m) env = true := q1
  have q3 : n = 0 ∨ (nc + 1 + n ≤ B1 ∧ ns + n + n * m ≤ B2 ∧ NB + 1 + n ≤ 4294968319) := q3
  have q5 : nc + 1 + n ≤ B1 ∧ ns + n + n * m ≤ B2 ∧ NB + 1 + n ≤ 4294968319 := by
    rcases q3 with q3 | q3
    · rw [q3, Nat.zero_mul]
      rw [q3] at a2
      exact ⟨a1, a2, a3⟩
    · exact q3
  have e1 := rblank_kind (kd := kd) (z := rrefs n (NB + 1)) (n := n) (by omega)
  have e2 := rblank_len (kd := kd) (z := rrefs n (NB + 1)) (n := n) (by omega) (by omega)
  have e3 : ∀ j, j < n → rslot (rblank kd (rrefs n (NB + 1)) n) (rsh j) = NB + 1 + j := fun j hj => by rw [rblank_slot (by omega) (by omega)]; exact rrefs_slot n j (NB + 1) hj (by omega)
  have f1 := rblank_kind (kd := ki) (z := z m) (n := m) (by omega)
  have f2 := rblank_len (kd := ki) (z := z m) (n := m) (by omega) (by omega)
  have f3 : ∀ j, j < m → rslot (rblank ki (z m) m) (rsh j) = v := fun j hj => by rw [rblank_slot (by omega) (by omega)]; exact hz m j hj
  show Wf _ _ _ _ _ _ (rval ρ σ m :: rval ρ σ n :: st'.map (rval ρ σ))
  rw [rval_lit (show m < 4294967296 by omega), rval_lit (show n < 4294967296 by omega)]
  refine row H locs nc ns LS _ n m hn hm (by omega) (by omega) I.2.2.2.2 fun H1 oz oq o1 o2 => ?_
  have hup : ∀ a, a + 4294967296 < NB → rman ρ X H.size a = ρ a := fun a ha => rman_old (by omega)
  have hv1 : ∀ j, j < n → rval (rman ρ X H.size) σ (NB + 1 + j) = .ref (H.size + 1 + j) := fun j hj => by
    have w : rval (rman ρ X H.size) σ (NB + 1 + j) = .ref (rman ρ X H.size (NB + 1 + j - 4294967296)) := rval_ref (by omega) (by omega)
    have w2 : NB + 1 + j - 4294967296 = X + (1 + j) := by rw [hX]; exact sub_help _ X j
    have w3 : H.size + (1 + j) = H.size + 1 + j := by omega
    rw [w, w2, rman_new, w3]
  have hv0 : rval (rman ρ X H.size) σ NB = .ref H.size := by
    have w : rval (rman ρ X H.size) σ NB = .ref (rman ρ X H.size (NB - 4294967296)) := rval_ref (by omega) (by omega)
    have w2 : NB - 4294967296 = X + 0 := by omega
    rw [w, w2, rman_new, Nat.add_zero]
  have hR : rHR D tc z0 ξ (rman ρ X H.size) σ h'' (NB + (1 + n)) H1 := by
    refine I.1.many (K := 1 + n) (v := fun i => if i = 0 then rblank kd (rrefs n (NB + 1)) n else rblank ki (z m) m) hX (by omega) q2 (fun j hj => ?_) (by omega) oq (fun i hi => ?_) (fun i hi j hj => ?_)
    · rw [q4 j hj, k3 j (Nat.zero_le _) hj]
      by_cases w : j = X
      · rw [if_neg (by omega), if_pos w, if_pos (by omega), if_pos (by omega)]
      · by_cases r : X + 1 ≤ j ∧ j < X + 1 + n
        · rw [if_pos r, if_pos (by omega), if_neg (by omega)]
        · rw [if_neg r, if_neg w, if_neg (by omega)]
    · by_cases w : i = 0
      · subst w
        simp only [if_true]
        refine ⟨by omega, fun _ a => by omega, fun _ _ => ⟨I.1.2.2.2.1 _ (Nat.le_refl _), ?_⟩, fun a _ => by omega, fun a => by omega⟩
        rw [e1, e2, Nat.add_zero, o1]
        refine congrArg some (arrV_congr fun j hj => ?_)
        rw [e3 j hj, hv1 j hj]
      · simp only [if_neg w]
        refine ⟨by omega, fun _ a => by omega, fun _ _ => ⟨I.1.2.2.2.1 _ (by omega), ?_⟩, fun a _ => by omega, fun a => by omega⟩
        obtain ⟨j, rfl⟩ : ∃ j, i = 1 + j := ⟨i - 1, by omega⟩
        have := o2 j (by omega)
        rw [f1, f2, show H.size + (1 + j) = H.size + 1 + j by omega, this]
        exact congrArg some (arrV_congr fun j hj => by rw [f3 j hj]; exact (hdv _ _).symm)
    · by_cases w : i = 0
      · subst w
        simp only [if_true] at hj ⊢
        rw [e2] at hj
        rw [e3 j hj]
        intro _ _
        omega
      · simp only [if_neg w] at hj ⊢
        rw [f2] at hj
        rw [f3 j hj]
        exact hv _
  have g := nx _ _ _ _ _ _ _ q1 (rman ρ X H.size) H1 locs LS ⟨by rw [show NB + 1 + n = NB + (1 + n) by omega]; exact hR, I.2.1.congr hup (by omega), ?_, I.2.2.2.1, ?_⟩
  · have w := hv0
    have w2 : st'.map (rval (rman ρ X H.size) σ) = st'.map (rval ρ σ) := List.map_congr_left fun x hx => rval_congr (NB := NB) hup (mem0 (mem0 I.2.2.1) x hx)
    rw [List.map_cons, w, w2] at g
    exact g
  · intro x hx
    rcases List.mem_cons.mp hx with e | e
    · rw [e]
      intro _ _
      omega
    · exact (mem0 (mem0 I.2.2.1) x e).mono (by omega)
  · obtain ⟨b1, b2, b3⟩ := I.2.2.2.2
    exact ⟨Nat.le_trans b1 (by omega), fun x x1 x2 => (oq x (Nat.lt_of_lt_of_le x1 b1)).trans (b2 x x1 x2), b3⟩
end MultiO
section MultiE
variable {p : Program} {l : Launch} {e : Env} {R : Room} {s : State} {m : MethodId} {args : Array Value} {below : List Frame} {meth : Method} {c : Code} {Q : State → Prop} {D : va_G} {tc : Nat → ClassId} {z0 : Nat → Prop} {ξ : rX} {ζ : rZ} {σ : Nat → Int32} {nL : Nat} {cf : rCF} {M : rM} {BL : Nat → Nat} {mi : Nat} {kb : rB} {k : rK}
variable {cc : ByteArray} {pc a b : Nat} {tb : List (Nat × Nat)} {own : String}
/-- a row of the machine: new T[n][m] -/
theorem W_multi {H : Heap} {locs : List Loc} {cells slots : Nat} {LS : Array Slot} {rest : List Value} (hexec : p.tables.exec = Jvm.exec) (hb : c.code = cc) {index : Nat} {ty : FieldType} (hown : s.vm.findClass own = some m.cls) (hclink : (Cond.classLink own index ("[" ++ (FieldType.array ty).toString)).before args s = true)
    (hover : (Cond.arrayOver (.array ty)).before args s = true) (harr : (Cond.arrayClass ty).before args s = true) {n k : Nat} (hn : n ≤ 100) (hk : k ≤ 1000) (hb2 : k * componentBytes ty ≤ 536870912) (hdf : fits ty (defaultValue ty) = true) (hdd : (defaultValue ty).isDefault = true)
    (hcells : cells + (1 + n) ≤ R.cells) (hslots : slots + (n + n * k) ≤ R.slots) (hdg : decode cc pc = .ok (.multianewarray index 2, 4)) {cA cB : ClassId} (hcA : s.vm.findClass ("[" ++ (FieldType.array ty).toString) = some cA) (hcB : s.vm.findClass (FieldType.array ty).toString = some cB)
    (kk : ∀ H1 : Heap, H1.size = H.size + 1 + n → (∀ x : Nat, x < H.size → H1[x]? = H[x]?) → H1[H.size]? = some (arrV cA n (fun j => .ref (H.size + 1 + j))) → (∀ j, j < n → H1[H.size + 1 + j]? = some (arrV cB k (fun _ => defaultValue ty))) →
      W p l e R s m args below meth c H1 locs (cells + 1 + n) (slots + n + n * k) Q (F0 m (pc + 4) LS (.ref H.size :: rest))) : W p l e R s m args below meth c H locs cells slots Q (F0 m pc LS (.int (Int32.ofNat k) :: .int (Int32.ofNat n) :: rest)) := by
  obtain ⟨n1, n2⟩ := ofNat_clamp (j := n) (by omega)
  obtain ⟨m1, m2⟩ := ofNat_clamp (j := k) (by omega)
  intro T hT Xs
  obtain ⟨vm₁, cA', comp, -, fA, fC, -, -, X', step⟩ := Xs.multianewarray2F hexec hown hclink hover harr (g := F0 m pc LS (.int (Int32.ofNat k) :: .int (Int32.ofNat n) :: rest)) rfl (by rw [hb]; exact hdg) rfl n2 m2 (by rw [n1]; omega) (by rw [m1]; exact hb2) (by rw [m1]; omega) hdf hdd (by rw [n1]; exact hcells) (by rw [n1, m1]; exact hslots)
  cases Option.some.inj (hcA.symm.trans fA)
  cases Option.some.inj (hcB.symm.trans fC)
  rw [n1, m1] at X' step
  generalize hF : Jvm.Free.Multi.fill (T.setVm vm₁) cA cB n k (defaultValue ty) n = F at X' step
  have hTh : (T.setVm vm₁).heap = H := hT
  obtain ⟨f1, f2, -, -⟩ := Jvm.Free.Multi.fill_facts (T.setVm vm₁) cA cB n k (defaultValue ty) n
  rw [hF, hTh] at f1 f2
  have hold : ∀ x : Nat, x < H.size → F.heap[x]? = H[x]? := fun x hx => by
    have := Jvm.Free.Multi.fill_old (T.setVm vm₁) cA cB n k (defaultValue ty) (a := x) (by rw [hTh]; exact hx) n
    rw [hF, hTh] at this
    exact this
  have hrow : ∀ j : Nat, j < n → F.heap[H.size + 1 + j]? = some (arrV cB k (fun _ => defaultValue ty)) := fun j hj => by
    have := Jvm.Free.Multi.fill_inner (T.setVm vm₁) cA cB n k (defaultValue ty) n j hj
    rw [hF, hTh] at this
    rw [this]
    exact congrArg some (arrV_new _ _ _)
  rw [vr_outer] at f2
  obtain ⟨t, a1, b1⟩ := kk F.heap f1 hold (by
    rw [f2]
    refine congrArg some (arrV_congr fun j hj => ?_)
    rw [if_pos hj]
    rfl) hrow F rfl X'
  refine ⟨t, step t ?_, b1⟩
  have e : T.heap.size = H.size := by rw [hT]
  rw [e]
  exact a1
/-- the class of arrays whose components are arrays, by the word of anewarray -/
theorem rover_class {t : FieldType} (h : (Cond.arrayOver (.array t)).before args s = true) : (Cond.arrayClass (.array t)).before args s = true := by
  obtain ⟨comp, ci, kc, -, -, hk, hkind, hname⟩ := Jvm.Stand.arrayOver_specB h
  show ((Cond.arrayClass (.array t)).value args s none s [] == some true) = true
  have e : (Cond.arrayClass (.array t)).value args s none s [] = some true := by
    simp only [Cond.value, hname, Option.bind_some, hk, Option.map_some, hkind]
    simp
  rw [e]
  rfl
theorem eo_multiI (F : rFr p s m args c cc own D tc) (hR1 : mcel M mi ≤ R.cells) (hR2 : mslo M mi ≤ R.slots) {index : Nat} (ha : a = 74) (hclink : (Cond.classLink own index "[[I").before args s = true) (hover : (Cond.arrayOver (.array .int)).before args s = true) (harr : (Cond.arrayClass .int).before args s = true)
    (hd : decode cc pc = .ok (.multianewarray index 2, 4)) : rEO p l e R s m args below meth c Q D tc z0 ξ ζ nL cf M BL mi kb k 4 (.multianewarray index 2, pc, a, b, tb) := by
  subst ha
  intro ih rest nx _ ls st h NB nc ns env hk
  have hk : oMulti 74 64 rnoZ (mcel M mi) (mslo M mi) ih rest ls st h NB nc ns env = true := hk
  refine o_multi (v := 0) (dv := .int 0) (fun ρ σ => rval_lit (by decide)) (fun NB => rwf_lt (by decide)) (fun n j _ => by show 0 / 2 ^ (72 * j) % 2 ^ 72 = 0; simp) hR1 hR2 (by decide) (by decide) (by decide) (by decide) nx hk fun H locs nc ns LS st n m h1 h2 h3 h4 hS w => ?_
  exact W_multi F.1 F.2.1 (ty := .int) F.2.2.1 hclink hover harr h1 h2 (by show m * 4 ≤ _; omega) rfl rfl h3 h4 hd (F.2.2.2.2.2.2.1 10 (by decide)) (F.2.2.2.2.2.2.1 0 (by decide)) w
theorem eo_multiA (F : rFr p s m args c cc own D tc) (hR1 : mcel M mi ≤ R.cells) (hR2 : mslo M mi ≤ R.slots) {index : Nat} (ha : a = 75) (hclink : (Cond.classLink own index "[[[I").before args s = true) (hover : (Cond.arrayOver (.array (.array .int))).before args s = true) (hover2 : (Cond.arrayOver (.array .int)).before args s = true)
    (hd : decode cc pc = .ok (.multianewarray index 2, 4)) : rEO p l e R s m args below meth c Q D tc z0 ξ ζ nL cf M BL mi kb k 4 (.multianewarray index 2, pc, a, b, tb) := by
  subst ha
  intro ih rest nx _ ls st h NB nc ns env hk
  have hk : oMulti 75 74 rnulls (mcel M mi) (mslo M mi) ih rest ls st h NB nc ns env = true := hk
  refine o_multi (v := 8589934592) (dv := .null) (fun ρ σ => rval_null) (fun NB => rwf_null) rnulls_slot hR1 hR2 (by decide) (by decide) (by decide) (by decide) nx hk fun H locs nc ns LS st n m h1 h2 h3 h4 hS w => ?_
  exact W_multi F.1 F.2.1 (ty := .array .int) F.2.2.1 hclink hover (rover_class hover2) h1 h2 (by show m * 4 ≤ _; omega) rfl rfl h3 h4 hd (F.2.2.2.2.2.2.1 11 (by decide)) (F.2.2.2.2.2.2.1 10 (by decide)) w
/-- long forms of constants -/
theorem ldcwF {T : State} {locs : List Loc} {cells slots : Nat} (X : Stand p l e R s m args below meth c T locs cells slots) (hexec : p.tables.exec = Jvm.exec) {own : String} {index : Nat} {v : UInt32} (hown : s.vm.findClass own = some m.cls)
    (hconst : (Cond.constantFloat own index v).before args s = true) {g : JFrame} (hg : g.method = m) (hdg : decode c.code g.pc = .ok (.ldc_w index, 3)) :
    ∀ target, Steps p.tables e below (T.setTop { g with pc := g.pc + 3, stack := .float v :: g.stack }) target → Steps p.tables e below (T.setTop g) target := by
  obtain ⟨k, cf, hk, hcf, hcp⟩ := Cond.constantFloat_spec hown hconst
  obtain ⟨k', hk', he⟩ := X.warmed.alike.2.2 _ _ hk
  intro target hrest
  subst hg
  jvm_step X.here [hexec, hdg, ldc_w.wp_float (s := T) (f := g) X.here.top hk' (by rw [he]; exact hcf) hcp]
  exact hrest
theorem lv_ldcwf {H : Heap} {locs : List Loc} {cells slots : Nat} {LS : Array Slot} {rest : List Value} (hexec : p.tables.exec = Jvm.exec) (hb : c.code = cc) {index : Nat} {v : UInt32} (hown : s.vm.findClass own = some m.cls) (hconst : (Cond.constantFloat own index v).before args s = true) (hdg : decode cc pc = .ok (.ldc_w index, 3))
    (kk : W p l e R s m args below meth c H locs cells slots Q (F0 m (pc + 3) LS (.float v :: rest))) : W p l e R s m args below meth c H locs cells slots Q (F0 m pc LS rest) := by
  intro T hT X
  obtain ⟨t, a1, b1⟩ := kk T hT X
  exact ⟨t, ldcwF X hexec hown hconst (g := F0 m pc LS rest) rfl (by rw [hb]; exact hdg) t a1, b1⟩
theorem va_ldcSw {H : Heap} {locs : List Loc} {cells slots : Nat} {LS : Array Slot} {rest : List Value} (hexec : p.tables.exec = Jvm.exec) (hb : c.code = cc) {tx : String} {index q : Nat} (hown : s.vm.findClass own = some m.cls) (hZ : vk_R own index tx q s) (hdg : decode cc pc = .ok (.ldc_w index, 3))
    (kk : W p l e R s m args below meth c H locs cells slots Q (F0 m (pc + 3) LS (.ref q :: rest))) : W p l e R s m args below meth c H locs cells slots Q (F0 m pc LS rest) := by
  intro T hT X
  obtain ⟨t, a1, b1⟩ := kk T hT X
  exact ⟨t, X.ldcStringW hexec hown (text := tx) (a := q) hZ.1 hZ.2 (g := F0 m pc LS rest) rfl (by rw [hb]; exact hdg) t a1, b1⟩
theorem eo_ldc_wS (F : rFr p s m args c cc own D tc) {index x : Nat} {tx : String} (hZ : vk_R own index tx (ξ.2 x) s) (hx : x < 64) (hb : b = 4294967296 + x) (hd : decode cc pc = .ok (.ldc_w index, 3)) : rEO p l e R s m args below meth c Q D tc z0 ξ ζ nL cf M BL mi kb k 3 (.ldc_w index, pc, a, b, tb) := by
  subst hb
  exact fun _ _ nx _ _ _ _ _ _ _ _ hk => o_push nx (rc_and hk).2 (fun NB hN => fun _ _ => (show 4294967296 + x < NB by omega)) (fun ρ _ _ _ _ _ _ hρ _ w => va_ldcSw F.1 F.2.1 F.2.2.1 hZ hd (by rw [rval_ext hx hρ] at w; exact w))
theorem eo_ldc_wF (F : rFr p s m args c cc own D tc) {index : Nat} {v : UInt32} (hconst : (Cond.constantFloat own index v).before args s = true) (hv : b = rF v) (hd : decode cc pc = .ok (.ldc_w index, 3)) : rEO p l e R s m args below meth c Q D tc z0 ξ ζ nL cf M BL mi kb k 3 (.ldc_w index, pc, a, b, tb) := by
  subst hv
  exact fun _ _ nx _ _ _ _ _ _ _ _ hk => o_push nx (rc_and hk).2 (fun NB _ => (rF_val (ρ := ξ.2) (σ := ζ.2) v).2 NB) (fun _ _ _ _ _ _ _ _ _ w => lv_ldcwf F.1 F.2.1 F.2.2.1 hconst hd (by rw [(rF_val v).1] at w; exact w))
end MultiE

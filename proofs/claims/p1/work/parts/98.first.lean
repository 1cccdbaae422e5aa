/-! WHAT THE STATEMENT GIVES OF THE START, AS THE SMALL MACHINE WANTS IT -/
section First
variable {args : Array Value} {s : State}
theorem st_eqi {idx : List Nat} {t : Term} {z : Int32} (h : (Cond.eq t (.int z)).holds args s none s idx = true) : t.eval args s none idx s = some (.int z) := by
  cases hv : t.eval args s none idx s with
  | none => simp [Cond.holds, Cond.value, hv] at h
  | some w =>
    have hz : (Term.int z).eval args s none idx s = some (.int z) := rfl
    simp only [Cond.holds, Cond.value, hv, hz] at h
    cases w <;> simp_all
/-- 'for every index' -/
theorem st_all {t : Term} {c : Cond} {q : Nat} {cell : Cell} (ht : t.eval args s none [] s = some (.ref q)) (hc : s.arrayAt? q = some cell) (h : (Cond.all t c).before args s = true) : ∀ i, i < cell.slots.size → c.holds args s none s [i] = true := by
  simp only [Cond.before, Cond.holds, Cond.value, ht, hc, beq_iff_eq] at h
  have key : ∀ (l : List Nat) (acc : Option Bool), l.foldl (fun acc i => match acc with | some true => c.value args s none s [i] | x => x) acc = some true → acc = some true ∧ ∀ i ∈ l, c.value args s none s [i] = some true := by
    intro l
    induction l with
    | nil => intro acc h; exact ⟨h, fun i hi => (by cases hi)⟩
    | cons x t ih =>
      intro acc h
      rw [List.foldl_cons] at h
      obtain ⟨g1, g2⟩ := ih _ h
      have ha : acc = some true := by
        cases acc with
        | none => cases g1
        | some b =>
          cases b with
          | true => rfl
          | false => cases g1
      rw [ha] at g1
      exact ⟨ha, fun i hi => (List.mem_cons.mp hi).elim (fun e => by rw [e]; exact g1) (g2 i)⟩
  intro i hi
  have := (key _ _ h).2 i (List.mem_range.mpr hi)
  simp only [Cond.holds, this, beq_self_eq_true]
/-- an array that was there before, its ints -/
theorem st_arr {t : Term} {ty : FieldType} {L : List Nat} (h : ∀ w ∈ stA t ty L, w.before args s = true) (hL : L.length < 1000) :
    ∃ (q : Nat) (cell : Cell), t.eval args s none [] s = some (.ref q) ∧ s.heap[q]? = some cell ∧ s.isArrayOf cell ty ∧ rVm cell ∧ L.length ≤ cell.slots.size ∧ cell.slots.size.toInt32 = Int32.ofNat L.length ∧ ∀ j, j < L.length → cell.slots[j]? = some (.int (Int32.ofNat (L.getD j 0))) := by
  have h1 := h _ List.mem_cons_self
  have h2 := st_eqi (h _ (List.mem_cons_of_mem _ List.mem_cons_self))
  obtain ⟨q, cell, e1, e2, e3⟩ := Term.length_spec h2
  obtain ⟨c1, c2, c3, -⟩ := State.arrayAt?_spec e2
  have hs : ∀ j, j < L.length → cell.slots[j]? = some (.int (Int32.ofNat (L.getD j 0))) := by
    intro j hj
    have h3 := st_eqi (h _ (List.mem_cons_of_mem _ (List.mem_cons_of_mem _ (List.mem_map.mpr ⟨j, List.mem_range.mpr hj, rfl⟩))))
    obtain ⟨q2, j2, cell2, f1, f2, f3, f4, f5⟩ := Term.elem_spec h3
    cases f1.symm.trans e1
    cases f3.symm.trans e2
    have f2 : (some (Value.int (Int32.ofNat j)) : Option Value) = some (.int j2) := f2
    cases f2
    obtain ⟨n1, -⟩ := ofNat_clamp (j := j) (by omega)
    rw [n1] at f5
    exact f5
  refine ⟨q, cell, e1, c1, (Cond.arrayOf_spec h1 e1 c1).1, ⟨c2, fun x hx => ?_⟩, ?_, (Value.int.inj e3).symm, hs⟩
  · rw [hx] at c3; cases c3
  · by_cases h0 : L.length = 0
    · omega
    · have := (Array.getElem?_eq_some_iff.mp (hs (L.length - 1) (by omega))).1
      omega
theorem st_vm {cell : Cell} (h1 : cell.vm ≠ .unknown) (h2 : cell.vm.isStatics = false) : rVm cell := ⟨h1, fun x hx => by rw [hx] at h2; cases h2⟩
/-- a string of the pool -/
theorem st_str {D : va_G} (hK : va_K D vwCl [] s) {k : Nat} {L : List Nat} (h : ∀ w ∈ stS k L, w.before args s = true) (hL : L.length < 1000) :
    ∃ q v : Nat, (Term.string "OrbithouseModel" k).eval args s none [] s = some (.ref q) ∧ (∃ cell : Cell, s.heap[q]? = some cell ∧ cell.cls = D.1 0 ∧ rVm cell ∧ cell.slots[D.2 0 0]? = some (.ref v) ∧ cell.slots[D.2 0 1]? = some (.int 0)) ∧
      ∃ cell : Cell, s.heap[v]? = some cell ∧ s.isArrayOf cell .byte ∧ rVm cell ∧ L.length ≤ cell.slots.size ∧ cell.slots.size.toInt32 = Int32.ofNat L.length ∧ ∀ j, j < L.length → cell.slots[j]? = some (.int (Int32.ofNat (L.getD j 0))) := by
  obtain ⟨q, c, cell, kk, e1, e2, e3, e4, e5, e6, -⟩ := Cond.exactly_spec (h _ List.mem_cons_self)
  obtain ⟨hS, hfc, -⟩ := hK.1 0 (RJ0, TJ0, 2) rfl
  have hc : c = D.1 0 := Option.some.inj (e2.symm.trans hfc)
  obtain ⟨v, cell2, g1, g2⟩ := st_arr (fun w hw => h w (List.mem_cons_of_mem _ (List.mem_cons_of_mem _ hw))) hL
  obtain ⟨cf, kf, fi, f, hi, hsl⟩ := hS 0 (by decide)
  obtain ⟨-, ca, a1, a2, a3, -, a5⟩ := Term.field_spec hi e1 g1
  cases a1.symm.trans e3
  obtain ⟨cf', kf', fi', f', hi', hsl'⟩ := hS 1 (by decide)
  have h2 := st_eqi (h _ (List.mem_cons_of_mem _ List.mem_cons_self))
  obtain ⟨-, cb, b1, b2, b3, -, b5⟩ := Term.field_spec hi' e1 h2
  cases b1.symm.trans e3
  rw [hsl] at a5
  rw [hsl'] at b5
  exact ⟨q, v, e1, ⟨cell, e3, e6.trans hc, st_vm a2 a3, a5, b5⟩, cell2, g2⟩
/-- the classes of objects -/
theorem st_K (hts : ∀ w ∈ lw_tbl, w.before args s = true) : ∃ D : va_G, va_K D vwCl [] s ∧ ∀ c, 18 ≤ c → D.1 c = D.1 0 := by
  have h : ∀ c : Nat, ∃ d : ClassId × (Nat → Nat), ∀ q : vw_C, vwCl[c]? = some q → u_Kn s q.1 q.2.1 q.2.2 d.1 d.2 := by
    intro c
    match c with
    | 0 => obtain ⟨x, y, h⟩ := u_known hts inJ0 (hts _ si_0); exact ⟨(x, y), fun q hq => by cases hq; exact h⟩
    | 1 => obtain ⟨x, y, h⟩ := u_known hts inJ6 (hts _ si_1); exact ⟨(x, y), fun q hq => by cases hq; exact h⟩
    | 2 => obtain ⟨x, y, h⟩ := u_known hts inJx00060 (hts _ si_2); exact ⟨(x, y), fun q hq => by cases hq; exact h⟩
    | 3 => obtain ⟨x, y, h⟩ := u_known hts inJx35411 (hts _ si_3); exact ⟨(x, y), fun q hq => by cases hq; exact h⟩
    | 4 => obtain ⟨x, y, h⟩ := u_known hts inJx4a65c (hts _ si_4); exact ⟨(x, y), fun q hq => by cases hq; exact h⟩
    | 5 => obtain ⟨x, y, h⟩ := u_known hts inX0 (hts _ si_5); exact ⟨(x, y), fun q hq => by cases hq; exact h⟩
    | 6 => obtain ⟨x, y, h⟩ := u_known hts inX1 (hts _ si_6); exact ⟨(x, y), fun q hq => by cases hq; exact h⟩
    | 7 => obtain ⟨x, y, h⟩ := u_known hts inX2 (hts _ si_7); exact ⟨(x, y), fun q hq => by cases hq; exact h⟩
    | 8 => obtain ⟨x, y, h⟩ := u_known hts inX3 (hts _ si_8); exact ⟨(x, y), fun q hq => by cases hq; exact h⟩
    | 9 => obtain ⟨x, y, h⟩ := u_known hts inX4 (hts _ si_9); exact ⟨(x, y), fun q hq => by cases hq; exact h⟩
    | 10 => obtain ⟨x, y, h⟩ := u_known hts inX5 (hts _ si_10); exact ⟨(x, y), fun q hq => by cases hq; exact h⟩
    | 11 => obtain ⟨x, y, h⟩ := u_known hts inX6 (hts _ si_11); exact ⟨(x, y), fun q hq => by cases hq; exact h⟩
    | 12 => obtain ⟨x, y, h⟩ := u_known hts inX7 (hts _ si_12); exact ⟨(x, y), fun q hq => by cases hq; exact h⟩
    | 13 => obtain ⟨x, y, h⟩ := u_known hts inX8 (hts _ si_13); exact ⟨(x, y), fun q hq => by cases hq; exact h⟩
    | 14 => obtain ⟨x, y, h⟩ := u_known hts inX9 (hts _ si_14); exact ⟨(x, y), fun q hq => by cases hq; exact h⟩
    | 15 => obtain ⟨x, y, h⟩ := u_known hts inX10 (hts _ si_15); exact ⟨(x, y), fun q hq => by cases hq; exact h⟩
    | 16 => obtain ⟨x, y, h⟩ := u_known hts inX11 (hts _ si_16); exact ⟨(x, y), fun q hq => by cases hq; exact h⟩
    | 17 => obtain ⟨x, y, h⟩ := u_known hts inX12 (hts _ si_17); exact ⟨(x, y), fun q hq => by cases hq; exact h⟩
    | n + 18 =>
      refine ⟨(0, fun _ => 0), fun q hq => ?_⟩
      have h2 : n + 18 < 18 := (List.getElem?_eq_some_iff.mp hq).1
      omega
  obtain ⟨f, hf⟩ := Classical.axiomOfChoice h
  refine ⟨(fun c => if c < 18 then (f c).1 else (f 0).1, fun c => (f c).2), ⟨fun c q hq => ?_, fun k q hk => by cases hk⟩, fun c hc => ?_⟩
  · have h2 : c < 18 := (List.getElem?_eq_some_iff.mp hq).1
    show u_Kn s q.1 q.2.1 q.2.2 (if c < 18 then (f c).1 else (f 0).1) (f c).2
    rw [if_pos h2]
    exact hf c q hq
  · show (if c < 18 then (f c).1 else (f 0).1) = (if 0 < 18 then (f 0).1 else (f 0).1)
    rw [if_neg (by omega), if_pos (by decide)]
/-- a class of arrays -/
def st_AO (s : State) (x : ClassId) (ty : FieldType) : Prop := ∃ k, s.vm.classes[x]? = some k ∧ ∃ comp, k.kind = .array comp ty
theorem st_overA {t : FieldType} (h : (Cond.arrayOver (.array t)).before args s = true) : ∃ comp c k, s.vm.findClass (FieldType.array t).toString = some comp ∧ s.vm.classes[c]? = some k ∧ k.kind = .array comp (.array t) ∧ s.vm.findClass ("[" ++ (FieldType.array t).toString) = some c := by
  simp only [Cond.before, Cond.holds, Cond.value, beq_iff_eq] at h
  cases hc : s.vm.findClass (FieldType.array t).toString with
  | none => simp [hc] at h
  | some comp =>
    simp only [hc, Option.bind_some, Option.bind_eq_some_iff, Option.map_eq_some_iff] at h
    obtain ⟨c, hi, k, hk, hb⟩ := h
    have hp := (Array.findIdx?_eq_some_iff_getElem.mp hi).2.1
    rw [(Array.getElem?_eq_some_iff.mp hk).2] at hp
    cases hkind : k.kind with
    | array c2 ty =>
      rw [hkind] at hb hp
      simp only [Bool.and_eq_true, decide_eq_true_eq, beq_iff_eq] at hb hp
      exact ⟨comp, c, k, rfl, hk, by rw [hkind, hp, hb.1], hb.2⟩
    | _ => rw [hkind] at hb; cases hb
def st_Ar (s : State) (f : Nat → ClassId) : Prop := ∀ t, t < 12 → s.vm.findClass ("[" ++ (rtyA t).toString) = some (f t) ∧ ∃ k comp, s.vm.classes[f t]? = some k ∧ k.kind = .array comp (rtyA t) ∧ (∀ n, rtyA t = .object n → s.vm.findClass n = some comp) ∧ ∀ u, rtyA t = .array u → s.vm.findClass (FieldType.array u).toString = some comp
theorem st_ar0 {ty : FieldType} (hn : (∀ n, ty ≠ .object n) ∧ ∀ u, ty ≠ .array u) (h : (Cond.arrayClass ty).before args s = true) : ∃ x : ClassId, s.vm.findClass ("[" ++ ty.toString) = some x ∧ ∃ k comp, s.vm.classes[x]? = some k ∧ k.kind = .array comp ty ∧ (∀ n, ty = .object n → s.vm.findClass n = some comp) ∧ ∀ u, ty = .array u → s.vm.findClass (FieldType.array u).toString = some comp := by
  obtain ⟨c, k, comp, h1, h2, h3⟩ := Cond.arrayClass_spec h
  exact ⟨c, h1, k, comp, h2, h3, fun n e => absurd e (hn.1 n), fun u e => absurd e (hn.2 u)⟩
theorem st_arO {C : String} (h : (Cond.arrayOver (.object C)).before args s = true) : ∃ x : ClassId, s.vm.findClass ("[" ++ (FieldType.object C).toString) = some x ∧ ∃ k comp, s.vm.classes[x]? = some k ∧ k.kind = .array comp (.object C) ∧ (∀ n, FieldType.object C = .object n → s.vm.findClass n = some comp) ∧ ∀ u, FieldType.object C = .array u → s.vm.findClass (FieldType.array u).toString = some comp := by
  obtain ⟨comp, c, k, h1, -, h2, h3, h4⟩ := Cond.arrayOver_spec h
  exact ⟨c, h4, k, comp, h2, h3, fun n e => by cases e; exact h1, fun u e => by cases e⟩
theorem st_arA {t : FieldType} (h : (Cond.arrayOver (.array t)).before args s = true) : ∃ x : ClassId, s.vm.findClass ("[" ++ (FieldType.array t).toString) = some x ∧ ∃ k comp, s.vm.classes[x]? = some k ∧ k.kind = .array comp (.array t) ∧ (∀ n, FieldType.array t = .object n → s.vm.findClass n = some comp) ∧ ∀ u, FieldType.array t = .array u → s.vm.findClass (FieldType.array u).toString = some comp := by
  obtain ⟨comp, c, k, h1, h2, h3, h4⟩ := st_overA h
  exact ⟨c, h4, k, comp, h2, h3, fun n e => (by cases e), fun u e => (by cases e; exact h1)⟩
theorem st_arrays (hts : ∀ w ∈ lw_tbl, w.before args s = true) : ∃ f : Nat → ClassId, st_Ar s f := by
  have h : ∀ t : Nat, ∃ x : ClassId, t < 12 → s.vm.findClass ("[" ++ (rtyA t).toString) = some x ∧ ∃ k comp, s.vm.classes[x]? = some k ∧ k.kind = .array comp (rtyA t) ∧ (∀ n, rtyA t = .object n → s.vm.findClass n = some comp) ∧ ∀ u, rtyA t = .array u → s.vm.findClass (FieldType.array u).toString = some comp := by
    intro t
    match t with
    | 0 => obtain ⟨x, h⟩ := st_ar0 (ty := .int) ⟨fun n e => (by cases e), fun n e => (by cases e)⟩ (hts _ sa_0); exact ⟨x, fun _ => h⟩
    | 1 => obtain ⟨x, h⟩ := st_ar0 (ty := .boolean) ⟨fun n e => (by cases e), fun n e => (by cases e)⟩ (hts _ sa_1); exact ⟨x, fun _ => h⟩
    | 2 => obtain ⟨x, h⟩ := st_ar0 (ty := .char) ⟨fun n e => (by cases e), fun n e => (by cases e)⟩ (hts _ sa_2); exact ⟨x, fun _ => h⟩
    | 3 => obtain ⟨x, h⟩ := st_ar0 (ty := .long) ⟨fun n e => (by cases e), fun n e => (by cases e)⟩ (hts _ sa_3); exact ⟨x, fun _ => h⟩
    | 4 => obtain ⟨x, h⟩ := st_ar0 (ty := .double) ⟨fun n e => (by cases e), fun n e => (by cases e)⟩ (hts _ sa_4); exact ⟨x, fun _ => h⟩
    | 5 => obtain ⟨x, h⟩ := st_ar0 (ty := .byte) ⟨fun n e => (by cases e), fun n e => (by cases e)⟩ (hts _ sa_5); exact ⟨x, fun _ => h⟩
    | 6 => obtain ⟨x, h⟩ := st_arO (C := "java/lang/Object") (hts _ sa_6); exact ⟨x, fun _ => h⟩
    | 7 => obtain ⟨x, h⟩ := st_arO (C := "Orbithouse$Command") (hts _ sa_7); exact ⟨x, fun _ => h⟩
    | 8 => obtain ⟨x, h⟩ := st_arO (C := "Orbithouse$ReportRow") (hts _ sa_8); exact ⟨x, fun _ => h⟩
    | 9 => obtain ⟨x, h⟩ := st_arO (C := "Orbithouse$Procedure") (hts _ sa_9); exact ⟨x, fun _ => h⟩
    | 10 => obtain ⟨x, h⟩ := st_arA (t := .int) (hts _ sa_10); exact ⟨x, fun _ => h⟩
    | 11 => obtain ⟨x, h⟩ := st_arA (t := .array .int) (hts _ sa_11); exact ⟨x, fun _ => h⟩
    | n + 12 => exact ⟨0, fun h => absurd h (by omega)⟩
  obtain ⟨f, hf⟩ := Classical.axiomOfChoice h
  exact ⟨f, fun t ht => hf t ht⟩
theorem st_castO {C : String} {c : ClassId} (hc : s.vm.findClass C = some c) (h : (Cond.castable C "java/lang/Object").before args s = true) : ∃ o, s.vm.findClass "java/lang/Object" = some o ∧ s.vm.assignable c o = true := by
  obtain ⟨c2, o, h1, h2, h3⟩ := Cond.castable_spec h
  cases h1.symm.trans hc
  exact ⟨o, h2, h3⟩
/-- what may lie in an array of references -/
theorem st_As (hts : ∀ w ∈ lw_tbl, w.before args s = true) {D : va_G} (hK : va_K D vwCl [] s) (hD : ∀ c, 18 ≤ c → D.1 c = D.1 0) {f tc : Nat → ClassId} (hf : st_Ar s f) (htc : ∀ t, t < 12 → tc t = f t) : rAs s D tc := by
  have hC : ∀ (c : Nat) (q : vw_C), vwCl[c]? = some q → s.vm.findClass q.1 = some (D.1 c) := fun c q hq => (hK.1 c q hq).2.1
  have hO : ∀ kv, 1 ≤ kv → kv ≤ 75 → ∃ o, s.vm.findClass "java/lang/Object" = some o ∧ s.vm.assignable (rcls D tc kv) o = true := by
    intro kv h1 h2
    rcases Nat.lt_or_ge kv 64 with g | g
    · have e : rcls D tc kv = D.1 (kv - 1) := by unfold rcls; rw [if_pos g]
      rw [e]
      match kv, h1, g with
      | 1, _, _ => exact st_castO (hC 0 _ rfl) (hts _ sc_1)
      | 2, _, _ => exact st_castO (hC 1 _ rfl) (hts _ sc_2)
      | 3, _, _ => exact st_castO (hC 2 _ rfl) (hts _ sc_3)
      | 4, _, _ => exact st_castO (hC 3 _ rfl) (hts _ sc_4)
      | 5, _, _ => exact st_castO (hC 4 _ rfl) (hts _ sc_5)
      | 6, _, _ => exact st_castO (hC 5 _ rfl) (hts _ sc_6)
      | 7, _, _ => exact st_castO (hC 6 _ rfl) (hts _ sc_7)
      | 8, _, _ => exact st_castO (hC 7 _ rfl) (hts _ sc_8)
      | 9, _, _ => exact st_castO (hC 8 _ rfl) (hts _ sc_9)
      | 10, _, _ => exact st_castO (hC 9 _ rfl) (hts _ sc_10)
      | 11, _, _ => exact st_castO (hC 10 _ rfl) (hts _ sc_11)
      | 12, _, _ => exact st_castO (hC 11 _ rfl) (hts _ sc_12)
      | 13, _, _ => exact st_castO (hC 12 _ rfl) (hts _ sc_13)
      | 14, _, _ => exact st_castO (hC 13 _ rfl) (hts _ sc_14)
      | 15, _, _ => exact st_castO (hC 14 _ rfl) (hts _ sc_15)
      | 16, _, _ => exact st_castO (hC 15 _ rfl) (hts _ sc_16)
      | 17, _, _ => exact st_castO (hC 16 _ rfl) (hts _ sc_17)
      | 18, _, _ => exact st_castO (hC 17 _ rfl) (hts _ sc_18)
      | n + 19, _, _ =>
        rw [hD (n + 19 - 1) (by omega)]
        exact st_castO (hC 0 _ rfl) (hts _ sc_1)
    · have e : rcls D tc kv = f (kv - 64) := by unfold rcls; rw [if_neg (by omega)]; exact htc _ (by omega)
      rw [e]
      obtain ⟨t, rfl⟩ : ∃ t, kv = 64 + t := ⟨kv - 64, by omega⟩
      have ht : t < 12 := by omega
      rw [show 64 + t - 64 = t by omega]
      have hfc := (hf t ht).1
      match t, ht, hfc with
      | 0, _, hfc => exact st_castO (C := "[I") hfc (hts _ sc_64)
      | 1, _, hfc => exact st_castO (C := "[Z") hfc (hts _ sc_65)
      | 2, _, hfc => exact st_castO (C := "[C") hfc (hts _ sc_66)
      | 3, _, hfc => exact st_castO (C := "[J") hfc (hts _ sc_67)
      | 4, _, hfc => exact st_castO (C := "[D") hfc (hts _ sc_68)
      | 5, _, hfc => exact st_castO (C := "[B") hfc (hts _ sc_69)
      | 6, _, hfc => exact st_castO (C := "[Ljava/lang/Object;") hfc (hts _ sc_70)
      | 7, _, hfc => exact st_castO (C := "[LOrbithouse$Command;") hfc (hts _ sc_71)
      | 8, _, hfc => exact st_castO (C := "[LOrbithouse$ReportRow;") hfc (hts _ sc_72)
      | 9, _, hfc => exact st_castO (C := "[LOrbithouse$Procedure;") hfc (hts _ sc_73)
      | 10, _, hfc => exact st_castO (C := "[[I") hfc (hts _ sc_74)
      | 11, _, hfc => exact st_castO (C := "[[[I") hfc (hts _ sc_75)
      | n + 12, h, _ => omega
  have hX : ∀ kv, 1 ≤ kv → kv ≤ 75 → ∃ k', s.vm.classes[rcls D tc kv]? = some k' := by
    intro kv h1 h2
    rcases Nat.lt_or_ge kv 64 with g | g
    · have e : rcls D tc kv = D.1 (kv - 1) := by unfold rcls; rw [if_pos g]
      rw [e]
      rcases Nat.lt_or_ge (kv - 1) 18 with r | r
      · obtain ⟨q, hq⟩ : ∃ q, vwCl[kv - 1]? = some q := ⟨_, List.getElem?_eq_getElem (show kv - 1 < vwCl.length from r)⟩
        exact Vm.classAt_of_findClass (hC _ q hq)
      · rw [hD _ r]
        exact Vm.classAt_of_findClass (hC 0 _ rfl)
    · have e : rcls D tc kv = f (kv - 64) := by unfold rcls; rw [if_neg (by omega)]; exact htc _ (by omega)
      rw [e]
      exact Vm.classAt_of_findClass (hf _ (by omega)).1
  intro kd kv hr
  have hr : rc (Nat.beq kd (nat_lit 70)) (rc (Nat.beq kv 0) false (Nat.ble kv (nat_lit 75))) (rc (Nat.beq kd (nat_lit 71)) (Nat.beq kv (nat_lit 7)) (rc (Nat.beq kd (nat_lit 72)) (Nat.beq kv (nat_lit 13)) (rc (Nat.beq kd (nat_lit 73)) (Nat.beq kv (nat_lit 12)) (rc (Nat.beq kd (nat_lit 74)) (Nat.beq kv (nat_lit 64)) false)))) = true := hr
  have one : ∀ t, t < 12 → 6 ≤ t → ∃ k comp, s.vm.classes[tc t]? = some k ∧ k.kind = .array comp (rtyA t) ∧ (∀ n, rtyA t = .object n → s.vm.findClass n = some comp) ∧ ∀ u, rtyA t = .array u → s.vm.findClass (FieldType.array u).toString = some comp := fun t h1 h2 => by
    rw [htc t h1]
    exact (hf t h1).2
  rcases rc_or hr with ⟨h1, h2⟩ | ⟨-, hr⟩
  · rw [beq_eq h1]
    obtain ⟨h3, h4⟩ := rc_nand h2
    have h5 : 1 ≤ kv := Nat.one_le_iff_ne_zero.mpr (beq_ne h3)
    have h6 : kv ≤ 75 := ble_le h4
    obtain ⟨k, comp, g1, g2, g3, -⟩ := one 6 (by decide) (by decide)
    obtain ⟨o, e1, e2⟩ := hO kv h5 h6
    have e3 := g3 _ rfl
    cases e3.symm.trans e1
    obtain ⟨kc, hkc⟩ := Vm.classAt_of_findClass e1
    obtain ⟨k', hk'⟩ := hX kv h5 h6
    exact ⟨k, k', kc, _, _, g1, g2, rfl, hkc, hk', e2⟩
  rcases rc_or hr with ⟨h1, h2⟩ | ⟨-, hr⟩
  · rw [beq_eq h1, beq_eq h2]
    obtain ⟨k, comp, g1, g2, g3, -⟩ := one 7 (by decide) (by decide)
    have e3 := g3 _ rfl
    have e4 := hC 6 _ rfl
    cases e3.symm.trans e4
    obtain ⟨kc, hkc⟩ := Vm.classAt_of_findClass e4
    exact ⟨k, kc, kc, _, _, g1, g2, rfl, hkc, hkc, va_asg _ _⟩
  rcases rc_or hr with ⟨h1, h2⟩ | ⟨-, hr⟩
  · rw [beq_eq h1, beq_eq h2]
    obtain ⟨k, comp, g1, g2, g3, -⟩ := one 8 (by decide) (by decide)
    have e3 := g3 _ rfl
    have e4 := hC 12 _ rfl
    cases e3.symm.trans e4
    obtain ⟨kc, hkc⟩ := Vm.classAt_of_findClass e4
    exact ⟨k, kc, kc, _, _, g1, g2, rfl, hkc, hkc, va_asg _ _⟩
  rcases rc_or hr with ⟨h1, h2⟩ | ⟨-, hr⟩
  · rw [beq_eq h1, beq_eq h2]
    obtain ⟨k, comp, g1, g2, g3, -⟩ := one 9 (by decide) (by decide)
    have e3 := g3 _ rfl
    have e4 := hC 11 _ rfl
    cases e3.symm.trans e4
    obtain ⟨kc, hkc⟩ := Vm.classAt_of_findClass e4
    exact ⟨k, kc, kc, _, _, g1, g2, rfl, hkc, hkc, va_asg _ _⟩
  rcases rc_or hr with ⟨h1, h2⟩ | ⟨-, hr⟩
  · rw [beq_eq h1, beq_eq h2]
    obtain ⟨k, comp, g1, g2, -, g3⟩ := one 10 (by decide) (by decide)
    have e3 := g3 _ rfl
    have e4 : s.vm.findClass "[I" = some (f 0) := (hf 0 (by decide)).1
    cases e3.symm.trans e4
    obtain ⟨kc, hkc⟩ := Vm.classAt_of_findClass e4
    have e5 : rcls D tc 64 = f 0 := htc 0 (by decide)
    exact ⟨k, kc, kc, _, _, g1, g2, rfl, hkc, by rw [e5]; exact hkc, by rw [e5]; exact va_asg _ _⟩
  · cases hr
end First

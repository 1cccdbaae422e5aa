/-! SWITCHES, SHIFTS OF CHARS -/
noncomputable def rtab (pc : Nat) : Int → List Int → List (Nat × Nat)
  | _, [] => []
  | lo, o :: os => (i32n (Int32.ofInt lo), ((pc : Int) + o).toNat) :: rtab pc (lo + 1) os
def rpos (pc : Nat) (os : List Int) : Bool := os.all (fun o => decide (0 ≤ (pc : Int) + o))
theorem rtab_get {pc : Nat} : ∀ (os : List Int) (lo : Int) (i : Nat) (o : Int), os[i]? = some o → (rtab pc lo os)[i]? = some (i32n (Int32.ofInt (lo + i)), ((pc : Int) + o).toNat) := by
  intro os
  induction os with
  | nil => intro lo i o h; simp at h
  | cons x t ih =>
    intro lo i o h
    cases i with
    | zero => simp at h; simp [rtab, h]
    | succ i =>
      have := ih (lo + 1) i o (by simpa using h)
      simp only [rtab, List.getElem?_cons_succ, this]
      rw [show lo + 1 + (i : Int) = lo + ((i + 1 : Nat) : Int) by omega]
theorem rtab_len {pc : Nat} : ∀ (os : List Int) (lo : Int), (rtab pc lo os).length = os.length := by
  intro os
  induction os with
  | nil => intro lo; rfl
  | cons x t ih => intro lo; simp [rtab, ih]
theorem ofInt_toInt {z : Int} (h1 : -2147483648 ≤ z) (h2 : z < 2147483648) : (Int32.ofInt z).toInt = z := by
  rw [Int32.toInt_ofInt, show Int32.size = 4294967296 from rfl, Int.bmod_def]
  split <;> omega
section SEOs
variable {p : Program} {l : Launch} {e : Env} {R : Room} {s : State} {m : MethodId} {args : Array Value} {below : List Frame} {meth : Method} {c : Code} {Q : State → Prop} {D : va_G} {tc : Nat → ClassId} {z0 : Nat → Prop} {ξ : rX} {ζ : rZ} {σ : Nat → Int32} {nL : Nat} {cf : rCF} {M : rM} {BL : Nat → Nat} {mi : Nat} {kb : rB} {k : rK}
variable {cc : ByteArray} {pc a b : Nat} {tb : List (Nat × Nat)} {own : String}
theorem eo_tableswitch (F : rFr p s m args c cc own D tc) {d lo hi : Int} {os : Array Int} {len : Nat} (hd : decode cc pc = .ok (.tableswitch d lo hi os, len)) (ht : tb = rtab pc lo os.toList) (hpos : rpos pc os.toList = true) (hb : (pc : Int) + d = (b : Int)) (h1 : -2147483648 ≤ lo) (h2 : hi < 2147483648) (h3 : lo + os.size = hi + 1)
    (hs : tb.Pairwise (fun a b => rbias a.1 < rbias b.1)) : rEO p l e R s m args below meth c Q D tc z0 ξ ζ nL cf M BL mi kb k a (.tableswitch d lo hi os, pc, a, b, tb) := by
  intro ih rest _ nt ls st h NB nc ns env hk
  have hk1 : pop1 st (fun x st' => rsw x tb b env (fun t env' => ih (rdrop t (mcode M mi)) ls st' h NB nc ns env')) = true := hk
  have hq : ∀ q ∈ tb, ∃ (i : Nat) (o : Int), os.toList[i]? = some o ∧ q = (i32n (Int32.ofInt (lo + i)), ((pc : Int) + o).toNat) := fun q hq => by
    obtain ⟨i, hi⟩ := List.getElem?_of_mem hq
    rw [ht] at hi
    have hlt : i < (rtab pc lo os.toList).length := (List.getElem?_eq_some_iff.mp hi).1
    rw [rtab_len] at hlt
    have ho : os.toList[i]? = some (os.toList[i]) := List.getElem?_eq_getElem hlt
    rw [rtab_get _ _ _ _ ho] at hi
    exact ⟨i, _, ho, (Option.some.inj hi).symm⟩
  refine o_sw (fun q hq2 => ?_) hs nt hk1 fun H locs nc ns LS st x t hsw w => ?_
  · obtain ⟨i, o, -, e⟩ := hq q hq2
    rw [e]
    exact i32n_lt _
  rcases hsw with ⟨q, hq1, hx, e⟩ | ⟨hno, e⟩
  · obtain ⟨i, o, ho, eq⟩ := hq q hq1
    have hlt : i < os.toList.length := (List.getElem?_eq_some_iff.mp ho).1
    rw [Array.length_toList] at hlt
    have hxi : x.toInt = lo + i := by
      rw [hx, eq, i32n_of, ofInt_toInt (by omega) (by omega)]
    have hp := List.all_eq_true.mp hpos o (List.mem_of_getElem? ho)
    have hp : 0 ≤ (pc : Int) + o := by simpa using hp
    refine lv_tableIn F.1 F.2.1 hd (by omega) (by omega) (off := o) ?_ ?_ w
    · rw [hxi, show (lo + (i : Int) - lo).toNat = i by omega, ← Array.getElem?_toList]
      exact ho
    · rw [e, eq]
      show (pc : Int) + o = (((pc : Int) + o).toNat : Int)
      omega
  · refine lv_tableOut F.1 F.2.1 hd ?_ (by rw [e]; exact hb) w
    by_cases q : x.toInt < lo
    · exact Or.inl q
    by_cases r : hi < x.toInt
    · exact Or.inr r
    exfalso
    have hi2 : (x.toInt - lo).toNat < os.toList.length := by rw [Array.length_toList]; omega
    have ho : os.toList[(x.toInt - lo).toNat]? = some (os.toList[(x.toInt - lo).toNat]) := List.getElem?_eq_getElem hi2
    have hg := rtab_get (pc := pc) os.toList lo _ _ ho
    rw [← ht] at hg
    refine hno _ (List.mem_of_getElem? hg) ?_
    show x = Int32.ofNat (i32n _)
    rw [i32n_of, ← Int32.toInt_inj, ofInt_toInt (by omega) (by have := Int32.toInt_lt x; omega)]
    omega
theorem off_spec {d x : Int} : ∀ (ps : List (Int × Int)), (∃ q ∈ ps, q.1 = x ∧ Op.lookupswitch.offset ps d x = q.2) ∨ ((∀ q ∈ ps, q.1 ≠ x) ∧ Op.lookupswitch.offset ps d x = d) := by
  intro ps
  induction ps with
  | nil => exact Or.inr ⟨fun q h => (by cases h), rfl⟩
  | cons y t ih =>
    obtain ⟨a, o⟩ := y
    rw [Op.lookupswitch.offset_cons]
    by_cases e : a = x
    · exact Or.inl ⟨(a, o), List.mem_cons_self, e, by rw [if_pos e]⟩
    · rw [if_neg e]
      rcases ih with ⟨q, h1, h2, h3⟩ | ⟨h1, h2⟩
      · exact Or.inl ⟨q, List.mem_cons_of_mem _ h1, h2, h3⟩
      · exact Or.inr ⟨fun q hq => (List.mem_cons.mp hq).elim (fun r => by rw [r]; exact e) (h1 q), h2⟩
noncomputable def rltab (pc : Nat) (ps : List (Int × Int)) : List (Nat × Nat) := ps.map (fun q => (i32n (Int32.ofInt q.1), ((pc : Int) + q.2).toNat))
def rlpos (pc : Nat) (ps : List (Int × Int)) : Bool := ps.all (fun q => decide (0 ≤ (pc : Int) + q.2) && decide (-2147483648 ≤ q.1) && decide (q.1 < 2147483648))
theorem eo_lookupswitch (F : rFr p s m args c cc own D tc) {d : Int} {ps : Array (Int × Int)} {len : Nat} (hd : decode cc pc = .ok (.lookupswitch d ps, len)) (ht : tb = rltab pc ps.toList) (hpos : rlpos pc ps.toList = true) (hb : (pc : Int) + d = (b : Int)) (hp : (ps.toList.zip (ps.toList.drop 1)).all (fun (a, next) => a.1 < next.1) = true)
    (hs : tb.Pairwise (fun a b => rbias a.1 < rbias b.1)) (hu : ∀ q ∈ ps.toList, ∀ q2 ∈ ps.toList, q.1 = q2.1 → q.2 = q2.2) : rEO p l e R s m args below meth c Q D tc z0 ξ ζ nL cf M BL mi kb k a (.lookupswitch d ps, pc, a, b, tb) := by
  intro ih rest _ nt ls st h NB nc ns env hk
  have hk1 : pop1 st (fun x st' => rsw x tb b env (fun t env' => ih (rdrop t (mcode M mi)) ls st' h NB nc ns env')) = true := hk
  have hin : ∀ q ∈ ps.toList, 0 ≤ (pc : Int) + q.2 ∧ (Int32.ofInt q.1).toInt = q.1 := fun q hq => by
    have h1 := List.all_eq_true.mp hpos q hq
    simp only [Bool.and_eq_true, decide_eq_true_eq] at h1
    exact ⟨h1.1.1, ofInt_toInt h1.1.2 h1.2⟩
  refine o_sw (fun q hq2 => ?_) hs nt hk1 fun H locs nc ns LS st x t hsw w => ?_
  · rw [ht] at hq2
    obtain ⟨y, -, rfl⟩ := List.mem_map.mp hq2
    exact i32n_lt _
  rcases hsw with ⟨q, hq1, hx, e⟩ | ⟨hno, e⟩
  · rw [ht] at hq1
    obtain ⟨y, hy, rfl⟩ := List.mem_map.mp hq1
    obtain ⟨g1, g2⟩ := hin y hy
    have hxy : x.toInt = y.1 := by rw [hx, i32n_of, g2]
    rcases off_spec (d := d) (x := x.toInt) ps.toList with ⟨z, hz, z1, z2⟩ | ⟨z1, -⟩
    · have := hu z hz y hy (by rw [z1, hxy])
      refine lv_lookup F.1 F.2.1 hd hp (z2.trans this) ?_ w
      rw [e]
      show (pc : Int) + y.2 = (((pc : Int) + y.2).toNat : Int)
      omega
    · exact absurd hxy.symm (z1 y hy)
  · rcases off_spec (d := d) (x := x.toInt) ps.toList with ⟨z, hz, z1, z2⟩ | ⟨-, z2⟩
    · exfalso
      refine hno (i32n (Int32.ofInt z.1), ((pc : Int) + z.2).toNat) (by rw [ht]; exact List.mem_map.mpr ⟨z, hz, rfl⟩) ?_
      show x = Int32.ofNat (i32n _)
      rw [i32n_of, ← Int32.toInt_inj, (hin z hz).2, z1]
    · exact lv_lookup F.1 F.2.1 hd hp z2 (by rw [e]; exact hb) w
end SEOs

/-! WHAT A WORLD SAYS STAYS SO; CALLS OF THE DISPATCH -/
theorem rCx_to {D : va_G} {tc : Nat → ClassId} {z0 : Nat → Prop} {ξ0 : Nat → Nat} {SS : rSt} {SR : rSr} {SI : rSi} {NC : List (Nat × Nat)} {xn : Nat → String} {s U : State} (hW : s.WarmedH U.vm) (hq : ∀ a : Nat, a < s.heap.size → ¬ z0 a → U.heap[a]? = s.heap[a]?)
    (h : rCx D tc z0 ξ0 SS SR SI NC xn s) : rCx D tc z0 ξ0 SS SR SI NC xn U := by
  obtain ⟨h1, h2, h3, h4, h5, h6, h7, h8, h9, h10, h11⟩ := h
  have hA := hW.alike
  refine ⟨va_K.moved hA h1, fun t ht cell e1 e2 => State.isArrayOf_alike hA (h2 t ht cell e1 e2), fun t ht => by rw [hA.findClass]; exact h3 t ht, fun kd kv hr => ?_, fun w hw => rn_warm (List.mem_filter.mp hw).2 hW (h5 w hw), fun q hq => vk_R.warm hW (h6 q hq), fun q hq2 => va_Z.kept (va_Z.moved hA (h7 q hq2)) hq, fun q hq2 => va_Z.kept (va_Z.moved hA (h8 q hq2)) hq, vx_Zq.kept (vx_Zq.moved hA h9) hq, vx_Zq.kept (vx_Zq.moved hA h10) hq, fun q hq2 => va_Nc.moved hA (h11 q hq2)⟩
  obtain ⟨k, kv', kcomp, comp, t, e1, e2, e3, e4, e5, e6⟩ := h4 kd kv hr
  obtain ⟨k1, f1, g1⟩ := hA.2.2 _ _ e1
  obtain ⟨k2, f2, g2⟩ := hA.2.2 _ _ e4
  obtain ⟨k3, f3, g3⟩ := hA.2.2 _ _ e5
  exact ⟨k1, k3, k2, comp, t, f1, by rw [g1]; exact e2, e3, f2, f3, by rw [hA.assignable]; exact e6⟩
theorem rCx_call {D : va_G} {tc : Nat → ClassId} {z0 : Nat → Prop} {ξ0 : Nat → Nat} {SS : rSt} {SR : rSr} {SI : rSi} {NC : List (Nat × Nat)} {xn : Nat → String} (U : State) (g : JFrame) (mk : MethodId) (as : Array Value) (h : rCx D tc z0 ξ0 SS SR SI NC xn U) : rCx D tc z0 ξ0 SS SR SI NC xn (U.calling g mk as) :=
  rCx_to (s := U) (State.WarmedH.refl U) (fun _ _ _ => rfl) h
section Ctx
variable {p : Program} {l : Launch} {e : Env} {R : Room} {s : State} {m : MethodId} {args : Array Value} {below : List Frame} {meth : Method} {c : Code} {Q : State → Prop} {D : va_G} {tc : Nat → ClassId} {z0 : Nat → Prop} {ξ : rX} {ζ : rZ} {σ : Nat → Int32} {nL : Nat} {cf : rCF} {M : rM} {BL : Nat → Nat} {mi : Nat} {kb : rB} {k : rK}
variable {cc : ByteArray} {pc a b : Nat} {tb : List (Nat × Nat)} {own : String}
variable {W : Nat → Cond} {mS : Nat → rMS} {PP : Nat → Nat × Nat × Nat} {KT : Nat → Nat → FieldType} {NM : Nat} {SS : rSt} {SR : rSr} {SI : rSi} {NC : List (Nat × Nat)} {xn : Nat → String} {HT : List (Nat × Nat × Nat × Nat)} {ξ0 : Nat → Nat} {hh : List (Nat × Nat × Nat × Nat)}
/-- what is known where a frame of ours stands -/
def rFX (p : Program) (R : Room) (s : State) (m : MethodId) (args : Array Value) (c : Code) (cc : ByteArray) (own : String) (D : va_G) (tc : Nat → ClassId) (z0 : Nat → Prop) (ξ : rX) (ζ : rZ) (nL : Nat) (M : rM) (BL : Nat → Nat) (mi : Nat) (W : Nat → Cond) (mS : Nat → rMS) (PP : Nat → Nat × Nat × Nat) (KT : Nat → Nat → FieldType) (NM : Nat)
    (SS : rSt) (SR : rSr) (SI : rSi) (NC : List (Nat × Nat)) (xn : Nat → String) (ξ0 : Nat → Nat) (hh : List (Nat × Nat × Nat × Nat)) : Prop :=
  rFr p s m args c cc own D tc ∧ c.maxLocals = nL ∧ mloc M mi = nL ∧ mcel M mi ≤ R.cells ∧ mslo M mi ≤ R.slots ∧ rCx D tc z0 ξ0 SS SR SI NC xn s ∧ (∀ a, a < 64 → ξ.2 a = ξ0 a) ∧ rSy ζ.2 ∧ rSh ζ.2 ∧ c.exceptionTable.toList = tableOf hh ∧ rTb W mS PP KT BL NM
section CtxF
variable (X : rFX p R s m args c cc own D tc z0 ξ ζ nL M BL mi W mS PP KT NM SS SR SI NC xn ξ0 hh)
theorem rFX.good {w : Cond} (X : rFX p R s m args c cc own D tc z0 ξ ζ nL M BL mi W mS PP KT NM SS SR SI NC xn ξ0 hh) {q : Nat} (h : kw W w q = true) : w.before args s = true := X.1.2.2.2.1 w (kw_ok X.2.2.2.2.2.2.2.2.2.2.1 h)
theorem rFX.face {w : Cond} (X : rFX p R s m args c cc own D tc z0 ξ ζ nL M BL mi W mS PP KT NM SS SR SI NC xn ξ0 hh) {q : Nat} (h : kn W w q = true) : va_Nw w s := X.2.2.2.2.2.1.2.2.2.2.1 w (kn_ok X.2.2.2.2.2.2.2.2.2.2.1 h)
theorem rFX.face2 {w : Cond} (X : rFX p R s m args c cc own D tc z0 ξ ζ nL M BL mi W mS PP KT NM SS SR SI NC xn ξ0 hh) {q : Nat} (h : kn W w q = true) : w.before args s = true := rn_use (List.mem_filter.mp (kn_ok X.2.2.2.2.2.2.2.2.2.2.1 h)).2 (X.face h)
theorem rFX.nat {w : Cond} (X : rFX p R s m args c cc own D tc z0 ξ ζ nL M BL mi W mS PP KT NM SS SR SI NC xn ξ0 hh) (h : w ∈ rnW) : w.before args s = true := X.1.2.2.2.1 w (X.2.2.2.2.2.2.2.2.2.2.2.2.2.1 w h)
theorem rFX.cl (X : rFX p R s m args c cc own D tc z0 ξ ζ nL M BL mi W mS PP KT NM SS SR SI NC xn ξ0 hh) {x : Nat} (h1 : 1 ≤ x) (h2 : x ≤ 14) : rCl (x - 1) (dCl x).1 (dCl x).2.1 (dCl x).2.2 (KT (x - 1)) ∧ rBlank (BL x) (x - 1) (dCl x).2.2 (KT (x - 1)) := by
  obtain ⟨q1, q2⟩ := X.2.2.2.2.2.2.2.2.2.2.2.2.1 (x - 1) _ (dCl_ok h1 h2)
  rw [show x - 1 + 1 = x by omega] at q2
  exact ⟨q1, q2⟩
theorem rFX.cls (X : rFX p R s m args c cc own D tc z0 ξ ζ nL M BL mi W mS PP KT NM SS SR SI NC xn ξ0 hh) {x : Nat} (h1 : 1 ≤ x) (h2 : x ≤ 14) : ClassAt s (dCl x).1 (rcls D tc x) := by
  have h := (X.1.2.2.2.2.1.1 (x - 1) _ (dCl_ok h1 h2)).2
  unfold rcls
  rw [if_pos (by omega)]
  exact h
/-- the handlers of a call -/
theorem dHnd_ok (X : rFX p R s m args c cc own D tc z0 ξ ζ nL M BL mi W mS PP KT NM SS SR SI NC xn ξ0 hh) {x hp : Nat} {H : Heap} {locs : List Loc} {nc ns : Nat} {LS : Array Slot} {rs : List Value} {q : Nat} {ce : Cell} (hq : H[q]? = some ce) (hv : ce.vm = .none) (hcl : s.vm.findClass (xn x) = some ce.cls)
    (kk : Jvm.Pilot.@@N@@.W p l e R s m args below meth c H locs nc ns Q (F0 m hp LS [.ref q])) : ∀ (t : List (Nat × Nat × Nat × Nat)) (pre : List ExceptionTableEntry), c.exceptionTable.toList = pre ++ tableOf t → (∀ z ∈ pre, covers z pc = false ∨ (z.catchType ≠ 0 ∧ ∃ nm : String, (Cond.classLink own z.catchType nm).before args s = true ∧ va_Nc (xn x) nm s)) →
      dHnd W NC xn HT own pc x hp t = true → vx_W p l e R s m args below meth c H locs nc ns Q (F0 m pc LS rs) q := by
  intro t
  induction t with
  | nil => intro pre _ _ h; cases h
  | cons r t ih =>
    intro pre hsp hpass h
    obtain ⟨s0, e0, h0, ct⟩ := r
    have hsp2 : c.exceptionTable.toList = (pre ++ [⟨s0, e0, h0, ct⟩]) ++ tableOf t := by rw [hsp, List.append_assoc]; rfl
    have h : (bif (Nat.ble s0 pc && Nat.ble (pc + 1) e0) then
      (match HT.find? (fun q => Nat.beq q.1 ct) with
        | some (_, y, p, p2) => !Nat.beq ct 0 && (kw W (.classLink own ct (xn y)) p && (bif Nat.beq x y then (Nat.beq h0 hp && kn W (.castable (xn x) (xn x)) p2) else (decide ((x, y) ∈ NC) && dHnd W NC xn HT own pc x hp t)))
        | none => false)
      else dHnd W NC xn HT own pc x hp t) = true := h
    cases hc : (Nat.ble s0 pc && Nat.ble (pc + 1) e0) with
    | false =>
      rw [hc] at h
      refine ih _ hsp2 (fun z hz => ?_) h
      rcases List.mem_append.mp hz with w | w
      · exact hpass z w
      · rw [List.mem_singleton.mp w]
        refine Or.inl ?_
        rw [Bool.and_eq_false_iff] at hc
        show (decide (s0 ≤ pc) && decide (pc < e0)) = false
        rcases hc with hc | hc
        · have := ble_nle hc
          rw [decide_eq_false (by omega)]; rfl
        · have := ble_nle hc
          rw [decide_eq_false (p := pc < e0) (by omega), Bool.and_false]
    | true =>
      rw [hc] at h
      rw [Bool.and_eq_true] at hc
      have c1 := ble_le hc.1
      have c2 : pc < e0 := ble_le hc.2
      have hcov : covers ⟨s0, e0, h0, ct⟩ pc = true := by
        show (decide (s0 ≤ pc) && decide (pc < e0)) = true
        rw [decide_eq_true c1, decide_eq_true c2]; rfl
      have h : (match HT.find? (fun q => Nat.beq q.1 ct) with
        | some (_, y, p, p2) => !Nat.beq ct 0 && (kw W (.classLink own ct (xn y)) p && (bif Nat.beq x y then (Nat.beq h0 hp && kn W (.castable (xn x) (xn x)) p2) else (decide ((x, y) ∈ NC) && dHnd W NC xn HT own pc x hp t)))
        | none => false) = true := h
      cases hf : HT.find? (fun q => Nat.beq q.1 ct) with
      | none => rw [hf] at h; cases h
      | some w =>
        obtain ⟨w1, y, w3, w4⟩ := w
        rw [hf] at h
        have h : (!Nat.beq ct 0 && (kw W (.classLink own ct (xn y)) w3 && (bif Nat.beq x y then (Nat.beq h0 hp && kn W (.castable (xn x) (xn x)) w4) else (decide ((x, y) ∈ NC) && dHnd W NC xn HT own pc x hp t)))) = true := h
        rw [Bool.and_eq_true, Bool.and_eq_true] at h
        obtain ⟨g1, g2, g3⟩ := h
        have hct : ct ≠ 0 := fun e => by rw [e] at g1; cases g1
        have hlink := X.good g2
        cases hxy : Nat.beq x y with
        | true =>
          rw [hxy] at g3
          have g4 : (Nat.beq h0 hp && kn W (.castable (xn x) (xn x)) w4) = true := g3
          rw [Bool.and_eq_true] at g4
          have e1 := beq_eq hxy
          have e2 := beq_eq g4.1
          have g5 := X.face2 g4.2
          subst e1 e2
          exact vx_catch X.1.2.2.1 pre ⟨s0, e0, h0, ct⟩ (tableOf t) (by rw [hsp]; rfl) hpass hcov hct hlink g5 hq hv hcl kk
        | false =>
          rw [hxy] at g3
          have g3 : (decide ((x, y) ∈ NC) && dHnd W NC xn HT own pc x hp t) = true := g3
          rw [Bool.and_eq_true, decide_eq_true_eq] at g3
          refine ih _ hsp2 (fun z hz => ?_) g3.2
          rcases List.mem_append.mp hz with w | w
          · exact hpass z w
          · rw [List.mem_singleton.mp w]
            exact Or.inr ⟨hct, _, hlink, X.2.2.2.2.2.1.2.2.2.2.2.2.2.2.2.2.1 _ g3.1⟩
theorem rlook_mem : ∀ (t : List (Nat × Nat)) (x v : Nat), rlook t x 0 = v + 1 → (x, v + 1) ∈ t := by
  intro t
  induction t with
  | nil => intro x v h; cases h
  | cons q t ih =>
    intro x v h
    have h : rc (Nat.beq q.1 x) q.2 (rlook t x 0) = v + 1 := h
    cases hb : Nat.beq q.1 x with
    | true =>
      rw [hb] at h
      have h : q.2 = v + 1 := h
      have e := beq_eq hb
      rw [← h, ← e]
      exact List.mem_cons_self
    | false =>
      rw [hb] at h
      exact List.mem_cons_of_mem _ (ih x v h)
theorem dHs_ok (X : rFX p R s m args c cc own D tc z0 ξ ζ nL M BL mi W mS PP KT NM SS SR SI NC xn ξ0 hh) (h : dHs W M NC xn HT own mi pc hh = true) :
    ∀ x hp, rlook (mhnd M mi) (16 * pc + x) 0 = hp + 1 → ∀ (H : Heap) locs nc ns LS rs (q : Nat) (ce : Cell), H[q]? = some ce → ce.vm = .none → s.vm.findClass (xn x) = some ce.cls → Jvm.Pilot.@@N@@.W p l e R s m args below meth c H locs nc ns Q (F0 m hp LS [.ref q]) → vx_W p l e R s m args below meth c H locs nc ns Q (F0 m pc LS rs) q := by
  intro x hp hx H locs nc ns LS rs q ce h1 h2 h3 kk
  have hm := List.all_eq_true.mp h _ (rlook_mem _ _ _ hx)
  have hm : (Nat.ble (16 * pc) (16 * pc + x) && (Nat.beq (hp + 1) 0 || dHnd W NC xn HT own pc (16 * pc + x - 16 * pc) (hp + 1 - 1) hh)) = true := hm
  rw [Bool.and_eq_true, Bool.or_eq_true] at hm
  rcases hm.2 with w | w
  · have := beq_eq w; omega
  · rw [show 16 * pc + x - 16 * pc = x by omega, show hp + 1 - 1 = hp by omega] at w
    exact dHnd_ok X h1 h2 h3 kk hh [] X.2.2.2.2.2.2.2.2.2.1 (fun z hz => by (cases hz)) w
end CtxF
end Ctx

/-! CALLS -/
/-- the words of the tables that stay good in a callee -/
def gT : List Cond := lw_tbl.filter goodWord
theorem gT_in {w : Cond} (h : w ∈ lw_tbl) (hg : goodWord w = true) : w ∈ gT := List.mem_filter.mpr ⟨h, hg⟩
theorem gT_all {hd : Cond} (h : hd ∈ gT) : GoodIn (hd :: gT) (hd :: gT) := fun w hw => by
  refine ⟨hw, good_of_word ?_⟩
  rcases List.mem_cons.mp hw with e | e
  · rw [e]; exact (List.mem_filter.mp h).2
  · exact (List.mem_filter.mp e).2
theorem gT_sub {big : List Cond} (hbig : ∀ w ∈ gT, w ∈ big) {ws : List Cond} (h : ∀ w ∈ ws, w ∈ gT) : GoodIn big ws := fun w hw => ⟨hbig w (h w hw), good_of_word (List.mem_filter.mp (h w hw)).2⟩
theorem rpop_spec : ∀ (b : Nat) (acc st : List Nat) (k : List Nat → List Nat → Bool), rpop b acc st k = true → ∃ as st', st = as.reverse ++ st' ∧ as.length = b ∧ (∀ x ∈ as, x < 18446744073709551616) ∧ k (as ++ acc) st' = true := by
  intro b
  induction b with
  | zero => intro acc st k h; exact ⟨[], st, rfl, rfl, fun x hx => by (cases hx), h⟩
  | succ b ih =>
    intro acc st k h
    cases st with
    | nil => cases h
    | cons x t =>
      obtain ⟨h1, h2⟩ := rc_and (show rc (rcat1 x) (rpop b (x :: acc) t k) false = true from h)
      obtain ⟨as, st', e1, e2, e3, e4⟩ := ih _ _ _ h2
      refine ⟨as ++ [x], st', ?_, by simp [e2], fun y hy => ?_, by simpa using e4⟩
      · simp [e1]
      · rcases List.mem_append.mp hy with q | q
        · exact e3 y q
        · rw [List.mem_singleton.mp q]; exact rcat1_lt h1
/-- what is known of a method by its number: name, bytes, locals, what it returns, its table -/
abbrev rMS : Type := MethodName × ByteArray × Nat × Option FieldType × List (Nat × Nat × Nat × Nat)
def rHd (i : rMS) : Cond := match i.2.2.2.2 with
  | [] => .code i.1 i.2.1 i.2.2.1 i.2.2.2.1
  | hh => .codeWith i.1 i.2.1 i.2.2.1 i.2.2.2.1 hh
section Contract
variable (l : Launch) (D : va_G) (tc : Nat → ClassId) (z0 : Nat → Prop) (ξ0 : Nat → Nat) (ζ : rZ) (M : rM) (mS : Nat → rMS) (rm : Nat → Room) (Cx : State → Prop) (xn : Nat → String)
def rAf (ρ : Nat → Nat) (NB : Nat) (k : rK) (t : State) (P : (Nat → Nat) → (Nat → Int32) → Nat → Prop) : Prop :=
  ∃ (v : Nat) (h' : rH) (NB' : Nat) (env' : rE) (ρ' : Nat → Nat) (σ' : Nat → Int32), k v h' NB' env' = true ∧ rEN ζ σ' env' ∧ NB ≤ NB' ∧ (∀ a, a + 4294967296 < NB → ρ' a = ρ a) ∧ rHR D tc z0 (NB, ρ) ρ' σ' h' NB' t.heap ∧ rwf NB' v ∧ P ρ' σ' v
def rQc (ρ : Nat → Nat) (NB : Nat) (k : rK) : Array Value → State → Outcome → State → Prop := fun _ st o t =>
  rAf D tc z0 ζ ρ NB k t (fun ρ' σ' v => (v < 73786976294838206464 ∧ o = .returned (some (rval ρ' σ' v))) ∨ (v = 73786976294838206465 ∧ o = .returned none)) ∧ va_F z0 st t
def rXc (ρ : Nat → Nat) (NB : Nat) (k : rK) : String → State → State → Prop := fun E st t =>
  rAf D tc z0 ζ ρ NB k t (fun _ _ v => ∃ x, v = 1180591620717411303424 + x ∧ xn x = E) ∧ va_F z0 st t
def rPc (ρ : Nat → Nat) (as : List Nat) (h : rH) (NB : Nat) : Array Value → State → Prop := va_Pc (as.map (rval ρ ζ.2)) (fun U => Cx U ∧ (∀ a, a < 64 → ρ a = ξ0 a) ∧ rHR D tc z0 (NB, ρ) ρ ζ.2 h NB U.heap ∧ ∀ x ∈ as, rwf NB x)
/-- a call is good: the method's contract, where the small machine says that what is behind it is well -/
def rOK (a : Nat) (as : List Nat) (h : rH) (NB : Nat) (env : rE) (k : rK) : Prop := ∀ ρ : Nat → Nat, rEN ζ ζ.2 env → (∀ x ∈ as, x < 18446744073709551616) →
  vx_Met l (mS a).1 (rHd (mS a) :: gT) (rm a) (rPc D tc z0 ξ0 ζ Cx ρ as h NB) (rQc D tc z0 ζ ρ NB k) (rXc D tc z0 ζ xn ρ NB k) (mcel M a) (mslo M a) z0
end Contract
def rCFok (l : Launch) (D : va_G) (tc : Nat → ClassId) (z0 : Nat → Prop) (ξ0 : Nat → Nat) (M : rM) (mS : Nat → rMS) (rm : Nat → Room) (Cx : State → Prop) (xn : Nat → String) (P : (Nat → Int32) → Prop) (cf : rCF) : Prop := ∀ a as h NB env k, cf a as h NB env k = true → ∀ ζ : rZ, ζ.1.2 = P → rOK l D tc z0 ξ0 ζ M mS rm Cx xn a as h NB env k
/-- a call's run, over the length of its instruction -/
def rRun (len : Nat) (p : Program) (l : Launch) (e : Env) (R : Room) (s : State) (m : MethodId) (args : Array Value) (below : List Frame) (meth : Method) (c : Code) (H : Heap) (locs : List Loc) (cells slots mc ms : Nat) (g : JFrame) (rest : List Value) (Qa : State → Outcome → State → Prop) (XC : String → State → State → Prop) (free : Addr → Prop) : Prop :=
  ∀ T : State, T.heap = H → Stand p l e R s m args below meth c T locs cells slots →
    (∃ (v : Option Value) (st₀ t T' : State) (L : List Loc), st₀.heap = H ∧ Stand p l e R s m args below meth c T' (locs ++ L) (cells + mc) (slots + ms) ∧ (∀ q ∈ L, free q.base) ∧ T'.heap = t.heap ∧ T'.vm = t.vm ∧ Qa st₀ (.returned v) t ∧
      Goes p e below T g T' { g with pc := g.pc + len, stack := v.toList ++ rest }) ∨
    (∃ (q : Addr) (st₀ t T' : State) (L : List Loc) (E : String) (ce : Cell), st₀.heap = H ∧ Stand p l e R s m args below meth c T' (locs ++ L) (cells + mc) (slots + ms) ∧ (∀ z ∈ L, free z.base) ∧ T'.heap = t.heap ∧ T'.vm = t.vm ∧ XC E st₀ t ∧ t.heap[q]? = some ce ∧ ce.vm = .none ∧ s.vm.findClass E = some ce.cls ∧
      Steps p.tables e below (T.setTop g) ((T'.setTop { g with stack := rest }).pushFrame (.throwing q)))
def rW (p : Program) (l : Launch) (e : Env) (R : Room) (s : State) (m : MethodId) (args : Array Value) (below : List Frame) (meth : Method) (c : Code) (Q : State → Prop) : rWf := fun H locs nc ns pc LS st => W p l e R s m args below meth c H locs nc ns Q (F0 m pc LS st)
section CallOps
variable {p : Program} {l : Launch} {e : Env} {R : Room} {s : State} {m : MethodId} {args : Array Value} {below : List Frame} {meth : Method} {c : Code} {Q : State → Prop}
variable {D : va_G} {tc : Nat → ClassId} {z0 : Nat → Prop} {ξ : rX} {ζ : rZ} {σ : Nat → Int32} {M : rM} {mS : Nat → rMS} {rm : Nat → Room} {Cx : State → Prop} {xn : Nat → String}
variable {nL pc : Nat} {ih : rG} {rest : rCode} {ls st : List Nat} {h : rH} {NB nc ns : Nat} {env : rE}
/-- a place of a call: what the callee's contract gives there -/
def rSite (p : Program) (l : Launch) (e : Env) (R : Room) (s : State) (m : MethodId) (args : Array Value) (below : List Frame) (meth : Method) (c : Code) (D : va_G) (tc : Nat → ClassId) (z0 : Nat → Prop) (nL : Nat) (M : rM) (mS : Nat → rMS) (rm : Nat → Room) (kd a b pc len : Nat) : Prop :=
  ∀ (H : Heap) (locs : List Loc) (nc ns : Nat) (LS : Array Slot) (As rs : List Value) (Pc : Array Value → State → Prop) (Qc : Array Value → State → Outcome → State → Prop) (XC : String → State → State → Prop), As.length = b → LS.size = nL → (rs.map fun v => v.category).sum ≤ 8 →
    (kd = 0 ∨ ∃ (q : Nat) (cell : Cell) (As' : List Value), As = .ref q :: As' ∧ H[q]? = some cell ∧ cell.vm.isStatics = false ∧ cell.cls = rcls D tc kd) →
    vx_Met l (mS a).1 (rHd (mS a) :: gT) (rm a) Pc Qc XC (mcel M a) (mslo M a) z0 → FrameBlind Pc → (∀ U : State, U.heap = H → s.WarmedH U.vm → Pc As.toArray U) → nc + mcel M a ≤ R.cells ∧ ns + mslo M a ≤ R.slots →
    rRun len p l e R s m args below meth c H locs nc ns (mcel M a) (mslo M a) (F0 m pc LS (As.reverse ++ rs)) rs (Qc As.toArray) XC z0
theorem rcats_spec {ρ : Nat → Nat} : ∀ st : List Nat, ((st.map (rval ρ σ)).map fun v => v.category).sum = rcats st := by
  intro st
  induction st with
  | nil => rfl
  | cons x t ih =>
    have e : rcats (x :: t) = rc (rcat1 x) 1 2 + rcats t := rfl
    rw [e]
    simp only [List.map_cons, List.sum_cons]
    rw [ih]
    cases hb : rcat1 x with
    | true => rw [rval_cat1 (rcat1_lt hb)]
    | false => rw [rval_cat2 (ble_nle hb)]
theorem o_call {cf : rCF} {a b kd mi len B1 B2 : Nat} {ξ0 : Nat → Nat} (hξ : ∀ a, a < 64 → ξ.2 a = ξ0 a) (hcf : rCFok l D tc z0 ξ0 M mS rm Cx xn ζ.1.2 cf) (hCx : ∀ U : State, s.WarmedH U.vm → ∀ locs, va_S z0 s.heap U.heap locs → Cx U) (hCb : ∀ (U : State) g mk as, Cx U → Cx (U.calling g mk as))
    (hR1 : mcel M mi ≤ R.cells) (hR2 : mslo M mi ≤ R.slots) (hkd : kd < 64) (site : rSite p l e R s m args below meth c D tc z0 nL M mS rm kd a b pc len)
    (nx : rNx (rW p l e R s m args below meth c Q) D tc z0 ξ ζ s.heap nL (pc + len) ih rest)
    (nh : ∀ x hp, rlook (mhnd M mi) (16 * pc + x) 0 = hp + 1 → rNx (rW p l e R s m args below meth c Q) D tc z0 ξ ζ s.heap nL hp ih (rdrop hp (mcode M mi)) ∧
      ∀ (H : Heap) locs nc ns LS rs (q : Nat) (ce : Cell), H[q]? = some ce → ce.vm = .none → s.vm.findClass (xn x) = some ce.cls → W p l e R s m args below meth c H locs nc ns Q (F0 m hp LS [.ref q]) → vx_W p l e R s m args below meth c H locs nc ns Q (F0 m pc LS rs) q)
    (hk : oCall cf a b kd mi M pc ih rest ls st h NB nc ns env = true) : rGo (rW p l e R s m args below meth c Q) D tc z0 ξ ζ s.heap nL pc ls st h NB nc ns env := by
  obtain ⟨as, st', rfl, e2, e3, e4⟩ := rpop_spec _ _ _ _ hk
  rw [List.append_nil] at e4
  obtain ⟨b1, b2⟩ := rc_and e4
  obtain ⟨b3, b4⟩ := rc_and b2
  obtain ⟨g1, g2⟩ := rc_and b4
  obtain ⟨g3, g4⟩ := rc_and g2
  obtain ⟨g5, g6⟩ := rc_and g4
  obtain ⟨g7, g8⟩ := rc_and g6
  intro σ ρ H locs LS I
  have hN := I.1.2.2.1
  have hwa : ∀ x ∈ as, rwf NB x := fun x hx => I.2.2.1 x (List.mem_append_left _ (List.mem_reverse.mpr hx))
  have hws : ∀ x ∈ st', rwf NB x := fun x hx => I.2.2.1 x (List.mem_append_right _ hx)
  have hlen : ζ.1.1 ≤ relen env := I.2.2.2.1.2.2.1
  have hM := hcf _ _ _ _ _ _ g8 ((relen env, ζ.1.2), σ) rfl ρ ⟨I.2.2.2.1.1, fun _ _ _ => rfl, Nat.le_refl _, I.2.2.2.1.2.2.2⟩ e3
  have hrun := site H locs nc ns LS (as.map (rval ρ σ)) (st'.map (rval ρ σ)) _ _ _ (by rw [List.length_map]; exact e2) I.2.1.1 (by rw [rcats_spec]; exact ble_le g3) ?_ hM
    (fun a' U g mk hp => ⟨hp.1, hCb _ _ _ _ hp.2.1, hp.2.2⟩) (fun U hU hW => ⟨rfl, hCx U hW locs (by rw [hU]; exact I.2.2.2.2), fun a ha => (I.1.2.1.2.1 a ha).trans (hξ a ha), by rw [hU]; exact I.1.self, hwa⟩) ⟨Nat.le_trans (ble_le g5) hR1, Nat.le_trans (ble_le g7) hR2⟩
  · intro T hT X
    have hst : (as.reverse ++ st').map (rval ρ σ) = (as.map (rval ρ σ)).reverse ++ st'.map (rval ρ σ) := by simp
    rw [hst]
    rcases hrun T hT X with ⟨v, st₀, t, T', L, h0, X', hL, y1, y2, ⟨⟨v', h', NB', env', ρ', σ', k1, kE, k3, k4, k5, k6, k7⟩, hF⟩, go⟩ | ⟨q, st₀, t, T', L, E, ce, h0, X', hL, y1, y2, ⟨⟨v', h', NB', env', ρ', σ', k1, kE, k3, k4, k5, k6, x, k7, k8⟩, hF⟩, c1, c2, c3, go⟩
    · have hag : ∀ i, rpv (relen env) i = true → σ' i = σ i := fun i hi => kE.2.1 i (rpv_lt hi).1 (rpv_lt hi).2
      have hLR := I.2.1.sg b1 hag
      have k2 : rEN ζ σ' env' := ⟨kE.1, fun i hi hv => (kE.2.1 i (Nat.lt_of_lt_of_le hi hlen) hv).trans (I.2.2.2.1.2.1 i hi hv), Nat.le_trans hlen kE.2.2.1, kE.2.2.2⟩
      have k5 := k5.re I.1
      have hS' : va_S z0 s.heap T'.heap (locs ++ L) := by
        obtain ⟨b1, b2, b3⟩ := I.2.2.2.2
        obtain ⟨f1, f2⟩ := hF
        rw [h0] at f1 f2
        rw [y1]
        refine ⟨Nat.le_trans b1 f1, fun x x1 x2 => (f2 x (Nat.lt_of_lt_of_le x1 b1) x2).trans (b2 x x1 x2), fun z hz => ?_⟩
        rcases List.mem_append.mp hz with w | w
        · exact b3 z w
        · exact hL z w
      have hst2 : st'.map (rval ρ' σ') = st'.map (rval ρ σ) := List.map_congr_left fun x hx => (rval_congr k4 (hws x hx)).trans (rsb_val (rsbt_spec _ b3 x hx).2 (rsbt_spec _ b3 x hx).1 hag)
      rcases k7 with ⟨lt, ev⟩ | ⟨ev0, ev⟩
      · obtain ⟨z1, z2⟩ | ⟨z1, z2⟩ := rc_or k1
        · have g := nx _ _ _ _ _ _ _ z2 ρ' T'.heap (locs ++ L) LS ⟨by rw [y1]; exact k5, hLR.congr k4 k3, fun x hx => by
            rcases List.mem_cons.mp hx with w | w
            · rw [w]; exact k6
            · exact (hws x w).mono k3, k2, hS'⟩
          rw [List.map_cons, hst2] at g
          obtain ⟨t2, a1, b1⟩ := g T' rfl X'
          cases ev
          exact ⟨t2, go t2 a1, b1⟩
        · have z9 : 73786976294838206464 < v' := ble_nle z1
          exact absurd lt (by omega)
      · obtain ⟨z1, z2⟩ | ⟨z1, z2⟩ := rc_or k1
        · have : v' ≤ 73786976294838206464 := ble_le z1
          omega
        · obtain ⟨w1, w2⟩ | ⟨w1, w2⟩ := rc_or z2
          · have g := nx _ _ _ _ _ _ _ w2 ρ' T'.heap (locs ++ L) LS ⟨by rw [y1]; exact k5, hLR.congr k4 k3, fun x hx => (hws x hx).mono k3, k2, hS'⟩
            rw [hst2] at g
            obtain ⟨t2, a1, b1⟩ := g T' rfl X'
            cases ev
            exact ⟨t2, go t2 a1, b1⟩
          · exact absurd ev0 (beq_ne w1)
    · have hag : ∀ i, rpv (relen env) i = true → σ' i = σ i := fun i hi => kE.2.1 i (rpv_lt hi).1 (rpv_lt hi).2
      have hLR := I.2.1.sg b1 hag
      have k2 : rEN ζ σ' env' := ⟨kE.1, fun i hi hv => (kE.2.1 i (Nat.lt_of_lt_of_le hi hlen) hv).trans (I.2.2.2.1.2.1 i hi hv), Nat.le_trans hlen kE.2.2.1, kE.2.2.2⟩
      have k5 := k5.re I.1
      have hS' : va_S z0 s.heap T'.heap (locs ++ L) := by
        obtain ⟨b1, b2, b3⟩ := I.2.2.2.2
        obtain ⟨f1, f2⟩ := hF
        rw [h0] at f1 f2
        rw [y1]
        refine ⟨Nat.le_trans b1 f1, fun x x1 x2 => (f2 x (Nat.lt_of_lt_of_le x1 b1) x2).trans (b2 x x1 x2), fun z hz => ?_⟩
        rcases List.mem_append.mp hz with w | w
        · exact b3 z w
        · exact hL z w
      obtain ⟨z1, z2⟩ | ⟨z1, z2⟩ := rc_or k1
      · have : v' ≤ 73786976294838206464 := ble_le z1
        omega
      obtain ⟨w1, w2⟩ | ⟨w1, w2⟩ := rc_or z2
      · have : v' = 73786976294838206465 := beq_eq w1
        omega
      obtain ⟨u1, u2⟩ := rc_nand w2
      obtain ⟨u3, u4⟩ := rc_and u2
      have hx2 : Nat.add (Nat.mul 16 pc) (Nat.sub v' (nat_lit 1180591620717411303424)) = 16 * pc + x := by
        rw [k7]
        show 16 * pc + (1180591620717411303424 + x - 1180591620717411303424) = _
        omega
      rw [hx2] at u1 u4
      obtain ⟨hp, hhp⟩ : ∃ hp, rlook (mhnd M mi) (16 * pc + x) 0 = hp + 1 := Nat.exists_eq_succ_of_ne_zero (beq_ne u1)
      rw [hhp] at u4
      obtain ⟨n1, n2⟩ := nh x hp hhp
      have hNB' : NB' < 4294968320 := Nat.lt_of_succ_le (Nat.le_trans (ble_le u3) (by decide))
      have hge : 4294967296 ≤ NB' := Nat.le_trans (by decide) k5.2.1.1
      obtain ⟨h'', r1, r2, r3⟩ := rset_spec h' 0 1024 k5.1 (NB' - 4294967296) 0 (Nat.zero_le _) (by omega) _ u4
      have hq : q < t.heap.size := (Array.getElem?_eq_some_iff.mp c1).1
      have hJ := k5.junk hNB' r2 r3 hq
      have hup : ∀ a, a + 4294967296 < NB → va_up ρ' (NB' - 4294967296) q a = ρ a := fun a ha => by rw [va_up_ne ρ' q (by omega)]; exact k4 a ha
      have g := n1 _ _ _ _ _ _ _ r1 (va_up ρ' (NB' - 4294967296) q) T'.heap (locs ++ L) LS ⟨by rw [y1]; exact hJ, hLR.congr hup (by omega), fun x hx => by
          rw [List.mem_singleton.mp hx]; exact rwf_ref (by omega) (Nat.lt_succ_self _), k2, hS'⟩
      rw [List.map_cons, rval_new k5.2.1.1 hNB', List.map_nil] at g
      have hc := n2 T'.heap (locs ++ L) _ _ LS (st'.map (rval ρ σ)) q ce (by rw [y1]; exact c1) c2 (by rw [k8]; exact c3) g
      obtain ⟨t2, a1, b1⟩ := hc T' rfl X'
      exact ⟨t2, go.trans a1, b1⟩
  · by_cases h0 : kd = 0
    · exact Or.inl h0
    · refine Or.inr ?_
      rcases rc_or g1 with ⟨w, -⟩ | ⟨-, w⟩
      · exact absurd (beq_eq w) h0
      · cases as with
        | nil => cases w
        | cons o as' =>
          obtain ⟨f1, f2, f3, f4⟩ := rcellr_spec (show rcellr o kd h NB (fun c => Nat.ble (rkind c) (nat_lit 1087)) = true from w)
          obtain ⟨c1, -⟩ := I.1.2.2.2.2.1 (o - 4294967296) (by omega)
          have f4 : rget h (o - 4294967296) % 65536 ≤ 1087 := ble_le f4
          obtain ⟨cell, d1, d2, d3⟩ := c1.some (by omega) f4
          exact ⟨_, cell, as'.map (rval ρ σ), by rw [List.map_cons, rval_ref f1 (by omega)], d1, rVm_st d3, by rw [d2, f3]⟩
end CallOps

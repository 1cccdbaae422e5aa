/-! SOUND: the small machine's run of a frame -/
/-- the length of an element: where the next one lies -/
def rilen (el : rEl) : Nat := match el.1 with
  | .nop => 0
  | .bipush _ => 2
  | .sipush _ => 3
  | .ldc _ => 2
  | .ldc_w _ => 3
  | .ldc2_w _ => 3
  | .getstatic _ => 3
  | .iload _ => 2
  | .aload _ => 2
  | .lload _ => 2
  | .dload _ => 2
  | .istore _ => 2
  | .astore _ => 2
  | .lstore _ => 2
  | .dstore _ => 2
  | .iinc _ _ => 3
  | .ifCond _ _ => 3
  | .if_icmp _ _ => 3
  | .if_acmp _ _ => 3
  | .ifnull _ => 3
  | .ifnonnull _ => 3
  | .goto _ => 3
  | .tableswitch _ _ _ _ => el.2.2.1
  | .lookupswitch _ _ => el.2.2.1
  | .getfield _ => 3
  | .putfield _ => 3
  | .new _ => 3
  | .newarray _ => 2
  | .anewarray _ => 3
  | .multianewarray _ _ => 4
  | .checkcast _ => 3
  | .invokevirtual _ => 3
  | .invokespecial _ => 3
  | .invokestatic _ => 3
  | .invokeinterface _ _ => 5
  | _ => 1
/-- each element's next one lies where it should -/
def rchain : rCode → Prop
  | [] => True
  | el :: t => (∀ e2 t2, t = e2 :: t2 → e2.2.1 = el.2.1 + rilen el) ∧ rchain t
def rchk : rCode → Bool
  | [] => true
  | el :: t => (match t with
    | [] => true
    | e2 :: _ => Nat.beq e2.2.1 (Nat.add el.2.1 (rilen el))) && rchk t
theorem rchk_ok : ∀ c : rCode, rchk c = true → rchain c := by
  intro c
  induction c with
  | nil => exact fun _ => trivial
  | cons el t ih =>
    intro h
    cases t with
    | nil => exact ⟨fun e2 t2 e => by (cases e), trivial⟩
    | cons x y =>
      have h : (Nat.beq x.2.1 (Nat.add el.2.1 (rilen el)) && rchk (x :: y)) = true := h
      rw [Bool.and_eq_true] at h
      exact ⟨fun e2 t2 e => by cases e; exact beq_eq h.1, ih h.2⟩
theorem rchain_suf {c : rCode} : ∀ {L : rCode}, L <:+ c → rchain c → rchain L := by
  induction c with
  | nil => intro L h _; rw [List.suffix_nil.mp h]; trivial
  | cons x t ih =>
    intro L h hc
    rcases List.suffix_cons_iff.mp h with e | e
    · rw [e]; exact hc
    · exact ih e hc.2
theorem rdrop_suf (t : Nat) : ∀ c : rCode, rdrop t c <:+ c ∧ ∀ el r, rdrop t c = el :: r → el.2.1 = t := by
  intro c
  induction c with
  | nil => exact ⟨List.suffix_refl _, fun el r h => by cases h⟩
  | cons x c ih =>
    have e : rdrop t (x :: c) = rc (Nat.beq x.2.1 t) (x :: c) (rdrop t c) := rfl
    cases hb : Nat.beq x.2.1 t with
    | true =>
      rw [hb] at e
      have e : rdrop t (x :: c) = x :: c := e
      rw [e]
      exact ⟨List.suffix_refl _, fun el r h => by cases h; exact beq_eq hb⟩
    | false =>
      rw [hb] at e
      have e : rdrop t (x :: c) = rdrop t c := e
      rw [e]
      exact ⟨ih.1.trans (List.suffix_cons _ _), ih.2⟩
theorem rprod {F : rOp → Bool} (q : rOp × Unit) (h : Prod.rec (motive := fun _ => Bool) (fun f _ => F f) q = true) : F q.1 = true := by
  cases q; exact h
section Sound
variable {p : Program} {l : Launch} {e : Env} {R : Room} {s : State} {m : MethodId} {args : Array Value} {below : List Frame} {meth : Method} {c : Code} {Q : State → Prop} {D : va_G} {tc : Nat → ClassId} {z0 : Nat → Prop} {ξ : rX} {ζ : rZ} {σ : Nat → Int32} {nL : Nat} {cf : rCF} {M : rM} {BL : Nat → Nat} {mi : Nat} {kb : rB} {k : rK}
theorem rrun_sound (hall : ∀ el ∈ mcode M mi, rEO p l e R s m args below meth c Q D tc z0 ξ ζ nL cf M BL mi kb k (rilen el) el) (hch : rchain (mcode M mi)) :
    ∀ (n : Nat) (L : rCode) (pc : Nat), L <:+ mcode M mi → (∀ el t, L = el :: t → el.2.1 = pc) → rNx (rW p l e R s m args below meth c Q) D tc z0 ξ ζ s.heap nL pc (rrun cf M BL mi kb k n) L := by
  intro n
  induction n with
  | zero => intro L pc _ _ ls st h NB nc ns env hk; cases hk
  | succ n ih =>
    intro L pc hL hpc ls st h NB nc ns env hk
    cases L with
    | nil => cases hk
    | cons el t =>
      have hk1 := rprod (F := fun f => f cf M BL mi kb k (rrun cf M BL mi kb k n) el t ls st h NB nc ns env) (rop el.1) hk
      have hp := hpc el t rfl
      subst hp
      have ht : t <:+ mcode M mi := (List.suffix_cons el t).trans hL
      have hc := rchain_suf hL hch
      exact hall el (hL.subset List.mem_cons_self) (rrun cf M BL mi kb k n) t (ih t _ ht (fun e2 t2 e => hc.1 e2 t2 e)) (fun tg => ih _ tg (rdrop_suf tg _).1 (rdrop_suf tg _).2) ls st h NB nc ns env hk1
/-- calls, by what is known of their places -/
theorem eo_call {mS : Nat → rMS} {rm : Nat → Room} {Cx : State → Prop} {xn : Nat → String} {ξ0 : Nat → Nat} {pc a b len : Nat} {tb : List (Nat × Nat)} (hξ : ∀ a, a < 64 → ξ.2 a = ξ0 a) (hcf : rCFok l D tc z0 ξ0 M mS rm Cx xn ζ.1.2 cf) (hCx : ∀ U : State, s.WarmedH U.vm → ∀ locs, va_S z0 s.heap U.heap locs → Cx U) (hCb : ∀ (U : State) g mk as, Cx U → Cx (U.calling g mk as))
    (hR1 : mcel M mi ≤ R.cells) (hR2 : mslo M mi ≤ R.slots) (hkd : rtb tb < 64) (site : rSite p l e R s m args below meth c D tc z0 nL M mS rm (rtb tb) a b pc len)
    (hh : ∀ x hp, rlook (mhnd M mi) (16 * pc + x) 0 = hp + 1 → ∀ (H : Heap) locs nc ns LS rs (q : Nat) (ce : Cell), H[q]? = some ce → ce.vm = .none → s.vm.findClass (xn x) = some ce.cls → W p l e R s m args below meth c H locs nc ns Q (F0 m hp LS [.ref q]) → vx_W p l e R s m args below meth c H locs nc ns Q (F0 m pc LS rs) q)
    (ha : Nat.beq a 0 = false) (ha2 : Nat.ble 1000 a = false) {ih : rG} {rest : rCode} (nx : rNx (rW p l e R s m args below meth c Q) D tc z0 ξ ζ s.heap nL (pc + len) ih rest) (nt : ∀ t, rNx (rW p l e R s m args below meth c Q) D tc z0 ξ ζ s.heap nL t ih (rdrop t (mcode M mi)))
    {ls st : List Nat} {h : rH} {NB nc ns : Nat} {env : rE} {Y : Bool} (hk : rc (Nat.beq a 0) false (rc (Nat.ble 1000 a) Y (oCall cf a b (rtb tb) mi M pc ih rest ls st h NB nc ns env)) = true) : rGo (rW p l e R s m args below meth c Q) D tc z0 ξ ζ s.heap nL pc ls st h NB nc ns env := by
  obtain ⟨-, h1⟩ := rc_nand hk
  rw [ha2] at h1
  exact o_call (B1 := 0) (B2 := 0) hξ hcf hCx hCb hR1 hR2 hkd site nx (fun x hp e => ⟨nt hp, hh x hp e⟩) h1
end Sound

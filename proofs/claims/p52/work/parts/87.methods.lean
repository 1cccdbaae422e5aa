/-! RETURNS, THROWS, WHOLE METHODS OF THE DISPATCH -/
theorem at0_mem {own own' X : String} {ic ic' : Nat} {names : List String} {w : Cond} (h : w ∈ vx_at0 own ic X names) : w = .methodLink own ic (Bundle.init0 X) ∨ w ∈ vx_at0 own' ic' X names := by
  unfold vx_at0 Bundle.ownAtoms0 at *
  obtain ⟨h1, h2⟩ := List.mem_filter.mp h
  rcases List.mem_append.mp h1 with h3 | h3
  · exact Or.inr (List.mem_filter.mpr ⟨List.mem_append_left _ h3, h2⟩)
  · rcases List.mem_cons.mp h3 with e | h4
    · exact Or.inl e
    · exact Or.inr (List.mem_filter.mpr ⟨List.mem_append_right _ (List.mem_cons_of_mem _ h4), h2⟩)
/-- what is known of an exception by its number -/
def rXt (xn : Nat → String) (XT : Nat → List String) : Prop := ∀ b, 1 ≤ b → b ≤ 5 → Bundle.fit (xn b) = true ∧ (∀ n ∈ XT b, Bundle.fit n = true) ∧ ∃ (own : String) (ic : Nat), ∀ w ∈ vx_at0 own ic (xn b) (XT b), w ∈ gT ∨ (w ∈ rnT ∧ w.onTables = true)
section Meths
variable {p : Program} {l : Launch} {e : Env} {R : Room} {s : State} {m : MethodId} {args : Array Value} {below : List Frame} {meth : Method} {c : Code} {D : va_G} {tc : Nat → ClassId} {z0 : Nat → Prop} {ζ : rZ} {σ : Nat → Int32} {nL : Nat} {cf : rCF} {M : rM} {BL : Nat → Nat} {mi : Nat} {kb : rB} {k : rK} {ρ0 : Nat → Nat} {NB0 : Nat}
variable {cc : ByteArray} {pc a b : Nat} {tb : List (Nat × Nat)} {own : String}
variable {W : Nat → Cond} {mS : Nat → rMS} {PP : Nat → Nat × Nat × Nat} {KT : Nat → Nat → FieldType} {NM : Nat} {SS : rSt} {SR : rSr} {SI : rSi} {NC : List (Nat × Nat)} {xn : Nat → String} {HT : List (Nat × Nat × Nat × Nat)} {ξ0 : Nat → Nat} {hh : List (Nat × Nat × Nat × Nat)} {XT : Nat → List String}
/-- elements that leave the frame -/
noncomputable def rdB (W : Nat → Cond) (xn : Nat → String) (XT : Nat → List String) (own : String) (R : Room) (a b : Nat) (tb : List (Nat × Nat)) (ret : Option FieldType) (hh : List (Nat × Nat × Nat × Nat)) (i : Instr) : Bool := match i, ret with
  | .ireturn, some .byte => Nat.beq a 1
  | .ireturn, some ty => dty a ty && Nat.ble a 2
  | .areturn, some (.object _) => true
  | .areturn, some (.array _) => true
  | .lreturn, some .long => true
  | .freturn, some .float => true
  | .dreturn, some .double => true
  | .return_, none => true
  | .new k, _ => Nat.beq a 0 && (Nat.ble 1 b && (Nat.ble b 5 && (hh.isEmpty && (kw W (.classLink own k (xn b)) (tn tb 1).1 && (kw W (.initialized (xn b)) (tn tb 1).2 && (kw W (.methodLink own (tn tb 0).1 (Bundle.init0 (xn b))) (tn tb 0).2 &&
    (Nat.ble ((XT b).length + 4) R.frames && Nat.ble (16 + (13 * ((XT b).length + 1) + 42)) R.locals)))))))
  | _, _ => false
theorem rbyte {v : Nat} (h : v ≤ 1) : narrow .byte (.int (Int32.ofNat v)) = .int (Int32.ofNat v) := by
  match v, h with
  | 0, _ => rfl
  | 1, _ => rfl
  | n + 2, h => omega
theorem eo_ireturnB (he : p.tables.exec = Jvm.exec) (hb : c.code = cc) (hlk : meth.locks = false) (hr : meth.sig.returnType = some .byte) (ha : a = 1) (hd : decode cc pc = .ok (.ireturn, 1)) : rEO p l e R s m args below meth c (rQ below D tc z0 ζ xn ρ0 NB0 k args s (mcel M mi) (mslo M mi)) D tc z0 (NB0, ρ0) ζ nL cf M BL mi kb k 1 (.ireturn, pc, a, b, tb) := by
  subst ha
  intro ih rest _ _ ls st h NB nc ns env hk
  obtain ⟨h1, h2⟩ := rc_and (show rc (Nat.ble nc (mcel M mi)) (rc (Nat.ble ns (mslo M mi)) (rret (rty 1) k st h NB env) false) false = true from hk)
  obtain ⟨h3, h4⟩ := rc_and h2
  obtain ⟨v, rfl, h5, h6⟩ := rret_spec h4
  intro σ ρ H locs LS I
  have hv1 : v ≤ 1 := ble_le (show Nat.ble v 1 = true from h5)
  have hx : rval ρ σ v = .int (Int32.ofNat v) := rval_lit (by omega)
  have hw := I.2.2.1 v List.mem_cons_self
  show Jvm.Pilot.@@N@@.W _ _ _ _ _ _ _ _ _ _ _ _ _ _ _ (F0 m pc LS [rval ρ σ v])
  rw [hx]
  refine vx_ret (W.widen (ble_le h1) (ble_le h3) (W.zret he hb hr (rbyte hv1) (fun t e1 _ => ?_) (fun q hq => I.2.2.2.2.2.2 q hq) hd hlk))
  exact rEnd I h6 hw e1 (Or.inl ⟨by omega, by rw [hx]⟩)
theorem rdB_ok (X : rFX p R s m args c cc own D tc z0 (NB0, ρ0) ζ nL M BL mi W mS PP KT NM SS SR SI NC xn ξ0 hh) (hXT : rXt xn XT) (hl : l.stackTraces = false) (hlk : meth.locks = false) {ret : Option FieldType} (hr : meth.sig.returnType = ret) {i : Instr} (hdc : rDec cc (i, pc, a, b, tb)) (hdd : rdead (i, pc, a, b, tb) = false)
    (h : rdB W xn XT own R a b tb ret hh i = true) : rEO p l e R s m args below meth c (rQ below D tc z0 ζ xn ρ0 NB0 k args s (mcel M mi) (mslo M mi)) D tc z0 (NB0, ρ0) ζ nL cf M BL mi kb k (rilen (i, pc, a, b, tb)) (i, pc, a, b, tb) := by
  have F := X.1
  have dk : rfree i = false → decode cc pc = .ok (i, rilen (i, pc, a, b, tb)) ∧ ∀ ik, i = .new ik → a = 0 → decode cc (pc + 3) = .ok (.dup, 1) ∧ decode cc (pc + 4) = .ok (.invokespecial (tn tb 0).1, 3) ∧ decode cc (pc + 7) = .ok (.athrow, 1) := fun hf => by
    rcases hdc with q | q | q
    · rw [hdd] at q; cases q
    · have q : rfree i = true := q
      rw [hf] at q; cases q
    · exact q
  clear hdc hdd
  unfold rdB at h
  split at h
  · exact eo_ireturnB F.1 F.2.1 hlk hr (beq_eq h) (dk rfl).1
  · rw [Bool.and_eq_true] at h
    exact eo_ireturn F.1 F.2.1 hlk hr (dty_ok h.1) (ble_le h.2) X.2.2.2.2.2.2.2.1 (dk rfl).1
  · exact eo_areturn F.1 F.2.1 hlk hr (Or.inl ⟨_, rfl⟩) (dk rfl).1
  · exact eo_areturn F.1 F.2.1 hlk hr (Or.inr ⟨_, rfl⟩) (dk rfl).1
  · exact eo_lreturn F.1 F.2.1 hlk hr (dk rfl).1
  · exact eo_freturn F.1 F.2.1 hlk hr (dk rfl).1
  · exact eo_dreturn F.1 F.2.1 hlk hr (dk rfl).1
  · exact eo_return F.1 F.2.1 hlk hr (dk rfl).1
  · simp only [Bool.and_eq_true] at h
    obtain ⟨h1, h2, h3, h4, h5, h6, h7, h8, h9⟩ := h
    have ha := beq_eq h1
    have hhe : hh = [] := List.isEmpty_iff.mp h4
    obtain ⟨d0, dm⟩ := dk rfl
    obtain ⟨d3, d4, d7⟩ := dm _ rfl ha
    obtain ⟨x1, x2, own', ic', x3⟩ := hXT b (ble_le h2) (ble_le h3)
    have hW := X.2.2.2.2.2.2.2.2.2.2.1
    have good : ∀ w, w ∈ gT → w.before args s = true ∧ vx_ot w = true := fun w q => ⟨F.2.2.2.1 w q, by unfold vx_ot; rw [(List.mem_filter.mp q).2, Bool.or_true]⟩
    have hall : ∀ w ∈ vx_at0 own (tn tb 0).1 (xn b) (XT b), w.before args s = true ∧ vx_ot w = true := fun w hw => by
      rcases at0_mem (own' := own') (ic' := ic') hw with q | q
      · exact good w (by rw [q]; exact kw_ok hW h7)
      · rcases x3 w q with r | r
        · exact good w r
        · exact ⟨va_Nw.use r.2 (X.2.2.2.2.2.1.2.2.2.2.1 w r.1), by unfold vx_ot; rw [r.2]; rfl⟩
    have g1 := kw_ok hW h5
    have g2 := kw_ok hW h6
    exact eo_throw F.1 F.2.1 hlk hl F.2.2.1 x1 x2 (X.good h5) (X.good h6) (fun w hw => (hall w hw).1) (memc (good _ g1).2 (memc (good _ g2).2 fun w hw => (hall w hw).2)) X.2.2.2.2.2.1.2.2.2.2.2.2.2.2.1 X.2.2.2.2.2.1.2.2.2.2.2.2.2.2.2.1 X.2.1 d0 d3 d4 d7 (fun z hz => by rw [X.2.2.2.2.2.2.2.2.2.1, hhe] at hz; cases hz) (ble_le h8) (ble_le h9) X.2.2.2.1 X.2.2.2.2.1 rfl ha
  · cases h
/-- an element of a method: by one function or the other -/
noncomputable def rdE (W : Nat → Cond) (mS : Nat → rMS) (PP : Nat → Nat × Nat × Nat) (KT : Nat → Nat → FieldType) (M : rM) (NM : Nat) (SS : rSt) (SR : rSr) (SI : rSi) (NC : List (Nat × Nat)) (xn : Nat → String) (HT : List (Nat × Nat × Nat × Nat)) (XT : Nat → List String) (mi : Nat) (el : rEl) : Bool :=
  rdead el || (rdA W mS PP KT M NM SS SR SI NC xn HT (mS mi).1.cls (rRm M PP mi) mi el.2.1 el.2.2.1 el.2.2.2.1 el.2.2.2.2 (mS mi).1.name (mS mi).2.2.2.2 el.1 || rdB W xn XT (mS mi).1.cls (rRm M PP mi) el.2.2.1 el.2.2.2.1 el.2.2.2.2 (mS mi).2.2.2.1 (mS mi).2.2.2.2 el.1)
end Meths

/-! CALLS OF THE DISPATCH ARE WELL -/
theorem mem3 {α : Type} {P : α → Prop} {a b c : α} {L : List α} (ha : P a) (hb : P b) (hc : P c) (hL : ∀ w ∈ L, P w) : ∀ w ∈ [a, b, c] ++ L, P w := by
  intro w h
  rcases List.mem_append.mp h with q | q
  · rcases List.mem_cons.mp q with e | q
    · rw [e]; exact ha
    rcases List.mem_cons.mp q with e | q
    · rw [e]; exact hb
    rw [List.mem_singleton.mp q]; exact hc
  · exact hL w q
theorem mem4 {α : Type} {P : α → Prop} {a b c d : α} {L : List α} (ha : P a) (hb : P b) (hc : P c) (hd : P d) (hL : ∀ w ∈ L, P w) : ∀ w ∈ [a, b, c, d] ++ L, P w := by
  intro w h
  rcases List.mem_cons.mp h with e | q
  · rw [e]; exact ha
  · exact mem3 hb hc hd hL w q
theorem memc {α : Type} {P : α → Prop} {a : α} {L : List α} (ha : P a) (hL : ∀ w ∈ L, P w) : ∀ w ∈ a :: L, P w := by
  intro w h
  rcases List.mem_cons.mp h with e | q
  · rw [e]; exact ha
  · exact hL w q
section Calls
variable {p : Program} {l : Launch} {e : Env} {R : Room} {s : State} {m : MethodId} {args : Array Value} {below : List Frame} {meth : Method} {c : Code} {Q : State → Prop} {D : va_G} {tc : Nat → ClassId} {z0 : Nat → Prop} {ξ : rX} {ζ : rZ} {σ : Nat → Int32} {nL : Nat} {cf : rCF} {M : rM} {BL : Nat → Nat} {mi : Nat} {kb : rB} {k : rK}
variable {cc : ByteArray} {pc a b : Nat} {tb : List (Nat × Nat)} {own : String}
variable {W : Nat → Cond} {mS : Nat → rMS} {PP : Nat → Nat × Nat × Nat} {KT : Nat → Nat → FieldType} {NM : Nat} {SS : rSt} {SR : rSr} {SI : rSi} {NC : List (Nat × Nat)} {xn : Nat → String} {HT : List (Nat × Nat × Nat × Nat)} {ξ0 : Nat → Nat} {hh : List (Nat × Nat × Nat × Nat)}
theorem dCm_ok {n : Nat} (h : dCm mS PP NM R a b tb n = true) : (1 ≤ a ∧ a ≤ NM ∧ NM ≤ 999) ∧ b = n ∧ rtb tb < 64 ∧ ((rRm M PP a).frames + 1 ≤ R.frames ∧ 8 + ((mS a).2.2.1 + 11) + (rRm M PP a).locals ≤ R.locals) := by
  unfold dCm at h
  simp only [Bool.and_eq_true] at h
  obtain ⟨h1, h2, h3, h4, h5, h6, h7⟩ := h
  exact ⟨⟨ble_le h1, ble_le h2, ble_le h3⟩, beq_eq h4, Nat.lt_succ_of_le (ble_le h5), ble_le h6, ble_le h7⟩
theorem mS_nil {a : Nat} (h : (mS a).2.2.2.2.isEmpty = true) : mS a = ((mS a).1, (mS a).2.1, (mS a).2.2.1, (mS a).2.2.2.1, []) ∧ rHd (mS a) = .code (mS a).1 (mS a).2.1 (mS a).2.2.1 (mS a).2.2.2.1 := by
  have ht : (mS a).2.2.2.2 = [] := List.isEmpty_iff.mp h
  constructor
  · rw [← ht]
  · unfold rHd; rw [ht]
theorem rcall_eo (X : rFX p R s m args c cc own D tc z0 ξ ζ nL M BL mi W mS PP KT NM SS SR SI NC xn ξ0 hh) (hcf : rCFok l D tc z0 ξ0 M mS (rRm M PP) (rCx D tc z0 ξ0 SS SR SI NC xn) xn ζ.1.2 cf) (hs : dHs W M NC xn HT own mi pc hh = true) {len : Nat} (ha : 1 ≤ a) (ha2 : a ≤ 999) (hkd : rtb tb < 64)
    (site : rSite p l e R s m args below meth c D tc z0 nL M mS (rRm M PP) (rtb tb) a b pc len) {ih : rG} {rest : rCode} (nx : rNx (rW p l e R s m args below meth c Q) D tc z0 ξ ζ s.heap nL (pc + len) ih rest) (nt : ∀ t, rNx (rW p l e R s m args below meth c Q) D tc z0 ξ ζ s.heap nL t ih (rdrop t (mcode M mi)))
    {ls st : List Nat} {h : rH} {NB nc ns : Nat} {env : rE} {Y : Bool} (hk : rc (Nat.beq a 0) false (rc (Nat.ble 1000 a) Y (oCall cf a b (rtb tb) mi M pc ih rest ls st h NB nc ns env)) = true) : rGo (rW p l e R s m args below meth c Q) D tc z0 ξ ζ s.heap nL pc ls st h NB nc ns env := by
  have e1 : Nat.beq a 0 = false := by
    cases hb : Nat.beq a 0 with
    | false => rfl
    | true => have := beq_eq hb; omega
  have e2 : Nat.ble 1000 a = false := by
    cases hb : Nat.ble 1000 a with
    | false => rfl
    | true => have := ble_le hb; omega
  exact eo_call X.2.2.2.2.2.2.1 hcf (fun U hW locs hS => rCx_to hW (fun x h1 h2 => hS.2.1 x h1 h2) X.2.2.2.2.2.1) (fun U g mk as hU => rCx_call U g mk as hU) X.2.2.2.1 X.2.2.2.2.1 hkd site (dHs_ok X hs) e1 e2 nx nt hk
theorem dSta_ok (X : rFX p R s m args c cc own D tc z0 ξ ζ nL M BL mi W mS PP KT NM SS SR SI NC xn ξ0 hh) (hcf : rCFok l D tc z0 ξ0 M mS (rRm M PP) (rCx D tc z0 ξ0 SS SR SI NC xn) xn ζ.1.2 cf) {i : Nat} (hs : dHs W M NC xn HT own mi pc hh = true) (h : dSta W mS PP NM own R a b tb i = true) (hd : decode cc pc = .ok (.invokestatic i, 3)) :
    rEO p l e R s m args below meth c Q D tc z0 ξ ζ nL cf M BL mi kb k 3 (.invokestatic i, pc, a, b, tb) := by
  unfold dSta at h
  simp only [Bool.and_eq_true, Bool.or_eq_true] at h
  obtain ⟨h1, h2, h3, h4⟩ := h
  obtain ⟨⟨c1, c2, c3⟩, c4, c5, c6⟩ := dCm_ok (M := M) h1
  obtain ⟨-, m2, m3, m4, m5⟩ := X.2.2.2.2.2.2.2.2.2.2.2.1 a c2
  have hW := X.2.2.2.2.2.2.2.2.2.2.1
  intro ih rest nx nt ls st hp NB nc ns env hk
  refine rcall_eo X hcf hs c1 (by omega) c5 ?_ nx nt hk
  rcases h4 with h4 | h4
  · cases ht : (mS a).2.2.2.2 with
    | nil =>
      obtain ⟨q1, q2⟩ := mS_nil (mS := mS) (a := a) (by rw [ht]; rfl)
      exact site_S X.1 X.2.1 q1 (gT_self (mem3 (kw_ok hW h4) (kw_ok hW h3) (kw_ok hW h2) (memc (by rw [← q2]; exact m5) fun _ h => h))) rfl rfl ⟨m2, m3, m4⟩ c4 c6 hd
    | cons t0 tt =>
      have q1 : mS a = ((mS a).1, (mS a).2.1, (mS a).2.2.1, (mS a).2.2.2.1, t0 :: tt) := by rw [← ht]
      have q2 : rHd (mS a) = .codeWith (mS a).1 (mS a).2.1 (mS a).2.2.1 (mS a).2.2.2.1 (t0 :: tt) := by unfold rHd; rw [ht]
      exact site_SX X.1 X.2.1 q1 (gT_self (mem3 (kw_ok hW h4) (kw_ok hW h3) (kw_ok hW h2) (memc (by rw [← q2]; exact m5) fun _ h => h))) rfl rfl ⟨m2, m3, m4⟩ c4 c6 hd
  · obtain ⟨q1, q2⟩ := mS_nil (mS := mS) (a := a) h4.1
    exact site_SN X.1 X.2.1 q1 (gT_self (memc (by rw [← q2]; exact m5) fun _ h => h)) (X.face h4.2) (X.good h2) (X.good h3) rfl rfl ⟨m2, m3, m4⟩ c4 c6 hd
theorem dVir_ok (X : rFX p R s m args c cc own D tc z0 ξ ζ nL M BL mi W mS PP KT NM SS SR SI NC xn ξ0 hh) (hcf : rCFok l D tc z0 ξ0 M mS (rRm M PP) (rCx D tc z0 ξ0 SS SR SI NC xn) xn ζ.1.2 cf) {i : Nat} (hs : dHs W M NC xn HT own mi pc hh = true) (h : dVir W mS PP NM own R a b tb i = true) (hd : decode cc pc = .ok (.invokevirtual i, 3)) :
    rEO p l e R s m args below meth c Q D tc z0 ξ ζ nL cf M BL mi kb k 3 (.invokevirtual i, pc, a, b, tb) := by
  unfold dVir at h
  simp only [Bool.and_eq_true, decide_eq_true_eq] at h
  obtain ⟨h1, h2, h3, h4, h5, h6, h7, h8, h9⟩ := h
  obtain ⟨⟨c1, c2, c3⟩, c4, c5, c6⟩ := dCm_ok (M := M) h1
  obtain ⟨-, m2, m3, m4, m5⟩ := X.2.2.2.2.2.2.2.2.2.2.2.1 a c2
  have hW := X.2.2.2.2.2.2.2.2.2.2.1
  have h3 := ble_le h3
  have h4 := ble_le h4
  obtain ⟨q1, q2⟩ := mS_nil (mS := mS) (a := a) h2
  intro ih rest nx nt ls st hp NB nc ns env hk
  refine rcall_eo X hcf hs c1 (by omega) c5 ?_ nx nt hk
  exact site_V X.1 X.2.1 q1 (C := (dCl (rtb tb)).1) (X.cls h3 h4).1 (by omega) (gT_self (mem4 (kw_ok hW h6) (kw_ok hW h7) (kw_ok hW h8) (kw_ok hW h9) (memc (by rw [← q2]; exact m5) fun _ h => h))) rfl rfl ⟨h5, m2, m3, m4⟩ c4 c6 hd
theorem dSpe_ok (X : rFX p R s m args c cc own D tc z0 ξ ζ nL M BL mi W mS PP KT NM SS SR SI NC xn ξ0 hh) (hcf : rCFok l D tc z0 ξ0 M mS (rRm M PP) (rCx D tc z0 ξ0 SS SR SI NC xn) xn ζ.1.2 cf) {i : Nat} (hs : dHs W M NC xn HT own mi pc hh = true) (h : dSpe W mS PP NM own R a b tb i = true) (hd : decode cc pc = .ok (.invokespecial i, 3)) :
    rEO p l e R s m args below meth c Q D tc z0 ξ ζ nL cf M BL mi kb k 3 (.invokespecial i, pc, a, b, tb) := by
  unfold dSpe at h
  simp only [Bool.and_eq_true, Bool.or_eq_true, decide_eq_true_eq] at h
  obtain ⟨h1, h2, h3, h4, h5, h6, h7, h8⟩ := h
  obtain ⟨⟨c1, c2, c3⟩, c4, c5, c6⟩ := dCm_ok (M := M) h1
  obtain ⟨-, m2, m3, m4, m5⟩ := X.2.2.2.2.2.2.2.2.2.2.2.1 a c2
  have hW := X.2.2.2.2.2.2.2.2.2.2.1
  have h4 := ble_le h4
  obtain ⟨q1, q2⟩ := mS_nil (mS := mS) (a := a) h2
  rw [h3] at q1 q2
  intro ih rest nx nt ls st hp NB nc ns env hk
  refine rcall_eo X hcf hs c1 (by omega) c5 ?_ nx nt hk
  rcases h8 with h8 | h8
  · exact site_I X.1 X.2.1 q1 (by omega) (gT_self (memc (by rw [← q2]; exact m5) fun _ h => h)) (X.good h6) (X.good h8) (X.good h7) h5 rfl rfl ⟨m2, m3, m4⟩ c4 c6 hd
  · exact site_IN X.1 X.2.1 q1 (by omega) (gT_self (memc (by rw [← q2]; exact m5) fun _ h => h)) (X.face h8) (X.good h6) (X.good h7) h5 rfl rfl ⟨m2, m3, m4⟩ c4 c6 hd
theorem dIfc_ok (X : rFX p R s m args c cc own D tc z0 ξ ζ nL M BL mi W mS PP KT NM SS SR SI NC xn ξ0 hh) (hcf : rCFok l D tc z0 ξ0 M mS (rRm M PP) (rCx D tc z0 ξ0 SS SR SI NC xn) xn ζ.1.2 cf) {i n : Nat} (hs : dHs W M NC xn HT own mi pc hh = true) (h : dIfc W mS PP NM own R a b tb i = true) (hd : decode cc pc = .ok (.invokeinterface i n, 5)) :
    rEO p l e R s m args below meth c Q D tc z0 ξ ζ nL cf M BL mi kb k 5 (.invokeinterface i n, pc, a, b, tb) := by
  unfold dIfc at h
  generalize wmeth (W (tn tb 0).2) = x at h
  simp only [Bool.and_eq_true, decide_eq_true_eq] at h
  obtain ⟨h1, h2, h3, h4, h5, h6, h7, h8, h9, h10, h11, h12, h13, h14, h15, h16⟩ := h
  obtain ⟨⟨c1, c2, c3⟩, c4, c5, c6⟩ := dCm_ok (M := M) h1
  obtain ⟨-, m2, m3, m4, m5⟩ := X.2.2.2.2.2.2.2.2.2.2.2.1 a c2
  have hW := X.2.2.2.2.2.2.2.2.2.2.1
  have h3 := ble_le h3
  have h4 := ble_le h4
  obtain ⟨q1, q2⟩ := mS_nil (mS := mS) (a := a) h2
  intro ih rest nx nt ls st hp NB nc ns env hk
  obtain ⟨g1, g2⟩ := rc_nand (show rc (Nat.beq a 0) false (oCall cf a b (rtb tb) mi M pc ih rest ls st hp NB nc ns env) = true from hk)
  have e2 : Nat.ble 1000 a = false := by
    cases hb : Nat.ble 1000 a with
    | false => rfl
    | true => have := ble_le hb; omega
  refine rcall_eo X hcf hs c1 (by omega) c5 ?_ nx nt (Y := false) (by rw [g1, e2]; exact g2)
  exact site_F (x := x) X.1 X.2.1 q1 (X.cls h3 h4) (C := (dCl (rtb tb)).1) (X.cls h3 h4).1 (by omega) (gT_self (mem4 (kw_ok hW h8) (kw_ok hW h9) (kw_ok hW h10) (kw_ok hW h11) (memc (by rw [← q2]; exact m5) fun _ h => h))) ⟨X.face h12, X.face h13, X.face h14, X.face h15, X.face h16⟩ rfl rfl ⟨h6, h7, by rw [h5]; exact m4⟩ c4 c6 hd
end Calls

/-! EVERY ELEMENT OF THE DISPATCH IS WELL -/
theorem sb_zero : sb (Int32.ofNat 0) = 2147483648 := by rw [sb_of (by decide)]; rfl
theorem rbias_hi {a : Nat} (h1 : 2147483648 ≤ a) (h2 : a < 4294967296) : rbias a = a - 2147483648 := by
  show (a + 2147483648) % 4294967296 = _
  omega
theorem rbias_lo {a : Nat} (h1 : a < 2147483648) : rbias a = a + 2147483648 := by
  show (a + 2147483648) % 4294967296 = _
  omega
def rSwi (cc : ByteArray) (el : rEl) : Prop :=
  (∀ d lo hi os, el.1 = .tableswitch d lo hi os → ∃ len, decode cc el.2.1 = .ok (.tableswitch d lo hi os, len) ∧ el.2.2.2.2 = rtab el.2.1 lo os.toList ∧ rpos el.2.1 os.toList = true ∧ (el.2.1 : Int) + d = (el.2.2.2.1 : Int) ∧ -2147483648 ≤ lo ∧ hi < 2147483648 ∧ lo + os.size = hi + 1 ∧ el.2.2.2.2.Pairwise (fun a b => rbias a.1 < rbias b.1)) ∧
  (∀ d ps, el.1 = .lookupswitch d ps → ∃ len, decode cc el.2.1 = .ok (.lookupswitch d ps, len) ∧ el.2.2.2.2 = rltab el.2.1 ps.toList ∧ rlpos el.2.1 ps.toList = true ∧ (el.2.1 : Int) + d = (el.2.2.2.1 : Int) ∧ (ps.toList.zip (ps.toList.drop 1)).all (fun (a, next) => a.1 < next.1) = true ∧ el.2.2.2.2.Pairwise (fun a b => rbias a.1 < rbias b.1) ∧ ∀ q ∈ ps.toList, ∀ q2 ∈ ps.toList, q.1 = q2.1 → q.2 = q2.2)
theorem dty_ok {t : Nat} {ty : FieldType} (h : dty t ty = true) : rtyOk t ty := by
  unfold dty at h
  split at h
  · rfl
  · rfl
  · rfl
  · rfl
  · exact Or.inl ⟨_, rfl⟩
  · exact Or.inr ⟨_, rfl⟩
  · rfl
  · cases h
theorem getD_mem {α : Type} {l : List α} {i : Nat} {d : α} (h : i + 1 ≤ l.length) : l.getD i d ∈ l := by
  have h2 : i < l.length := h
  rw [List.getD_eq_getElem?_getD, List.getElem?_eq_getElem h2]
  exact List.getElem_mem h2
section Els
variable {p : Program} {l : Launch} {e : Env} {R : Room} {s : State} {m : MethodId} {args : Array Value} {below : List Frame} {meth : Method} {c : Code} {Q : State → Prop} {D : va_G} {tc : Nat → ClassId} {z0 : Nat → Prop} {ξ : rX} {ζ : rZ} {σ : Nat → Int32} {nL : Nat} {cf : rCF} {M : rM} {BL : Nat → Nat} {mi : Nat} {kb : rB} {k : rK}
variable {cc : ByteArray} {pc a b : Nat} {tb : List (Nat × Nat)} {own : String}
variable {W : Nat → Cond} {mS : Nat → rMS} {PP : Nat → Nat × Nat × Nat} {KT : Nat → Nat → FieldType} {NM : Nat} {SS : rSt} {SR : rSr} {SI : rSi} {NC : List (Nat × Nat)} {xn : Nat → String} {HT : List (Nat × Nat × Nat × Nat)} {ξ0 : Nat → Nat} {hh : List (Nat × Nat × Nat × Nat)}
theorem eo_dead {i : Instr} {n : Nat} (h : rdead (i, pc, a, b, tb) = true) : rEO p l e R s m args below meth c Q D tc z0 ξ ζ nL cf M BL mi kb k n (i, pc, a, b, tb) := by
  intro ih rest nx nt ls st hp NB nc ns env hk
  cases i with
  | athrow => cases hk
  | getfield x =>
    have h : Nat.beq a 0 = true := h
    have hk : rc (Nat.beq a 0) false (oGet a b ih rest ls st hp NB nc ns env) = true := hk
    rw [h] at hk
    cases hk
  | ldc x =>
    have h : Nat.beq a 9 = true := h
    have e := beq_eq h
    subst e
    cases hk
  | invokeinterface x y =>
    have h : Nat.beq a 0 = true := h
    have hk : rc (Nat.beq a 0) false (oCall cf a b (rtb tb) mi M pc ih rest ls st hp NB nc ns env) = true := hk
    rw [h] at hk
    cases hk
  | _ => cases h
theorem dFld_ok (X : rFX p R s m args c cc own D tc z0 ξ ζ nL M BL mi W mS PP KT NM SS SR SI NC xn ξ0 hh) {i q r : Nat} (h : dFld W a b i q r = true) : ((1 ≤ a ∧ a ≤ 14) ∧ (b - 48) / 72 < (dCl a).2.2 ∧ b = rsh ((b - 48) / 72)) ∧
    ∀ x, s.fieldFound? ((dCl a).2.1 ((b - 48) / 72)).1 ((dCl a).2.1 ((b - 48) / 72)).2.1 ((dCl a).2.1 ((b - 48) / 72)).2.2.1 = some x → s.fieldFound? (wref (W q)) ((dCl a).2.1 ((b - 48) / 72)).2.1 ((dCl a).2.1 ((b - 48) / 72)).2.2.1 = some x := by
  unfold dFld at h
  simp only [Bool.and_eq_true, Bool.or_eq_true, decide_eq_true_eq] at h
  obtain ⟨h1, h2, h3, h4, h5⟩ := h
  refine ⟨⟨⟨ble_le h1, ble_le h2⟩, ble_le h3, beq_eq h4⟩, fun x hx => ?_⟩
  rcases h5 with h5 | h5
  · rw [h5]; exact hx
  · exact u_same (X.good h5) x hx
theorem risF_ofNat {b : Nat} (h : risF b = true) : b = rF (rfF b) := by
  obtain ⟨h1, h2⟩ := rc_and (show rc (Nat.ble (nat_lit 34359738368) b) (Nat.ble b (nat_lit 38654705663)) false = true from h)
  have h1 : 34359738368 ≤ b := ble_le h1
  have h2 : b ≤ 38654705663 := ble_le h2
  show b = 34359738368 + (UInt32.ofNat (b - 34359738368)).toNat
  rw [UInt32.toNat_ofNat']
  omega
theorem dRn_ok (h : dRn R = true) : 1 ≤ R.frames ∧ 60 ≤ R.locals := by
  have h : (Nat.ble 1 R.frames && Nat.ble 60 R.locals) = true := h
  rw [Bool.and_eq_true] at h
  exact ⟨ble_le h.1, ble_le h.2⟩
theorem eo_nats (X : rFX p R s m args c cc own D tc z0 ξ ζ nL M BL mi W mS PP KT NM SS SR SI NC xn ξ0 hh) {x : Nat} (h : dNat W own R a tb x = true) (hd : decode cc pc = .ok (.invokestatic x, 3)) : rEO p l e R s m args below meth c Q D tc z0 ξ ζ nL cf M BL mi kb k 3 (.invokestatic x, pc, a, b, tb) := by
  have F := X.1
  unfold dNat at h
  rw [Bool.and_eq_true] at h
  obtain ⟨h0, h⟩ := h
  obtain ⟨r1, r2⟩ := dRn_ok h0
  cases h1 : Nat.beq a 1001 with
  | true =>
    rw [h1] at h
    exact eo_max F X.2.1 r1 (by omega) X.2.2.2.1 X.2.2.2.2.1 (X.good h) (X.nat (by decide +kernel)) (X.nat (by decide +kernel)) (X.nat (by decide +kernel)) (beq_eq h1) hd
  | false =>
    rw [h1, cond_false] at h
    cases h2 : Nat.beq a 1002 with
    | true =>
      rw [h2] at h
      exact eo_min F X.2.1 r1 (by omega) X.2.2.2.1 X.2.2.2.2.1 (X.good h) (X.nat (by decide +kernel)) (X.nat (by decide +kernel)) (X.nat (by decide +kernel)) (beq_eq h2) hd
    | false =>
      rw [h2, cond_false] at h
      cases h3 : Nat.beq a 1003 with
      | true =>
        rw [h3] at h
        exact eo_abs F X.2.1 r1 (by omega) X.2.2.2.1 X.2.2.2.2.1 (fun _ h => f_abs h) (X.good h) (X.nat (by decide +kernel)) (X.nat (by decide +kernel)) (X.nat (by decide +kernel)) (beq_eq h3) hd
      | false =>
        rw [h3, cond_false] at h
        cases h4 : (Nat.beq a 1004 || Nat.beq a 1007) with
        | false => rw [h4] at h; cases h
        | true =>
          rw [h4, cond_true, Bool.and_eq_true] at h
          obtain ⟨g1, g2⟩ := h
          rw [Bool.or_eq_true] at h4
          rcases h4 with h4 | h4
          · exact eo_copyI F X.2.1 r1 (ble_le g2) (X.good g1) (X.nat (by decide +kernel)) (X.nat (by decide +kernel)) (X.nat (by decide +kernel)) (beq_eq h4) hd
          · exact eo_copyQ F X.2.1 r1 (ble_le g2) (X.good g1) (X.nat (by decide +kernel)) (X.nat (by decide +kernel)) (X.nat (by decide +kernel)) (beq_eq h4) hd
theorem eo_stat (X : rFX p R s m args c cc own D tc z0 ξ ζ nL M BL mi W mS PP KT NM SS SR SI NC xn ξ0 hh) {mn : String} {x : Nat} (h : rdA W mS PP KT M NM SS SR SI NC xn HT own R mi pc a b tb mn hh (.getstatic x) = true) (hd : decode cc pc = .ok (.getstatic x, 3)) : rEO p l e R s m args below meth c Q D tc z0 ξ ζ nL cf M BL mi kb k 3 (.getstatic x, pc, a, b, tb) := by
  have F := X.1
  have h : (kw W (.fieldLink own x (wref (W (tn tb 0).2)) (bif Nat.ble 4294967296 b then (SR.getD (tn tb 1).1 ("", "", "", 0)).2.1 else (SI.getD (tn tb 1).1 ("", "", "", 0)).2.1) (bif Nat.ble 4294967296 b then (SR.getD (tn tb 1).1 ("", "", "", 0)).2.2.1 else (SI.getD (tn tb 1).1 ("", "", "", 0)).2.2.1)) (tn tb 0).2 &&
    (bif Nat.ble 4294967296 b then Nat.ble ((tn tb 1).1 + 1) SR.length && (decide (wref (W (tn tb 0).2) = (SR.getD (tn tb 1).1 ("", "", "", 0)).1) && (Nat.ble (SR.getD (tn tb 1).1 ("", "", "", 0)).2.2.2 63 && Nat.beq b (4294967296 + (SR.getD (tn tb 1).1 ("", "", "", 0)).2.2.2)))
    else Nat.ble ((tn tb 1).1 + 1) SI.length && (decide (wref (W (tn tb 0).2) = (SI.getD (tn tb 1).1 ("", "", "", 0)).1) && Nat.beq (i32n (SI.getD (tn tb 1).1 ("", "", "", 0)).2.2.2) b))) = true := h
  rw [Bool.and_eq_true] at h
  obtain ⟨h1, h2⟩ := h
  have hlink := X.good h1
  cases hb : Nat.ble 4294967296 b with
  | true =>
    rw [hb, cond_true] at h2
    rw [hb, cond_true, cond_true] at hlink
    simp only [Bool.and_eq_true, decide_eq_true_eq] at h2
    obtain ⟨g1, g2, g3, g4⟩ := h2
    have hm : SR.getD (tn tb 1).1 ("", "", "", 0) ∈ SR := getD_mem (ble_le g1)
    have g3 : (SR.getD (tn tb 1).1 ("", "", "", 0)).2.2.2 < 64 := Nat.lt_succ_of_le (ble_le g3)
    have hz := X.2.2.2.2.2.1.2.2.2.2.2.2.1 _ hm
    exact eo_getstaticR F (by rw [X.2.2.2.2.2.2.1 _ g3]; exact hz) hlink (fun y hy => by rw [g2]; exact hy) g3 (beq_eq g4) hd
  | false =>
    rw [hb, cond_false] at h2
    rw [hb, cond_false, cond_false] at hlink
    simp only [Bool.and_eq_true, decide_eq_true_eq] at h2
    obtain ⟨g1, g2, g3⟩ := h2
    have hm : SI.getD (tn tb 1).1 ("", "", "", 0) ∈ SI := getD_mem (ble_le g1)
    have hz := X.2.2.2.2.2.1.2.2.2.2.2.2.2.1 _ hm
    exact eo_getstaticI F hz hlink (fun y hy => by rw [g2]; exact hy) (beq_eq g3) hd
/-- an element that goes on in its frame -/
theorem rdA_ok (X : rFX p R s m args c cc own D tc z0 ξ ζ nL M BL mi W mS PP KT NM SS SR SI NC xn ξ0 hh) (hcf : rCFok l D tc z0 ξ0 M mS (rRm M PP) (rCx D tc z0 ξ0 SS SR SI NC xn) xn ζ.1.2 cf) (hkb : ∀ pc ls st h NB nc ns env, kb pc ls st h NB nc ns env = true → rGo (rW p l e R s m args below meth c Q) D tc z0 ξ ζ s.heap nL pc ls st h NB nc ns env)
    {mn : String} (hmn : meth.name = mn) {i : Instr} (hdc : rDec cc (i, pc, a, b, tb)) (hsw : rSwi cc (i, pc, a, b, tb)) (h : rdA W mS PP KT M NM SS SR SI NC xn HT own R mi pc a b tb mn hh i = true) :
    rEO p l e R s m args below meth c Q D tc z0 ξ ζ nL cf M BL mi kb k (rilen (i, pc, a, b, tb)) (i, pc, a, b, tb) := by
  have F := X.1
  cases hdd : rdead (i, pc, a, b, tb) with
  | true => exact eo_dead hdd
  | false =>
  have dk : rfree i = false → decode cc pc = .ok (i, rilen (i, pc, a, b, tb)) := fun hf => by
    rcases hdc with q | q | q
    · rw [hdd] at q; cases q
    · have q : rfree i = true := q
      rw [hf] at q; cases q
    · exact q.1
  clear hdc hdd
  cases i with
  | iadd => exact eo_iadd F.1 F.2.1 (dk rfl)
  | isub => exact eo_isub F.1 F.2.1 (dk rfl)
  | imul => exact eo_imul F.1 F.2.1 (dk rfl)
  | idiv => exact eo_idiv F.1 F.2.1 (dk rfl)
  | irem => exact eo_irem F.1 F.2.1 (dk rfl)
  | ior => exact eo_ior F.1 F.2.1 (dk rfl)
  | ixor => exact eo_ixor F.1 F.2.1 (dk rfl)
  | ishl => exact eo_ishl F.1 F.2.1 (dk rfl)
  | ishr => exact eo_ishr F.1 F.2.1 (dk rfl)
  | ineg => exact eo_ineg F.1 F.2.1 (dk rfl)
  | i2l => exact eo_i2l F.1 F.2.1 (dk rfl)
  | ladd => exact eo_ladd F.1 F.2.1 (dk rfl)
  | lmul => exact eo_lmul F.1 F.2.1 (dk rfl)
  | lcmp => exact eo_lcmp F.1 F.2.1 (dk rfl)
  | dup => exact eo_dup F.1 F.2.1 (dk rfl)
  | pop => exact eo_pop F.1 F.2.1 (dk rfl)
  | dup_x1 => exact eo_dup_x1 F.1 F.2.1 (dk rfl)
  | dup2 => exact eo_dup2 F.1 F.2.1 (dk rfl)
  | aconst_null => exact eo_null F.1 F.2.1 (dk rfl)
  | iand => exact eo_iand F.1 F.2.1 X.2.2.2.2.2.2.2.1 (dk rfl)
  | i2c => exact eo_i2c F.1 F.2.1 X.2.2.2.2.2.2.2.1 (dk rfl)
  | iushr => exact eo_iushr F X.2.2.2.2.2.2.2.2.1 (dk rfl)
  | iload x => exact eo_iload F.1 F.2.1 (dk rfl)
  | iload_n x => exact eo_iload_n F.1 F.2.1 (dk rfl)
  | lload x => exact eo_lload F.1 F.2.1 (dk rfl)
  | lload_n x => exact eo_lload_n F.1 F.2.1 (dk rfl)
  | aload x => exact eo_aload F.1 F.2.1 (dk rfl)
  | aload_n x => exact eo_aload_n F.1 F.2.1 (dk rfl)
  | istore x => exact eo_istore F.1 F.2.1 X.2.2.1 (dk rfl)
  | istore_n x => exact eo_istore_n F.1 F.2.1 X.2.2.1 (dk rfl)
  | astore x => exact eo_astore F.1 F.2.1 X.2.2.1 (dk rfl)
  | astore_n x => exact eo_astore_n F.1 F.2.1 X.2.2.1 (dk rfl)
  | lstore x => exact eo_lstore F.1 F.2.1 X.2.2.1 (dk rfl)
  | lstore_n x => exact eo_lstore_n F.1 F.2.1 X.2.2.1 (dk rfl)
  | dload x => exact eo_dload F (dk rfl)
  | dstore x => exact eo_dstore F X.2.2.1 (dk rfl)
  | i2b => exact eo_i2b F (dk rfl)
  | i2f => exact eo_i2f F (dk rfl)
  | f2d => exact eo_f2d F (dk rfl)
  | fdiv => exact eo_fdiv F (dk rfl)
  | iaload => exact eo_iaload F (dk rfl)
  | baload => exact eo_baload F (dk rfl)
  | caload => exact eo_caload F (dk rfl)
  | laload => cases h
  | arraylength => exact eo_arraylength F (dk rfl)
  | dcmp x => exact eo_dcmp F (dk rfl)
  | iastore => exact eo_iastore F X.2.2.2.2.2.2.2.1 (dk rfl)
  | bastore => exact eo_bastore F X.2.2.2.2.2.2.2.1 (dk rfl)
  | castore => exact eo_castore F X.2.2.2.2.2.2.2.1 (dk rfl)
  | lastore => cases h
  | iconst n => exact eo_iconst F.1 F.2.1 (dk rfl) (beq_eq h)
  | bipush n => exact eo_bipush F.1 F.2.1 (dk rfl) (beq_eq h)
  | sipush n => exact eo_sipush F.1 F.2.1 (dk rfl) (beq_eq h)
  | lconst n => exact eo_lconst F.1 F.2.1 (dk rfl) (beq_eq h)
  | dconst n => 
    have h : (Nat.beq n.val 0 && Nat.beq b (rD FP.dconst0)) = true := h
    rw [Bool.and_eq_true] at h
    have hn : n = 0 := Fin.ext (beq_eq h.1)
    subst hn
    exact eo_dconst0 F (beq_eq h.2) (dk rfl)
  | ldc x => 
    have h : (Nat.ble b 4294967295 && kw W (.constant own x (Int32.ofNat b)) (tn tb 0).2) = true := h
    rw [Bool.and_eq_true] at h
    exact eo_ldc F (X.good h.2) (of_i32n (Nat.lt_succ_of_le (ble_le h.1))) (dk rfl)
  | ldc_w x => 
    have h : (bif Nat.ble b 4294967295 then kw W (.constant own x (Int32.ofNat b)) (tn tb 0).2 else bif risF b then kw W (.constantFloat own x (rfF b)) (tn tb 0).2 else (match SS[(tn tb 0).2]? with
      | some (o, j, _, y) => decide (o = own) && (Nat.beq j x && (Nat.ble y 63 && Nat.beq b (4294967296 + y)))
      | none => false)) = true := h
    cases h1 : Nat.ble b 4294967295 with
    | true =>
      rw [h1] at h
      exact eo_ldc_w F (X.good h) (of_i32n (Nat.lt_succ_of_le (ble_le h1))) (dk rfl)
    | false =>
      rw [h1] at h
      have h : (bif risF b then kw W (.constantFloat own x (rfF b)) (tn tb 0).2 else (match SS[(tn tb 0).2]? with
        | some (o, j, _, y) => decide (o = own) && (Nat.beq j x && (Nat.ble y 63 && Nat.beq b (4294967296 + y)))
        | none => false)) = true := h
      cases h2 : risF b with
      | true =>
        rw [h2] at h
        exact eo_ldc_wF F (X.good h) (risF_ofNat h2) (dk rfl)
      | false =>
        rw [h2] at h
        have h : (match SS[(tn tb 0).2]? with
          | some (o, j, _, y) => decide (o = own) && (Nat.beq j x && (Nat.ble y 63 && Nat.beq b (4294967296 + y)))
          | none => false) = true := h
        cases hs : SS[(tn tb 0).2]? with
        | none => rw [hs] at h; cases h
        | some w =>
          obtain ⟨o, j, tx, y⟩ := w
          rw [hs] at h
          have h : (decide (o = own) && (Nat.beq j x && (Nat.ble y 63 && Nat.beq b (4294967296 + y)))) = true := h
          simp only [Bool.and_eq_true, decide_eq_true_eq] at h
          obtain ⟨g1, g2, g3, g4⟩ := h
          have g2 := beq_eq g2
          subst g1 g2
          have g3 : y < 64 := Nat.lt_succ_of_le (ble_le g3)
          have hv := X.2.2.2.2.2.1.2.2.2.2.2.1 _ (List.mem_of_getElem? hs)
          exact eo_ldc_wS F (tx := tx) (x := y) (by rw [X.2.2.2.2.2.2.1 y g3]; exact hv) g3 (beq_eq g4) (dk rfl)
  | ldc2_w x => 
    have h : (risL b && kw W (.constantLong own x (Int64.ofNat b)) (tn tb 0).2) = true := h
    rw [Bool.and_eq_true] at h
    exact eo_ldc2_w F (X.good h.2) h.1 rfl (dk rfl)
  | getstatic x => exact eo_stat X h (dk rfl)
  | iinc x n => exact eo_iinc F.1 F.2.1 X.2.2.1 (dk rfl) (beq_eq h)
  | ifCond x off => exact eo_ifCond F.1 F.2.1 (dk rfl) (of_decide_eq_true h)
  | if_icmp x off => exact eo_if_icmp F.1 F.2.1 (dk rfl) (of_decide_eq_true h)
  | if_acmp x off => exact eo_if_acmp F.1 F.2.1 (dk rfl) (of_decide_eq_true h)
  | ifnull off => exact eo_ifnull F.1 F.2.1 (dk rfl) (of_decide_eq_true h)
  | ifnonnull off => exact eo_ifnonnull F.1 F.2.1 (dk rfl) (of_decide_eq_true h)
  | goto off => exact eo_goto F.1 F.2.1 (dk rfl) (of_decide_eq_true h)
  | getfield x => 
    have h : (dFld W a b x (tn tb 0).2 (tn tb 1).1 && (dLk W own a b x (tn tb 0).2 || dLn W own a b x (tn tb 0).2)) = true := h
    rw [Bool.and_eq_true, Bool.or_eq_true] at h
    obtain ⟨⟨⟨g1, g2⟩, g3, g4⟩, g5⟩ := dFld_ok X h.1
    rcases h.2 with q | q
    · exact eo_getfield F (X.cl g1 g2).1 g3 (X.good q) g5 (by omega) (by omega) g4 (dk rfl)
    · exact eo_getfieldN F (X.cl g1 g2).1 g3 (X.face2 q) g5 (by omega) (by omega) g4 (dk rfl)
  | putfield x => 
    have h : (dFld W a b x (tn tb 0).2 (tn tb 1).1 && (dLk W own a b x (tn tb 0).2 && ((!((dCl a).2.1 ((b - 48) / 72)).2.2.2 || (decide (mn = "<init>") && decide (((dCl a).2.1 ((b - 48) / 72)).1 = own))) && dty (rtb tb) (KT (a - 1) ((b - 48) / 72))))) = true := h
    simp only [Bool.and_eq_true, Bool.or_eq_true, decide_eq_true_eq, Bool.not_eq_true'] at h
    obtain ⟨h1, h2, h3, h4⟩ := h
    obtain ⟨⟨⟨g1, g2⟩, g3, g4⟩, g5⟩ := dFld_ok X h1
    refine eo_putfield F X.2.2.2.2.2.2.2.1 (X.cl g1 g2).1 g3 (X.good h2) g5 ?_ (dty_ok h4) (by omega) (by omega) g4 (dk rfl)
    rcases h3 with h3 | h3
    · exact Or.inl h3
    · cases hf : ((dCl a).2.1 ((b - 48) / 72)).2.2.2 with
      | false => exact Or.inl rfl
      | true => exact Or.inr ⟨rfl, by rw [hmn]; exact h3.1, h3.2⟩
  | aaload => 
    have h : (Nat.ble 70 a && Nat.ble a 76) = true := h
    rw [Bool.and_eq_true] at h
    exact eo_aaload F ⟨ble_le h.1, ble_le h.2⟩ (dk rfl)
  | aastore => 
    have h : (Nat.ble 70 a && Nat.ble a 74) = true := h
    rw [Bool.and_eq_true] at h
    exact eo_aastore F ⟨ble_le h.1, ble_le h.2⟩ (dk rfl)
  | new x => 
    have h : (Nat.ble 1 a && (Nat.ble a 14 && (kw W (.classLink own x (dCl a).1) (tn tb 0).2 && (kw W (.instantiable (dCl a).1 (dCl a).2.2) (tn tb 1).1 && kw W (.initialized (dCl a).1) (tn tb 1).2)))) = true := h
    simp only [Bool.and_eq_true] at h
    obtain ⟨h1, h2, h3, h4, h5⟩ := h
    have h1 := ble_le h1
    have h2 := ble_le h2
    obtain ⟨q1, q2⟩ := X.cl h1 h2
    exact eo_new F X.2.2.2.1 X.2.2.2.2.1 q1 (by rw [show a - 1 + 1 = a by omega]; exact q2) (X.good h3) (X.good h4) (X.good h5) (by omega) (by omega) (dk rfl)
  | newarray t => 
    have h : (kw W (.arrayClass (newarray.typeOf t)) (tn tb 0).2 && Nat.ble (atk t) 66) = true := h
    rw [Bool.and_eq_true] at h
    have hw := X.good h.1
    have h69 := h.2
    cases t with
    | int => exact eo_newarray F X.2.2.2.1 X.2.2.2.2.1 (x := 0) rfl (by decide) rfl rfl (fun n hn => by show n * 4 ≤ _; omega) hw (dk rfl)
    | boolean => exact eo_newarray F X.2.2.2.1 X.2.2.2.2.1 (x := 1) rfl (by decide) rfl rfl (fun n hn => by show n * 1 ≤ _; omega) hw (dk rfl)
    | char => exact eo_newarray F X.2.2.2.1 X.2.2.2.2.1 (x := 2) rfl (by decide) rfl rfl (fun n hn => by show n * 2 ≤ _; omega) hw (dk rfl)
    | _ => cases h69
  | anewarray x => 
    have h : (Nat.ble 70 a && (Nat.ble a 75 && (match rtyA (a - 64) with
      | .object C => kw W (.classLink own x C) (tn tb 0).2 && kn W (.arrayOver (.object C)) (tn tb 1).1
      | .array t => kw W (.classLink own x (FieldType.array t).toString) (tn tb 0).2 && kn W (.arrayOver (.array t)) (tn tb 1).1
      | _ => false))) = true := h
    rw [Bool.and_eq_true, Bool.and_eq_true] at h
    obtain ⟨h1, h2, h3⟩ := h
    have h1 := ble_le h1
    have h2 := ble_le h2
    cases ht : rtyA (a - 64) with
    | object C =>
      rw [ht] at h3
      have h3 : (kw W (.classLink own x C) (tn tb 0).2 && kn W (.arrayOver (.object C)) (tn tb 1).1) = true := h3
      rw [Bool.and_eq_true] at h3
      exact eo_anewarray F X.2.2.2.1 X.2.2.2.2.1 (x := a - 64) (by omega) (by omega) ht (X.good h3.1) (X.face2 h3.2) (dk rfl)
    | array t =>
      rw [ht] at h3
      have h3 : (kw W (.classLink own x (FieldType.array t).toString) (tn tb 0).2 && kn W (.arrayOver (.array t)) (tn tb 1).1) = true := h3
      rw [Bool.and_eq_true] at h3
      exact eo_anewarrayA F X.2.2.2.1 X.2.2.2.2.1 (x := a - 64) (by omega) (by omega) ht (X.good h3.1) (X.face2 h3.2) (dk rfl)
    | _ => rw [ht] at h3; cases h3
  | multianewarray x d => 
    have h : (Nat.beq d 2 && (bif Nat.beq a 74 then kw W (.classLink own x "[[I") (tn tb 0).2 && (kn W (.arrayOver (.array .int)) (tn tb 1).1 && kw W (.arrayClass .int) (tn tb 1).2) else bif Nat.beq a 75 then kw W (.classLink own x "[[[I") (tn tb 0).2 && (kn W (.arrayOver (.array .int)) (tn tb 1).1 && kn W (.arrayOver (.array (.array .int))) (tn tb 1).2) else false)) = true := h
    rw [Bool.and_eq_true] at h
    have hd2 := beq_eq h.1
    subst hd2
    have h2 := h.2
    cases h7 : Nat.beq a 74 with
    | true =>
      rw [h7] at h2
      have h2 : (kw W (.classLink own x "[[I") (tn tb 0).2 && (kn W (.arrayOver (.array .int)) (tn tb 1).1 && kw W (.arrayClass .int) (tn tb 1).2)) = true := h2
      simp only [Bool.and_eq_true] at h2
      exact eo_multiI F X.2.2.2.1 X.2.2.2.2.1 (beq_eq h7) (X.good h2.1) (X.face2 h2.2.1) (X.good h2.2.2) (dk rfl)
    | false =>
      rw [h7] at h2
      have h2 : (bif Nat.beq a 75 then kw W (.classLink own x "[[[I") (tn tb 0).2 && (kn W (.arrayOver (.array .int)) (tn tb 1).1 && kn W (.arrayOver (.array (.array .int))) (tn tb 1).2) else false) = true := h2
      cases h8 : Nat.beq a 75 with
      | true =>
        rw [h8] at h2
        have h2 : (kw W (.classLink own x "[[[I") (tn tb 0).2 && (kn W (.arrayOver (.array .int)) (tn tb 1).1 && kn W (.arrayOver (.array (.array .int))) (tn tb 1).2)) = true := h2
        simp only [Bool.and_eq_true] at h2
        exact eo_multiA F X.2.2.2.1 X.2.2.2.2.1 (beq_eq h8) (X.good h2.1) (X.face2 h2.2.2) (X.face2 h2.2.1) (dk rfl)
      | false => rw [h8] at h2; cases h2
  | checkcast x => 
    have h : (bif Nat.beq a 64 then kw W (.classLink own x "[I") (tn tb 0).2 else Nat.ble 1 a && (Nat.ble a 14 && (kw W (.classLink own x (dCl a).1) (tn tb 0).2 || (kw W (.classLink own x (wcl (W (tn tb 0).2))) (tn tb 0).2 && kn W (.castable (dCl a).1 (wcl (W (tn tb 0).2))) (tn tb 1).1)))) = true := h
    cases h7 : Nat.beq a 64 with
    | true =>
      rw [h7] at h
      have e := beq_eq h7
      subst e
      exact eo_checkcastA F (nm := "[I") (F.2.2.2.2.2.2.1 0 (by decide)) (by decide) (X.good h) (dk rfl)
    | false =>
      rw [h7] at h
      have h : (Nat.ble 1 a && (Nat.ble a 14 && (kw W (.classLink own x (dCl a).1) (tn tb 0).2 || (kw W (.classLink own x (wcl (W (tn tb 0).2))) (tn tb 0).2 && kn W (.castable (dCl a).1 (wcl (W (tn tb 0).2))) (tn tb 1).1)))) = true := h
      simp only [Bool.and_eq_true, Bool.or_eq_true] at h
      obtain ⟨h1, h2, h3⟩ := h
      have h1 := ble_le h1
      have h2 := ble_le h2
      rcases h3 with h3 | h3
      · exact eo_checkcastS F (X.cl h1 h2).1 (by omega) (by omega) (X.good h3) (dk rfl)
      · exact eo_checkcastY F (X.cls h1 h2).1 h1 (X.good h3.1) (X.face h3.2) (dk rfl)
  | invokestatic x => 
    have h : (bif Nat.ble 1000 a then dNat W own R a tb x else dSta W mS PP NM own R a b tb x && dHs W M NC xn HT own mi pc hh) = true := h
    cases h7 : Nat.ble 1000 a with
    | true => rw [h7] at h; exact eo_nats X h (dk rfl)
    | false =>
      rw [h7] at h
      have h : (dSta W mS PP NM own R a b tb x && dHs W M NC xn HT own mi pc hh) = true := h
      rw [Bool.and_eq_true] at h
      exact dSta_ok X hcf h.2 h.1 (dk rfl)
  | invokevirtual x => 
    have h : (bif Nat.beq a 1005 then false else dVir W mS PP NM own R a b tb x && dHs W M NC xn HT own mi pc hh) = true := h
    cases h7 : Nat.beq a 1005 with
    | true => rw [h7] at h; cases h
    | false =>
      rw [h7] at h
      have h : (dVir W mS PP NM own R a b tb x && dHs W M NC xn HT own mi pc hh) = true := h
      rw [Bool.and_eq_true] at h
      exact dVir_ok X hcf h.2 h.1 (dk rfl)
  | invokespecial x => 
    have h : (bif Nat.beq a 1006 then dRn R && kw W (.methodLink own x Lib.objectInit) (tn tb 0).2 else dSpe W mS PP NM own R a b tb x && dHs W M NC xn HT own mi pc hh) = true := h
    cases h7 : Nat.beq a 1006 with
    | true =>
      rw [h7] at h
      have h : (dRn R && kw W (.methodLink own x Lib.objectInit) (tn tb 0).2) = true := h
      rw [Bool.and_eq_true] at h
      obtain ⟨r1, r2⟩ := dRn_ok h.1
      exact eo_objInit F X.2.1 r1 (by omega) (X.good h.2) (X.nat (by decide +kernel)) (X.nat (by decide +kernel)) (beq_eq h7) (dk rfl)
    | false =>
      rw [h7] at h
      have h : (dSpe W mS PP NM own R a b tb x && dHs W M NC xn HT own mi pc hh) = true := h
      rw [Bool.and_eq_true] at h
      exact dSpe_ok X hcf h.2 h.1 (dk rfl)
  | invokeinterface x n => 
    have h : (dIfc W mS PP NM own R a b tb x && dHs W M NC xn HT own mi pc hh) = true := h
    rw [Bool.and_eq_true] at h
    exact dIfc_ok X hcf h.2 h.1 (dk rfl)
  | nop => exact eo_nop hkb
  | tableswitch d lo hi os => 
    obtain ⟨len, g1, g2, g3, g4, g5, g6, g7, g8⟩ := hsw.1 d lo hi os rfl
    exact eo_tableswitch F g1 g2 g3 g4 g5 g6 g7 g8
  | lookupswitch d ps => 
    obtain ⟨len, g1, g2, g3, g4, g5, g6, g7⟩ := hsw.2 d ps rfl
    exact eo_lookupswitch F g1 g2 g3 g4 g5 g6 g7
  | _ => cases h
end Els

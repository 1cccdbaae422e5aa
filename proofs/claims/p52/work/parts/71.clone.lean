/-! CLONES OF INTS -/
section CloneEO
variable {p : Program} {l : Launch} {e : Env} {R : Room} {s : State} {m : MethodId} {args : Array Value} {below : List Frame} {meth : Method} {c : Code} {Q : State → Prop} {D : va_G} {tc : Nat → ClassId} {z0 : Nat → Prop} {ξ : rX} {ζ : rZ} {σ : Nat → Int32} {nL : Nat} {cf : rCF} {M : rM} {BL : Nat → Nat} {mi : Nat} {kb : rB} {k : rK}
variable {cc : ByteArray} {pc a b : Nat} {tb : List (Nat × Nat)} {own : String}
theorem eo_clone (F : rFr p s m args c cc own D tc) (hml : c.maxLocals = nL) (hRf : 1 ≤ R.frames) (hRl : 40 ≤ R.locals) (hR1 : mcel M mi ≤ R.cells) (hR2 : mslo M mi ≤ R.slots) {index : Nat}
    (hlink : (Cond.methodLink own index ⟨"[I", "clone", "()Ljava/lang/Object;"⟩).before args s = true) (hsame : (Cond.sameMethod "[I" "java/lang/Object" "clone" "()Ljava/lang/Object;").before args s = true)
    (hnat : (Cond.native ⟨"java/lang/Object", "clone", "()Ljava/lang/Object;"⟩).before args s = true) (hinst : (Cond.instanceMethod ⟨"java/lang/Object", "clone", "()Ljava/lang/Object;"⟩).before args s = true)
    (hsel : (Cond.selects "[I" ⟨"[I", "clone", "()Ljava/lang/Object;"⟩ ⟨"java/lang/Object", "clone", "()Ljava/lang/Object;"⟩).before args s = true) (hcl : va_Nw (.castable "[I" "java/lang/Cloneable") s)
    (hnm : s.vm.findClass "[I" = some (tc 0)) (ha : a = 1005) (hd : decode cc pc = .ok (.invokevirtual index, 3)) : rEO p l e R s m args below meth c Q D tc z0 ξ ζ nL cf M BL mi kb k 3 (.invokevirtual index, pc, a, b, tb) := by
  subst ha
  intro ih rest nx _ ls st h NB nc ns env hk
  have hn : oNat 1005 (mcel M mi) (mslo M mi) ih rest ls st h NB nc ns env = true := inat (Y := oCall cf 1005 b (rtb tb) mi M pc ih rest ls st h NB nc ns env) rfl rfl hk
  obtain ⟨h1, h2, h3⟩ := onat_ok hn
  have hm : oClone (mcel M mi) (mslo M mi) ih rest ls st h NB nc ns env = true := (rc_and hn).2
  obtain ⟨o, st', rfl, g1⟩ := pop1_spec hm
  obtain ⟨v1, v2, v3, g2⟩ := rcell_spec g1
  have v3 : rget h (o - 4294967296) % 65536 = 64 := v3
  obtain ⟨g3, g4⟩ := rc_and g2
  have hall := rall_spec _ _ g3
  intro σ ρ H locs LS I
  have hN := I.1.2.1.1
  obtain ⟨a1, a2, a3, h', k1, k2⟩ := o_mk hR1 hR2 g4 I.1
  obtain ⟨c1, c2⟩ := I.1.2.2.2.2.1 (o - 4294967296) (by omega)
  generalize hcg : rget h (o - 4294967296) = cl at *
  have e0 := c1.2.2.1 (by omega) (by omega)
  rw [v3] at e0
  obtain ⟨hz, e1⟩ := e0
  have hc := rcats_map (σ := σ) (ρ := ρ) h1
  simp only [List.map_cons, List.sum_cons] at hc
  show W _ _ _ _ _ _ _ _ _ _ _ _ _ _ _ (F0 m pc LS (rval ρ σ o :: st'.map (rval ρ σ)))
  rw [rval_ref v1 (by omega)]
  refine W_clone F.1 F.2.1 (by rw [hml, I.2.1.1]) F.2.2.1 hlink hsame hnat hinst hsel hcl (ty := .int) (fun n z => F.2.2.2.2.2.1 0 (by decide) _ (Or.inl rfl) rVm_arrV.2) e1 hnm (fun i v hv => ?_) hRf (by omega) a1 a2 hd ?_
  · have hi : i < rlen cl := by
      have := (Array.getElem?_eq_some_iff.mp hv).1
      rw [arrV_size] at this
      exact this
    rw [arrV_read _ _ hi] at hv
    have hI : risI (rslot cl (rsh i)) = true := hall i (Nat.zero_le _) (by omega)
    rw [← Option.some.inj hv, rval_I hI]
    rfl
  · have z1 : H.size < (H.push (arrV (tc (64 - 64)) (rlen cl) fun j => rval ρ σ (rslot cl (rsh j)))).size := by simp
    have o1 : ∀ x : Nat, x < H.size → (H.push (arrV (tc (64 - 64)) (rlen cl) fun j => rval ρ σ (rslot cl (rsh j))))[x]? = H[x]? := fun x hx => by rw [Array.getElem?_push, if_neg (Nat.ne_of_lt hx)]
    have hup : ∀ a, a + 4294967296 < NB → va_up ρ (NB - 4294967296) H.size a = ρ a := fun a ha => va_up_ne ρ H.size (by omega)
    have g := nx _ _ _ _ _ _ _ k1 (va_up ρ (NB - 4294967296) H.size) _ locs LS ⟨k2 _ z1 o1 ⟨z1, fun _ q => by omega, fun _ _ => ⟨I.1.2.2.2.1 _ (Nat.le_refl _), ?_⟩, fun q _ => by omega, fun q => by omega⟩ (fun j hj => (c2 j hj).mono (Nat.le_succ _)), I.2.1.congr hup (Nat.le_succ _), ?_, I.2.2.2.1, ?_⟩
    · rw [List.map_cons, rval_new hN a3, map_new (mem0 I.2.2.1) (by omega)] at g
      exact g
    · rw [v3, Array.getElem?_push_size]
      exact congrArg some (arrV_congr fun j hj => (rval_congr hup (c2 j hj)).symm)
    · intro x hx
      rcases List.mem_cons.mp hx with q | q
      · rw [q]; exact fun _ _ => Nat.lt_succ_self _
      · exact (I.2.2.1 x (List.mem_cons_of_mem _ q)).mono (Nat.le_succ _)
    · obtain ⟨b1, b2, b3⟩ := I.2.2.2.2
      exact ⟨Nat.le_trans b1 (Nat.le_of_lt z1), fun x x1 x2 => (o1 x (Nat.lt_of_lt_of_le x1 b1)).trans (b2 x x1 x2), b3⟩
end CloneEO

/-! SHIFTS OF CHARS -/
theorem rSh_num {x : Int32} (h1 : 0 ≤ x.toInt) (h2 : x.toInt < 65536) : ∃ n : Nat, n < 65536 ∧ x = Int32.ofNat n ∧ (n : Int) = x.toInt := by
  refine ⟨x.toInt.toNat, by omega, ?_, by omega⟩
  rw [← Int32.toInt_inj, i32_toInt (by omega), if_pos (by omega)]
  omega
theorem sb_nat {z : Int32} {m : Nat} (h : z.toInt = (m : Int)) : sb z = m + 2147483648 := by
  unfold sb
  rw [h, show ((m : Int) + 2147483648) = ((m + 2147483648 : Nat) : Int) from by simp, Int.toNat_natCast]
section ShEOs
variable {p : Program} {l : Launch} {e : Env} {R : Room} {s : State} {m : MethodId} {args : Array Value} {below : List Frame} {meth : Method} {c : Code} {Q : State → Prop} {D : va_G} {tc : Nat → ClassId} {z0 : Nat → Prop} {ξ : rX} {ζ : rZ} {σ : Nat → Int32} {nL : Nat} {cf : rCF} {M : rM} {BL : Nat → Nat} {mi : Nat} {kb : rB} {k : rK}
variable {cc : ByteArray} {pc a b : Nat} {tb : List (Nat × Nat)} {own : String}
theorem eo_iushr (F : rFr p s m args c cc own D tc) (hsh : rSh ζ.2) (hd : decode cc pc = .ok (.iushr, 1)) : rEO p l e R s m args below meth c Q D tc z0 ξ ζ nL cf M BL mi kb k 1 (.iushr, pc, a, b, tb) := by
  intro ih rest nx _ ls st h NB nc ns env hk
  have hk : oUshr ih rest ls st h NB nc ns env = true := hk
  obtain ⟨y, st1, rfl, h1⟩ := pop1_spec hk
  obtain ⟨x, st', rfl, h2⟩ := pop1_spec h1
  have bin : rbin fushr32 x y env (fun v env' => ih rest ls (v :: st') h NB nc ns env') = true → rGo (rW p l e R s m args below meth c Q) D tc z0 ξ ζ s.heap nL pc ls (y :: x :: st') h NB nc ns env := fun h4 =>
    o_bin (F := fun x y => (x.toUInt32 >>> (y.toUInt32 &&& Int32.toUInt32 31)).toInt32) (fun _ _ _ _ => ⟨i32n_lt _, i32n_of _⟩) nx h4 (fun _ _ _ _ _ _ _ _ w => lv_iushr F.1 F.2.1 hd rfl w)
  rcases rc_or h2 with ⟨-, h4⟩ | ⟨-, h4⟩
  · exact bin h4
  rcases rc_or h4 with ⟨h5, h6⟩ | ⟨-, h6⟩
  · obtain ⟨g1, g2⟩ := rc_and h5
    obtain ⟨g3, g4⟩ := rc_and g2
    obtain ⟨g5, g6⟩ := rc_and g4
    have e8 : y = 8 := beq_eq g1
    subst e8
    have j1 : 16 ≤ rsi x := ble_le g5
    have j2 : rsi x ≤ 31 := ble_le g6
    have hsx := rsym_in g3
    have hr : rsi x = x - 17179869184 := rfl
    intro σ ρ H locs LS I
    obtain ⟨s1, s2, s3⟩ := I.2.2.2.1.sh _ j1 j2
    obtain ⟨n, n1, n2, n3⟩ := rSh_num s1 s2
    show W _ _ _ _ _ _ _ _ _ _ _ _ _ _ _ (F0 m pc LS (rval ρ σ 8 :: rval ρ σ x :: st'.map (rval ρ σ)))
    rw [rval_lit (show 8 < 4294967296 by decide), rval_I (risI_sym g3), rint_sym g3]
    rcases rlow_spec h6 I.2.2.2.1 with ⟨q, env', he, r⟩ | ⟨q, env', he, r⟩
    · have g := nx _ _ _ _ _ _ _ r ρ H locs LS ⟨I.1, I.2.1, mem2 I.2.2.1 (rwf_lt (by decide)), he, I.2.2.2.2⟩
      have hsx2 : sb (σ (rsi x)) = n + 2147483648 := sb_nat n3.symm
      have q : sb (σ (rsi x)) < 2147483904 := q
      refine lv_iushr F.1 F.2.1 hd (v := Int32.ofNat 0) ?_ ?_
      · rw [n2, shr8 n1, show n / 256 = 0 by omega]
      · rw [← rval_lit (ρ := ρ) (σ := σ) (show 0 < 4294967296 by decide)]
        exact g
    · have hs32 : σ (rsi x + 32) = Int32.ofNat (n / 256) := by rw [s3, n2, shr8 n1]
      have ht32 : (σ (rsi x + 32)).toInt = ((n / 256 : Nat) : Int) := by rw [hs32, i32_toInt (by omega), if_pos (by omega)]
      have hsb : sb (σ (rsi x + 32)) = n / 256 + 2147483648 := sb_nat ht32
      have hsx2 : sb (σ (rsi x)) = n + 2147483648 := sb_nat n3.symm
      have q : 2147483904 ≤ sb (σ (rsi x)) := q
      have hsy : rsym (x + 32) = true := by
        show Nat.beq ((x + 32) / 17179869184) 1 = true
        rw [show (x + 32) / 17179869184 = 1 by omega]
        rfl
      have e2 : rsi (x + 32) = rsi x + 32 := by
        show x + 32 - 17179869184 = x - 17179869184 + 32
        omega
      have he2 := he.upd (i := rsi x + 32) (q := (2147483649, 2147483903)) (show 2147483649 ≤ sb (σ (rsi x + 32)) by rw [hsb]; omega) (show sb (σ (rsi x + 32)) ≤ 2147483903 by rw [hsb]; omega)
      have g := nx _ _ _ _ _ _ _ r ρ H locs LS ⟨I.1, I.2.1, mem2 I.2.2.1 (rwf_I (risI_sym hsy)), he2, I.2.2.2.2⟩
      refine lv_iushr F.1 F.2.1 hd (v := σ (rsi x + 32)) s3.symm ?_
      have e3 : rval ρ σ (x + 32) = .int (σ (rsi x + 32)) := by rw [rval_I (risI_sym hsy), rint_sym hsy, e2]
      rw [← e3]
      exact g
  · exact bin h6
theorem eo_abs (F : rFr p s m args c cc own D tc) (hml : c.maxLocals = nL) (hRf : 1 ≤ R.frames) (hRl : 40 ≤ R.locals) (hR1 : mcel M mi ≤ R.cells) (hR2 : mslo M mi ≤ R.slots) {index : Nat} (hf : ∀ a, a < 4294967296 → rabs2 a < 4294967296 ∧ Int32.ofNat (rabs2 a) = (fun x : Int32 => if 0 ≤ x then x else 0 - x) (Int32.ofNat a)) (hlink : (Cond.methodLink own index Lib.Math.abs.name).before args s = true) (hstat : (Cond.static Lib.Math.abs.name).before args s = true) (hini : (Cond.initialized "java/lang/Math").before args s = true) (hcode : (Cond.code Lib.Math.abs.name Lib.Math.abs.code 1 (some .int)).before args s = true)
    (ha : a = 1003) (hd : decode cc pc = .ok (.invokestatic index, 3)) : rEO p l e R s m args below meth c Q D tc z0 ξ ζ nL cf M BL mi kb k 3 (.invokestatic index, pc, a, b, tb) := by
  subst ha
  intro ih rest nx _ ls st h NB nc ns env hk
  have hn : oNat 1003 (mcel M mi) (mslo M mi) ih rest ls st h NB nc ns env = true := inat (Y := oCall cf 1003 b (rtb tb) mi M pc ih rest ls st h NB nc ns env) rfl rfl hk
  obtain ⟨h1, h2, h3⟩ := onat_ok hn
  have hm : oUn rabs2 ih rest ls st h NB nc ns env = true := (rc_and hn).2
  exact o_unX (F := fun x => if 0 ≤ x then x else 0 - x) hf nx h1 hm fun H locs LS st x g1 g2 w => va_mabs F.1 F.2.1 (by rw [hml, g1]) F.2.2.1 hlink hstat hini hcode hRf (by omega) (Nat.le_trans h2 hR1) (Nat.le_trans h3 hR2) hd w
end ShEOs

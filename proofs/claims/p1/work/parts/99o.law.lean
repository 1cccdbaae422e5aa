/-! THE LAW'S WALK, ITS CONTRACT, THE CLAIM -/
section LawWalk
theorem hp28 : rHp rL28 28 = true := by decide +kernel
theorem rh2_all : (List.range 10).all (fun L => rtwB (rh2 L) 0 1024 && (st_ck (hScr L) 1088 ((List.range L).map (fun j => 17179869184 + j)) && (List.range 1024).all (fun a => Nat.beq (rget (rh2 L) a) (rc (Nat.beq a 41) (hScr L) (rget rh1 a))))) = true := by decide +kernel
theorem rh1_41 : rget rh1 41 = 0 := by decide +kernel
/-- a cell that was there before comes to the tree -/
theorem rHR.add {D : va_G} {tc : Nat → ClassId} {z0 : Nat} {ξ : rX} {ρ : Nat → Nat} {σ : Nat → Int32} {h h' : rH} {NB : Nat} {H : Heap} (hh : rHR D tc z0 ξ ρ σ h NB H) (hw : rtw h' 0 1024) {i v : Nat} (hi : i + 4294967296 < NB) (hs : ∀ a, a < 1024 → rget h' a = if a = i then v else rget h a)
    (hv : 1088 ≤ v % 65536) (hc : rCR D tc z0 ρ σ v (ρ i) H) (hwf : ∀ j, j < rlen v → rwf NB (rslot v (rsh j))) : rHR D tc z0 ξ ρ σ h' NB H := by
  obtain ⟨a1, a2, a3, a4, a5, a6⟩ := hh
  refine ⟨hw, a2, a3, a4, fun a ha => ?_, fun a b ha hb ka kb e => ?_⟩
  · rw [hs a (by omega)]
    by_cases e : a = i
    · rw [if_pos e, e]; exact ⟨hc, hwf⟩
    · rw [if_neg e]; exact a5 a ha
  · rw [hs a (by omega)] at ka
    rw [hs b (by omega)] at kb
    have ea : a ≠ i := fun q => by rw [if_pos q] at ka; omega
    rw [if_neg ea] at ka
    by_cases eb : b = i
    · exfalso
      have h1 := (hc.2.2.2.2 hv).1
      have h2 : z0 ≤ ρ a := by
        obtain ⟨c0, c1, c2, -⟩ := (a5 a ha).1
        rcases Nat.lt_or_ge (rget h a % 65536) 64 with g | g
        · exact (c1 (by omega) g).1
        · exact (c2 g ka.2).1
      rw [e, eb] at h2
      omega
    · rw [if_neg eb] at kb
      exact a6 a b ha hb ka kb e
theorem run_short (L : Nat) (h : L ≤ 8) : rrun rCfP rMt rBL 338 (rkb2 rCfP) rk1 100000 rL28 rl1 [] (rh2 L) (nat_lit 4294967566) (nat_lit 213) (nat_lit 20301) rE0 = true := by
  obtain rfl | rfl | rfl | rfl | rfl | rfl | rfl | rfl | rfl : L = 0 ∨ L = 1 ∨ L = 2 ∨ L = 3 ∨ L = 4 ∨ L = 5 ∨ L = 6 ∨ L = 7 ∨ L = 8 := by omega
  · exact run_short0
  · exact run_short1
  · exact run_short2
  · exact run_short3
  · exact run_short4
  · exact run_short5
  · exact run_short6
  · exact run_short7
  · exact run_short8
def R_law : String := "OrbithouseLaw"
def lw_P (b : Addr) (xs : List Int32) (args : Array Value) (s : State) : Prop := args = #[.ref b] ∧ s.IntsAt b xs ∧ xs.length ≤ 9 ∧ (Jvm.Cond.and given_1 narrow_1).before args s = true
/-- what holds at the law's entry -/
def lw_At (p : Program) (s : State) (m : MethodId) (meth : Method) (c : Code) (b L : Nat) (xs : Nat → Int32) : Prop :=
  p.tables.exec = Jvm.exec ∧ c.code = code ∧ meth.sig.returnType = ret ∧ c.maxLocals = 10 ∧ s.vm.findClass R_law = some m.cls ∧ (∀ w ∈ lw_tbl, w.before #[Value.ref b] s = true) ∧ va_X b L xs s s.heap ∧ b < s.heap.size ∧ meth.locks = false ∧ (Jvm.Cond.and given_1 narrow_1).before #[Value.ref b] s = true ∧ meth.name = "law" ∧ c.exceptionTable.toList = []
theorem whole_start {p : Program} {e : Env} {s : State} {m : MethodId} {below : List Frame} {meth : Method} {c : Code} (l : Launch) (hflags : l.flags = flags0) {b L : Nat} {xs : Nat → Int32} (hL : L ≤ 9) (C0 : lw_At p s m meth c b L xs) : W p l e room_1 s m #[Value.ref b] below meth c s.heap [] 0 0 (lw_Z below #[Value.ref b] s) (entryFrame m ([Value.ref b] : List Value).toArray 10) := by
  obtain ⟨hx, hb, hr, hml, hcl, hts, hX, hbl, hlk, hgv, hnm, htab⟩ := C0
  have hl : l.stackTraces = false := by
    unfold Launch.stackTraces
    rw [hflags]
    decide +kernel
  obtain ⟨D, tc, ξ0, hCx, hHR, h41, scr, s1, s2, s3, s4, s5⟩ := st_world hts hgv hX
  have hy := st_Sy xs
  have hsh := st_Sh xs
  have hE0 := st_EN xs
  generalize hσ : st_sg xs = σ at hHR hy hsh hE0
  have hcl : s.vm.findClass "OrbithouseLaw" = some m.cls := hcl
  -- from the loop's head, the calls by cf
  have at28 : ∀ {cf : rCF} {L : Nat} {env : rE}, rCG l D tc s.heap.size ξ0 σ cf → rrun cf rMt rBL 338 (rkb2 cf) rk1 100000 rL28 rl1 [] (rh2 L) (nat_lit 4294967566) (nat_lit 213) (nat_lit 20301) env = true →
      rGo (rW p l e room_1 s m #[Value.ref b] below meth c (lw_Z below #[Value.ref b] s)) D tc s.heap.size (4294967360, ξ0) σ s.heap 10 28 rl1 [] (rh2 L) (nat_lit 4294967566) (nat_lit 213) (nat_lit 20301) env := by
    intro cf L env hcf run
    refine lf_run hx hb hr hlk hml hcl hnm htab hts hCx hy hsh hcf (kb := rkb2 cf) (fun pc ls st h NB nc ns env hk => ?_) (rLt_suf 338 28) (rHp_ok hp28) run
    obtain ⟨e1, e2⟩ := rc_and hk
    rw [show pc = 28 from beq_eq e1]
    exact lf_run hx hb hr hlk hml hcl hnm htab hts hCx hy hsh hcf (kb := rkF) (fun _ _ _ _ _ _ _ _ q => by cases q) (rLt_suf 338 28) (rHp_ok hp28) e2
  -- from the loop's head as the constructors leave it
  have head : rGo (rW p l e room_1 s m #[Value.ref b] below meth c (lw_Z below #[Value.ref b] s)) D tc s.heap.size (4294967360, ξ0) σ s.heap 10 28 rl1 [] rh1 (nat_lit 4294967566) (nat_lit 213) (nat_lit 20301) rE0 := by
    intro ρ H locs LS I
    obtain ⟨i1, i2, i3, i4, i5⟩ := I
    have hck := List.all_eq_true.mp rh2_all L (List.mem_range.mpr (by omega))
    rw [Bool.and_eq_true, Bool.and_eq_true] at hck
    obtain ⟨k1, k2, k3⟩ := hck
    obtain ⟨j1, j2, j3⟩ := st_ck_ok k2
    rw [List.length_map, List.length_range] at j2 j3
    have hρ : ρ 41 = b := (i1.2.1.2.1 41 (by decide)).trans h41
    have hscr : H[b]? = some scr := (i5.2.1 b hbl (by omega)).trans s1
    have hslot : ∀ j, j < L → rslot (hScr L) (rsh j) = 17179869184 + j := fun j hj => by
      rw [j3 j hj, List.getD_eq_getElem?_getD, List.getElem?_map, List.getElem?_range hj]
      rfl
    have hHR2 : rHR D tc s.heap.size (4294967360, ξ0) ρ σ (rh2 L) (nat_lit 4294967566) H := by
      refine i1.add (rtwB_ok _ _ _ k1) (i := 41) (v := hScr L) (by decide) (fun a ha => ?_) (by rw [j1]; decide) ?_ fun j hj => ?_
      · have h := beq_eq (List.all_eq_true.mp k3 a (List.mem_range.mpr ha))
        rw [h]
        by_cases q : a = 41
        · rw [if_pos q, q]; rfl
        · rw [if_neg q]
          have hb : Nat.beq a 41 = false := by
            cases hb : Nat.beq a 41 with
            | false => rfl
            | true => exact absurd (beq_eq hb) q
          rw [hb]
      · rw [hρ]
        refine ⟨(Array.getElem?_eq_some_iff.mp hscr).1, fun _ w => by omega, fun _ w => by omega, fun _ w => by omega, fun _ => ⟨hbl, by omega, scr, hscr, ?_, s3, Nat.le_of_eq (j2.trans s4.symm), (congrArg Nat.toInt32 (s4.trans j2.symm)).trans rfl, fun j hj => ?_⟩⟩
        · rw [j1]; exact s2
        · rw [j2] at hj
          rw [hslot j hj, s5 j hj]
          have e1 : rval ρ σ (17179869184 + j) = .int (σ j) := by
            have hs : rsym (17179869184 + j) = true := by
              show Nat.beq ((17179869184 + j) / 17179869184) 1 = true
              rw [show (17179869184 + j) / 17179869184 = 1 by omega]
              rfl
            rw [rval_I (risI_sym hs), rint_sym hs, show rsi (17179869184 + j) = j from by show 17179869184 + j - 17179869184 = j; omega]
          rw [e1, ← hσ, show st_sg xs j = xs j from if_pos (by omega)]
      · rw [j2] at hj
        rw [hslot j hj]
        exact rwf_ge (by omega)
    have go : ∀ {cf : rCF} {env : rE}, rCG l D tc s.heap.size ξ0 σ cf → rrun cf rMt rBL 338 (rkb2 cf) rk1 100000 rL28 rl1 [] (rh2 L) (nat_lit 4294967566) (nat_lit 213) (nat_lit 20301) env = true → rHR D tc s.heap.size (4294967360, ξ0) ρ σ (rh2 L) (nat_lit 4294967566) H → rEN σ env →
        rW p l e room_1 s m #[Value.ref b] below meth c (lw_Z below #[Value.ref b] s) H locs (nat_lit 213) (nat_lit 20301) 28 LS (List.map (rval ρ σ) []) := fun hcf run hHR2 hen => at28 hcf run ρ H locs LS ⟨hHR2, i2, i3, hen, i5⟩
    rcases Nat.lt_or_ge L 9 with g | g
    · exact go (rCGP hl hy hsh) (run_short L (by omega)) hHR2 i4
    have e9 : L = 9 := by omega
    subst e9
    obtain ⟨c, hc, hen⟩ := st_ENc xs
    rw [hσ] at hen
    exact lw_cases hl hy hsh go hHR2 hE0 c hc hen
  -- the entry
  have hrun := lf_run hx hb hr hlk hml hcl hnm htab hts hCx hy hsh (rCGP hl hy hsh) (NB0 := 4294967360) (kb := rAt 28 rl1 [] rh1 (nat_lit 4294967566) (nat_lit 213) (nat_lit 20301) rE0) (fun pc ls st h NB nc ns env hk => by
    obtain ⟨h1, h2, h3, h4, h5, h6, h7, h8⟩ := rAt_ok hk
    subst h1 h2 h3 h4 h5 h6 h7 h8
    exact head) (List.suffix_refl _) (rwalk_dec lf_walk).2.2 run_ctor
  have hcat : ∀ x ∈ [4294967337], x < 18446744073709551616 := fun x hx => by rw [List.mem_singleton.mp hx]; decide
  have hlen := lg_sl_cat1 (ρ := ξ0) (σ := σ) [4294967337] hcat
  have hE2 := lv_entry ([4294967337].map (rval ξ0 σ)) (n := 10) (by rw [hlen]; decide)
  have earg : [4294967337].map (rval ξ0 σ) = [Value.ref b] := by
    show [rval ξ0 σ 4294967337] = _
    rw [rval_ref (by decide) (by decide)]
    show [Value.ref (ξ0 41)] = _
    rw [h41]
  have g := hrun ξ0 s.heap [] ((lg_sl ([4294967337].map (rval ξ0 σ)) ++ List.replicate (10 - (lg_sl ([4294967337].map (rval ξ0 σ))).length) Slot.unset).toArray)
    ⟨hHR, rLR.of hE2 fun i hi => ?_, fun x hx => (by cases hx), hE0, Nat.le_refl _, fun _ _ _ => rfl, fun z hz => (by cases hz)⟩
  · have e3 : entryFrame m ([Value.ref b] : List Value).toArray 10 = F0 m 0 ((lg_sl ([4294967337].map (rval ξ0 σ)) ++ List.replicate (10 - (lg_sl ([4294967337].map (rval ξ0 σ))).length) Slot.unset).toArray) [] := by
      rw [← earg, lg_entry_eq]
    rw [e3]
    rw [List.map_nil] at g
    exact g
  · obtain ⟨q1, q2⟩ := lv_args_cat1 (ρ := ξ0) (σ := σ) [4294967337] 0 i hcat hi
    rw [Nat.zero_add] at q1
    refine ⟨q1, ?_⟩
    rw [List.mem_singleton.mp q2]
    exact fun _ _ => (show 4294967337 < 4294967360 by decide)
end LawWalk

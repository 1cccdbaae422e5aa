/-! THE LAW'S OWN FRAME -/
/-- the streams of draws stand at the entry's -/
theorem lw_closed {s t : State} {o : Outcome} {d0 : Drawn} {L : List Loc} {k n : Nat} (hd0 : s.drawn.sameBut d0 lw_cs) (hv : ∃ v, o = .returned v) (hW : (s.setDrawn d0).WarmedH t.vm) (hs : (s.setDrawn d0).sameButNew ({ t with vm := s.vm } : State) L k n) : State.butDraws s t lw_cs (fun t1 => Framed s o t1 L k n) := by
  have h2 : t.drawn = d0 := congrArg State.drawn hs.1
  refine ⟨⟨hv, hW, State.sameButNew.setDrawn hs s.drawn⟩, ?_, by decide⟩
  rw [h2]
  exact hd0
def lw_Q (_ : Array Value) (s : State) (o : Outcome) (t : State) : Prop := o = .returned (some (.int 1)) ∧ State.butDraws s t lw_cs (fun t1 => Framed s o t1 [] 600006 7302064)
def lw_Z (below : List Frame) (a : Array Value) (s : State) : State → Prop := fun t => ∃ o, t.status = .running ∧ Ended t below o ∧ lw_Q a s o t
theorem lw_ret {p : Program} {l : Launch} {e : Env} {s : State} {m : MethodId} {below : List Frame} {meth : Method} {c : Code} {b : Nat} {d0 : Drawn} (hd0 : s.drawn.sameBut d0 lw_cs) (hx : p.tables.exec = Jvm.exec) (hb : c.code = code) (hr : meth.sig.returnType = ret) (hlocks : meth.locks = false) {pc : Nat} {H : Heap} {ls : Array Slot} (hdg : decode code pc = .ok (.ireturn, 1)) : W p l e room_1 (s.setDrawn d0) m #[Value.ref b] below meth c H [] 600006 7302064 (lw_Z below #[Value.ref b] s) (F0 m pc ls [.int 1]) := by
  intro T hT X
  obtain ⟨fs, hret, hrun, hended, hW, hframe⟩ := X.leave (v := some (.int 1)) (hlocks := hlocks) (fun h => by rw [hr] at h; cases h)
  have hmeth' : T.vm.method? m = some meth := X.method'
  refine ⟨T.setFrames fs, ?_, .returned (some (.int 1)), hrun, hended, rfl, lw_closed hd0 ⟨_, rfl⟩ hW hframe⟩
  jvm_step X.here [X.here.top, hx, hb, hdg, hmeth', hr, ret, narrow_b1]
  (try refine ⟨rfl, ?_⟩); (try refine ⟨rfl, ?_⟩)
  first | (intro acts; rw [hret _ acts rfl rfl rfl]) | rw [hret _ _ rfl rfl rfl]
  exact Steps.refl _
section Law
set_option maxRecDepth 100000 in
theorem lf_walk : rwalk rPb (mcode rMt 338) 0 code.data.toList = true := by decide +kernel
set_option maxRecDepth 100000 in
theorem lf_swi : (mcode rMt 338).all (rSwB code) = true := by decide +kernel
def lfR (el : rEl) : Bool := match el.1 with
  | .ireturn => true
  | _ => false
noncomputable def lfE (el : rEl) : Bool := rdead el || (rdA wW mSt rPP rKT rMt rNM rSS rSR rSI rNC rxn rHT "OrbithouseLaw" room_1 338 el.2.1 el.2.2.1 el.2.2.2.1 el.2.2.2.2 "law" [] el.1 || lfR el)
set_option maxRecDepth 100000 in
theorem lf_el : (mcode rMt 338).all lfE = true := by decide +kernel
theorem lf_n : mloc rMt 338 = 10 ∧ mcel rMt 338 = 600006 ∧ mslo rMt 338 = 7302064 := ⟨rfl, rfl, rfl⟩
variable {p : Program} {l : Launch} {e : Env} {s : State} {m : MethodId} {below : List Frame} {meth : Method} {c : Code} {b : Nat} {D : va_G} {tc : Nat → ClassId} {ξ0 : Nat → Nat} {σ : Nat → Int32} {cf : rCF} {kb : rB} {NB0 : Nat}
/-- the law's end -/
theorem lf_ret (hx : p.tables.exec = Jvm.exec) (hb : c.code = code) (hr : meth.sig.returnType = ret) (hlk : meth.locks = false) {pc a bb : Nat} {tb : List (Nat × Nat)} (hd : decode code pc = .ok (.ireturn, 1)) :
    rEO p l e room_1 s m #[Value.ref b] below meth c (lw_Z below #[Value.ref b] s) D tc s.heap.size (NB0, ξ0) σ 10 cf rMt rBL 338 kb rk1 1 (.ireturn, pc, a, bb, tb) := by
  intro ih rest _ _ ls st h NB nc ns env hk
  obtain ⟨h1, h2⟩ := rc_and (show rc (Nat.ble nc (mcel rMt 338)) (rc (Nat.ble ns (mslo rMt 338)) (rret (rty a) rk1 st h NB env) false) false = true from hk)
  obtain ⟨h3, h4⟩ := rc_and h2
  obtain ⟨v, rfl, -, h6⟩ := rret_spec h4
  have hv : v = 1 := beq_eq (show Nat.beq v 1 = true from h6)
  subst hv
  intro ρ H locs LS I
  show Jvm.Pilot.@@N@@.W p l e room_1 s m #[Value.ref b] below meth c H locs nc ns (lw_Z below #[Value.ref b] s) (F0 m pc LS [rval ρ σ 1])
  rw [rval_lit (by decide)]
  exact va_forget (fun q hq => I.2.2.2.2.2.2 q hq) (W.widen (ble_le h1) (ble_le h3) (W.base (lw_ret (Drawn.sameBut.refl s.drawn lw_cs) hx hb hr hlk hd)))
theorem lf_ok (hx : p.tables.exec = Jvm.exec) (hb : c.code = code) (hr : meth.sig.returnType = ret) (hlk : meth.locks = false) (hml : c.maxLocals = 10) (hcl : s.vm.findClass "OrbithouseLaw" = some m.cls) (hnm : meth.name = "law") (htab : c.exceptionTable.toList = [])
    (hts : ∀ w ∈ lw_tbl, w.before #[Value.ref b] s = true) (hCx : rCX D tc s.heap.size ξ0 s) (hy : rSy σ) (hsh : rSh σ) (hcf : rCG l D tc s.heap.size ξ0 σ cf)
    (hkb : ∀ pc ls st h NB nc ns env, kb pc ls st h NB nc ns env = true → rGo (rW p l e room_1 s m #[Value.ref b] below meth c (lw_Z below #[Value.ref b] s)) D tc s.heap.size (NB0, ξ0) σ s.heap 10 pc ls st h NB nc ns env) :
    ∀ el ∈ mcode rMt 338, rEO p l e room_1 s m #[Value.ref b] below meth c (lw_Z below #[Value.ref b] s) D tc s.heap.size (NB0, ξ0) σ 10 cf rMt rBL 338 kb rk1 (rilen el) el := by
  obtain ⟨hdc, -, -⟩ := rwalk_dec lf_walk
  have hF : rFr p s m #[Value.ref b] c code "OrbithouseLaw" D tc := ⟨hx, hb, hcl, fun w hw => hts w (List.mem_filter.mp hw).1, hCx.1, hCx.2.1, hCx.2.2.1, hCx.2.2.2.1⟩
  have X : rFX p room_1 s m #[Value.ref b] c code "OrbithouseLaw" D tc s.heap.size (NB0, ξ0) σ 10 rMt rBL 338 wW mSt rPP rKT rNM rSS rSR rSI rNC rxn ξ0 [] :=
    ⟨hF, hml, lf_n.1, Nat.le_of_eq lf_n.2.1, Nat.le_of_eq lf_n.2.2, hCx, fun _ _ => rfl, hy, hsh, htab, rTB⟩
  intro el hm
  obtain ⟨i, pc, a, bb, tb⟩ := el
  have h := List.all_eq_true.mp lf_el _ hm
  unfold lfE at h
  cases hdd : rdead (i, pc, a, bb, tb) with
  | true => exact eo_dead hdd
  | false =>
    rw [hdd, Bool.false_or, Bool.or_eq_true] at h
    rcases h with h | h
    · exact rdA_ok X hcf hkb hnm (hdc _ hm) (rSwB_ok (List.all_eq_true.mp lf_swi _ hm)) h
    · have hi : i = .ireturn := by
        have h : lfR (i, pc, a, bb, tb) = true := h
        unfold lfR at h
        split at h
        · assumption
        · cases h
      subst hi
      refine lf_ret hx hb hr hlk ?_
      rcases hdc _ hm with q | q | q
      · rw [hdd] at q; cases q
      · cases q
      · exact q.1
/-- a run in the law's frame -/
theorem lf_run (hx : p.tables.exec = Jvm.exec) (hb : c.code = code) (hr : meth.sig.returnType = ret) (hlk : meth.locks = false) (hml : c.maxLocals = 10) (hcl : s.vm.findClass "OrbithouseLaw" = some m.cls) (hnm : meth.name = "law") (htab : c.exceptionTable.toList = [])
    (hts : ∀ w ∈ lw_tbl, w.before #[Value.ref b] s = true) (hCx : rCX D tc s.heap.size ξ0 s) (hy : rSy σ) (hsh : rSh σ) (hcf : rCG l D tc s.heap.size ξ0 σ cf)
    (hkb : ∀ pc ls st h NB nc ns env, kb pc ls st h NB nc ns env = true → rGo (rW p l e room_1 s m #[Value.ref b] below meth c (lw_Z below #[Value.ref b] s)) D tc s.heap.size (NB0, ξ0) σ s.heap 10 pc ls st h NB nc ns env)
    {n pc : Nat} {L : rCode} (hL : L <:+ mcode rMt 338) (hpc : ∀ el t, L = el :: t → el.2.1 = pc) {ls st : List Nat} {h : rH} {NB nc ns : Nat} {env : rE} (hk : rrun cf rMt rBL 338 kb rk1 n L ls st h NB nc ns env = true) :
    rGo (rW p l e room_1 s m #[Value.ref b] below meth c (lw_Z below #[Value.ref b] s)) D tc s.heap.size (NB0, ξ0) σ s.heap 10 pc ls st h NB nc ns env :=
  rrun_sound (lf_ok hx hb hr hlk hml hcl hnm htab hts hCx hy hsh hcf hkb) (rwalk_dec lf_walk).2.1 n L pc hL hpc ls st h NB nc ns env hk
end Law

/-! WORDS BY PLACES -/
noncomputable def wget (t : Lean.RArray Cond) (i : Nat) : Cond := Lean.RArray.rec (motive := fun _ => Cond) (fun x => x) (fun p _ _ l r => rc (Nat.ble p i) r l) t
def wlst : Lean.RArray Cond → List Cond
  | .leaf x => [x]
  | .branch _ l r => wlst l ++ wlst r
theorem wget_mem : ∀ (t : Lean.RArray Cond) (i : Nat), wget t i ∈ wlst t := by
  intro t i
  induction t with
  | leaf x => exact List.mem_cons_self
  | branch p l r il ir =>
    have e : wget (.branch p l r) i = rc (Nat.ble p i) (wget r i) (wget l i) := rfl
    rw [e]
    cases Nat.ble p i with
    | true => exact List.mem_append_right _ ir
    | false => exact List.mem_append_left _ il
def wpick : List Nat → List Cond → List Cond
  | [], _ => []
  | g :: gs, l => match List.drop g l with
    | [] => []
    | x :: t => x :: wpick gs t
theorem wpick_mem : ∀ (gs : List Nat) (l : List Cond), ∀ w ∈ wpick gs l, w ∈ l := by
  intro gs
  induction gs with
  | nil => intro l w h; cases h
  | cons g gs ih =>
    intro l w h
    unfold wpick at h
    cases hd : List.drop g l with
    | nil => rw [hd] at h; cases h
    | cons x t =>
      rw [hd] at h
      have hs : ∀ y ∈ x :: t, y ∈ l := fun y hy => by rw [← hd] at hy; exact List.mem_of_mem_drop hy
      rcases List.mem_cons.mp h with e | e
      · rw [e]; exact hs x List.mem_cons_self
      · exact hs w (List.mem_cons_of_mem _ (ih t w e))
/-- words that aren't good but are kept by warming -/
def rnOk (w : Cond) : Bool := match w with
  | .methodLinkNest .. => true
  | .fieldLinkNest .. => true
  | .arrayOver _ => true
  | w => w.faceAtom && w.onTables
theorem rn_over {ty : FieldType} {s U : State} (hA : s.vm.Alike U.vm) (h : (Cond.arrayOver ty).before #[] s = true) : (Cond.arrayOver ty).before #[] U = true := by
  have h1 : (Cond.arrayOver ty).before #[] (s.setVm U.vm) = true := by rw [Cond.arrayOver_setVmC hA]; exact h
  exact h1
theorem rn_warm {w : Cond} {s U : State} (hk : rnOk w = true) (hW : s.WarmedH U.vm) (h : va_Nw w s) : va_Nw w U := by
  unfold rnOk at hk
  split at hk
  · exact va_Nw.warmM hW h
  · exact va_Nw.warmF hW h
  · exact rn_over hW.alike h
  · rw [Bool.and_eq_true] at hk
    exact va_tabs hk.2 (rfl : (s.setVm U.vm).vm = U.vm) (Cond.faceAtom_setVm hW.alike _ hk.1 h)
theorem rn_use {w : Cond} {args : Array Value} {s : State} (hk : rnOk w = true) (h : va_Nw w s) : w.before args s = true := by
  unfold rnOk at hk
  split at hk
  · exact va_Nw.use rfl h
  · exact va_Nw.use rfl h
  · exact h
  · rw [Bool.and_eq_true] at hk; exact va_Nw.use hk.2 h
def rnT : List Cond := lw_tbl.filter rnOk
/-- a good word at a place; a word that is kept -/
noncomputable def kw (W : Nat → Cond) (w : Cond) (p : Nat) : Bool := decide (W p = w) && goodWord w
noncomputable def kn (W : Nat → Cond) (w : Cond) (p : Nat) : Bool := decide (W p = w) && rnOk w
theorem kw_ok {W : Nat → Cond} (hW : ∀ i, W i ∈ lw_tbl) {w : Cond} {p : Nat} (h : kw W w p = true) : w ∈ gT := by
  unfold kw at h
  rw [Bool.and_eq_true, decide_eq_true_eq] at h
  rw [← h.1]
  exact gT_in (hW p) (by rw [h.1]; exact h.2)
theorem kn_ok {W : Nat → Cond} (hW : ∀ i, W i ∈ lw_tbl) {w : Cond} {p : Nat} (h : kn W w p = true) : w ∈ rnT := by
  unfold kn at h
  rw [Bool.and_eq_true, decide_eq_true_eq] at h
  rw [← h.1]
  exact List.mem_filter.mpr ⟨hW p, by rw [h.1]; exact h.2⟩
theorem gT_self {ws : List Cond} (h : ∀ w ∈ ws, w ∈ gT) : GoodIn gT ws := gT_sub (fun _ h => h) h
/-- the k-th pair of an element's list -/
def tn (tb : List (Nat × Nat)) (k : Nat) : Nat × Nat := (tb[k]?).getD (0, 0)
/-! WHAT AN ELEMENT'S BYTES SAY -/
def rdead (el : rEl) : Bool := match el.1 with
  | .athrow => true
  | .getfield _ => Nat.beq el.2.2.1 0
  | .ldc _ => Nat.beq el.2.2.1 9
  | .invokeinterface _ _ => Nat.beq el.2.2.1 0
  | _ => false
def rfree (i : Instr) : Bool := match i with
  | .nop => true
  | .tableswitch _ _ _ _ => true
  | .lookupswitch _ _ => true
  | _ => false
/-- the instructions behind the new of a throw -/
def rthr (el : rEl) (ik : Nat) : List Nat := [187, ik / 256, ik % 256, 89, 183, (tn el.2.2.2.2 0).1 / 256, (tn el.2.2.2.2 0).1 % 256, 191]
def rPb (el : rEl) (L : List UInt8) : Bool := rdead el || (rfree el.1 || ((match renc el.1 with
  | some w => Nat.beq w.length (rilen el) && rpre w L
  | none => false) && (match el.1 with
  | .new ik => (if Nat.beq el.2.2.1 0 then rpre (rthr el ik) L else true)
  | _ => true)))
/-- an element's decode row, and those behind the new of a throw -/
def rDec (cc : ByteArray) (el : rEl) : Prop := rdead el = true ∨ rfree el.1 = true ∨ (decode cc el.2.1 = .ok (el.1, rilen el) ∧
  ∀ ik, el.1 = .new ik → el.2.2.1 = 0 → decode cc (el.2.1 + 3) = .ok (.dup, 1) ∧ decode cc (el.2.1 + 4) = .ok (.invokespecial (tn el.2.2.2.2 0).1, 3) ∧ decode cc (el.2.1 + 7) = .ok (.athrow, 1))
theorem rPb_ok {cc : ByteArray} {el : rEl} {L : List UInt8} (hL : byFrom cc el.2.1 L) (h : rPb el L = true) : rDec cc el := by
  unfold rPb at h
  rw [Bool.or_eq_true, Bool.or_eq_true, Bool.and_eq_true] at h
  rcases h with h | h | ⟨h1, h2⟩
  · exact Or.inl h
  · exact Or.inr (Or.inl h)
  · refine Or.inr (Or.inr ⟨?_, fun ik hi ha => ?_⟩)
    · cases hw : renc el.1 with
      | none => rw [hw] at h1; cases h1
      | some w =>
        rw [hw] at h1
        have h1 : (Nat.beq w.length (rilen el) && rpre w L) = true := h1
        rw [Bool.and_eq_true] at h1
        have e := beq_eq h1.1
        rw [← e]
        exact renc_ok (rpre_ok w L _ hL h1.2) hw
    · rw [hi, ha] at h2
      have h2 : rpre (rthr el ik) L = true := h2
      have hb := rpre_ok _ L _ hL h2
      refine ⟨by_dup (hb 3 _ rfl), by_invokespecial (hb 4 _ rfl) ?_ ?_, by_athrow (hb 7 _ rfl)⟩
      · have := hb 5 _ rfl
        rw [show el.2.1 + 5 = el.2.1 + 4 + 1 by omega] at this
        exact this
      · have := hb 6 _ rfl
        rw [show el.2.1 + 6 = el.2.1 + 4 + 2 by omega] at this
        exact this
/-- a whole method: every element's decode row, the chain, the entry -/
theorem rwalk_dec {cc : ByteArray} {code : rCode} (h : rwalk rPb code 0 cc.data.toList = true) : (∀ el ∈ code, rDec cc el) ∧ rchain code ∧ ∀ el t, code = el :: t → el.2.1 = 0 := by
  obtain ⟨h1, h2, h3⟩ := rwalk_ok code 0 cc.data.toList rfl h
  exact ⟨fun el hel => by obtain ⟨L', g1, g2⟩ := h1 el hel; exact rPb_ok g1 g2, h2, h3⟩

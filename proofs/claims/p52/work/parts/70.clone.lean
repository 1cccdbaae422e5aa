/-! CLONES -/
theorem f_abs {a : Nat} (h : a < 4294967296) : rabs2 a < 4294967296 ∧ Int32.ofNat (rabs2 a) = (fun x : Int32 => if 0 ≤ x then x else 0 - x) (Int32.ofNat a) := by
  refine ⟨lt_of_r32 _, ?_⟩
  have ht := i32_toInt h
  cases hn : rneg a with
  | true =>
    have h1 : 2147483648 ≤ a := ble_le hn
    have e : rabs2 a = rmin a := by
      unfold rabs2 rabs
      rw [hn]
      rfl
    have hneg : ¬ (0 : Int32) ≤ Int32.ofNat a := by
      rw [Int32.le_iff_toInt_le, ht, if_neg (by omega), show (0 : Int32).toInt = 0 from rfl]
      omega
    show _ = if 0 ≤ Int32.ofNat a then Int32.ofNat a else 0 - Int32.ofNat a
    rw [e, f_min h, if_neg hneg, Int32.zero_sub]
  | false =>
    have h1 : a < 2147483648 := ble_nle hn
    have e : rabs2 a = r32 a := by
      unfold rabs2 rabs
      rw [hn]
    have hpos : (0 : Int32) ≤ Int32.ofNat a := by
      rw [Int32.le_iff_toInt_le, ht, if_pos h1, show (0 : Int32).toInt = 0 from rfl]
      omega
    show _ = if 0 ≤ Int32.ofNat a then Int32.ofNat a else 0 - Int32.ofNat a
    rw [e, of_r32, if_pos hpos]
section CloneRow
variable {p : Program} {l : Launch} {e : Env} {R : Room} {s : State} {m : MethodId} {args : Array Value} {below : List Frame} {meth : Method} {c : Code} {H : Heap} {locs : List Loc} {cells slots : Nat} {Q : State → Prop} {cc : ByteArray} {pc : Nat} {ls : Array Slot} {rest : List Value} {a : Nat}
theorem W_clone (hexec : p.tables.exec = Jvm.exec) (hb : c.code = cc) (hml : c.maxLocals = ls.size) {own ad : String} {index : Nat} (hown : s.vm.findClass own = some m.cls)
    (hlink : (Cond.methodLink own index ⟨ad, "clone", "()Ljava/lang/Object;"⟩).before args s = true) (hsame : (Cond.sameMethod ad "java/lang/Object" "clone" "()Ljava/lang/Object;").before args s = true)
    (hnat : (Cond.native ⟨"java/lang/Object", "clone", "()Ljava/lang/Object;"⟩).before args s = true) (hinst : (Cond.instanceMethod ⟨"java/lang/Object", "clone", "()Ljava/lang/Object;"⟩).before args s = true)
    (hsel : (Cond.selects ad ⟨ad, "clone", "()Ljava/lang/Object;"⟩ ⟨"java/lang/Object", "clone", "()Ljava/lang/Object;"⟩).before args s = true) (hcl : va_Nw (.castable ad "java/lang/Cloneable") s)
    {cA : ClassId} {N : Nat} {f : Nat → Value} {ty : FieldType} (harr : ArrOfT s cA ty) (hcell : H[a]? = some (arrV cA N f)) (hnm : s.vm.findClass ad = some cA) (hfit : ∀ (i : Nat) (v : Value), (arrV cA N f).slots[i]? = some v → fits ty v = true)
    (hframes : 1 ≤ R.frames) (hlocals : (rest.map fun v => v.category).sum + 14 ≤ R.locals) (hcells : cells + 1 ≤ R.cells) (hslots : slots + N ≤ R.slots) (hdg : decode cc pc = .ok (.invokevirtual index, 3))
    (kk : W p l e R s m args below meth c (H.push (arrV cA N f)) locs (cells + 1) (slots + N) Q (F0 m (pc + 3) ls (.ref H.size :: rest))) : W p l e R s m args below meth c H locs cells slots Q (F0 m pc ls (.ref a :: rest)) := by
  have hsz : (arrV cA N f).slots.size = N := arrV_size _ _ _
  have hcellE : ({ cls := (arrV cA N f).cls, slots := (arrV cA N f).slots } : Cell) = arrV cA N f := rfl
  obtain ⟨c0, t0', f1, f2, f3⟩ := Cond.castable_spec (va_Nw.use (A := args) rfl hcl)
  cases hnm.symm.trans f1
  intro T hT X
  have hcellT : T.heap[a]? = some (arrV cA N f) := by rw [hT]; exact hcell
  obtain ⟨-, kA, hkA, comp, hkind⟩ := State.isArrayOf_alike X.warmed.alike (harr 0 (fun _ => .null))
  obtain ⟨-, kS, hkS, compS, hkindS⟩ := harr 0 (fun _ => .null)
  obtain ⟨vm', X', st⟩ := X.cloneArray hexec hown hlink hsame hnat hinst hsel (a := a) (cell := arrV cA N f) hcellT (fun k h => by cases h) (fun h => by cases h) hnm f2 f3
    (fun i v hv => by
      have hk' : T.vm.classes[cA]? = some kA := hkA
      have hk2 : T.vm.classes[(arrV cA N f).cls]? = some kA := hkA
      simpa [State.fitsSlot, State.slotType?, hk', hk2, hkind] using hfit i v hv)
    (g := F0 m pc ls (.ref a :: rest)) rfl (by rw [hml]) rfl (by rw [hb]; exact hdg) hframes (by show 2 * 0 + _ + 14 ≤ _; omega) hcells (by rw [hsz]; exact hslots) (hloader := Vm.clonesLoader_of_array hkS hkindS)
  rw [hcellE, hsz] at X'
  obtain ⟨t, b1, b2⟩ := kk ((T.setVm vm').pushCell (arrV cA N f)) (by rw [← hT]; rfl) X'
  refine ⟨t, st t ?_, b2⟩
  rw [hcellE, hT]
  exact b1
end CloneRow

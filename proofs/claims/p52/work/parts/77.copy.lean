/-! ARRAYCOPY, over values -/
section CopyRow
variable {p : Program} {l : Launch} {e : Env} {R : Room} {s : State} {m : MethodId} {args : Array Value} {below : List Frame} {meth : Method} {c : Code} {H : Heap} {locs : List Loc} {cells slots : Nat} {Q : State → Prop} {cc : ByteArray} {pc : Nat} {ls : Array Slot} {rest : List Value} {a a0 : Nat}
theorem W_copy (hexec : p.tables.exec = Jvm.exec) (hb : c.code = cc) (hml : c.maxLocals = ls.size) {own : String} {index : Nat} (hown : s.vm.findClass own = some m.cls) (hlink : (Cond.methodLink own index arraycopyName).before args s = true) (hnat : (Cond.native arraycopyName).before args s = true) (hstat : (Cond.static arraycopyName).before args s = true) (hini : (Cond.initialized "java/lang/System").before args s = true)
    {c0 c1 : ClassId} {n0 n1 N sp dp : Nat} {f g : Nat → Value} {ty : FieldType} (harr0 : ArrOfT s c0 ty) (harr1 : ArrOfT s c1 ty) (hc0 : H[a0]? = some (arrV c0 n0 f)) (hc1 : H[a]? = some (arrV c1 n1 g)) (h4 : sp + N ≤ n0) (h5 : dp + N ≤ n1) (b0 : n0 < 2147483648) (b1 : n1 < 2147483648)
    (hvals : ∀ i, i < N → fits ty (f (sp + i)) = true ∧ ∀ (T : State) (vm' : Vm), T.heap = H → s.vm.Alike vm' → ∀ (kd : Class) (comp : ClassId), s.vm.classes[c1]? = some kd → kd.kind = .array comp ty → (T.setVm vm').takes comp (f (sp + i)))
    (hframes : 1 ≤ R.frames) (hlocals : (rest.map fun v => v.category).sum + (nativeFrameWords "java/lang/System" "arraycopy" 5 + 11) ≤ R.locals) (hdg : decode cc pc = .ok (.invokestatic index, 3))
    (kk : ∀ (locs1 : List Loc), (∀ z ∈ locs1, z ∈ locs ∨ z.base = a) → W p l e R s m args below meth c (H.setIfInBounds a (arrV c1 n1 (va_cpy f g sp dp N))) locs1 cells slots Q (F0 m (pc + 3) ls rest)) : W p l e R s m args below meth c H locs cells slots Q (F0 m pc ls (.int (Int32.ofNat N) :: .int (Int32.ofNat dp) :: .ref a :: .int (Int32.ofNat sp) :: .ref a0 :: rest)) := by
  obtain ⟨-, k0, hk0, cm0, hkk0⟩ := harr0 n0 f
  obtain ⟨-, k1, hk1, cm1, hkk1⟩ := harr1 n1 g
  obtain ⟨s1, s2⟩ := ofNat_clamp (j := sp) (by omega)
  obtain ⟨d1, d2⟩ := ofNat_clamp (j := dp) (by omega)
  obtain ⟨m1, m2⟩ := ofNat_clamp (j := N) (by omega)
  have ts : (Int32.ofNat sp).toInt = (sp : Int) := by rw [i32_toInt (by omega), if_pos (by omega)]
  have td : (Int32.ofNat dp).toInt = (dp : Int) := by rw [i32_toInt (by omega), if_pos (by omega)]
  have tn : (Int32.ofNat N).toInt = (N : Int) := by rw [i32_toInt (by omega), if_pos (by omega)]
  intro T hT X
  obtain ⟨vm', X', step⟩ := X.arraycopy hexec hown hlink hnat hstat hini (src := a0) (dst := a) (cs := arrV c0 n0 f) (cd := arrV c1 n1 g) (srcPos := Int32.ofNat sp) (destPos := Int32.ofNat dp) (n := Int32.ofNat N) (by rw [hT]; exact hc0) (by rw [hT]; exact hc1)
    (fun _ h => by cases h) (fun _ h => by cases h) (fun h => by cases h) (fun h => by cases h) hk0 hk1 hkk0 hkk1 (by simp) s2 d2 m2
    (by rw [ts, tn, arrV_size]; omega) (by rw [td, tn, arrV_size]; omega)
    (fun vm₁ hal i hi => by
      rw [m1] at hi
      rw [s1]
      have e : (arrV c0 n0 f).slots.getD (sp + i) .null = f (sp + i) := by
        rw [Array.getD_eq_getD_getElem?, arrV_read _ _ (by omega)]
        rfl
      rw [e]
      exact ⟨(hvals i hi).1, (hvals i hi).2 T vm₁ hT hal k1 cm1 hk1 hkk1⟩)
    (g := F0 m pc ls (.int (Int32.ofNat N) :: .int (Int32.ofNat dp) :: .ref a :: .int (Int32.ofNat sp) :: .ref a0 :: rest)) rfl (by rw [hml]) (rest := rest) rfl (by rw [hb]; exact hdg) hframes (by show 2 * 0 + _ + _ ≤ _; omega)
  have e1 : copied (arrV c0 n0 f) (arrV c1 n1 g) (Int32.ofNat sp) (Int32.ofNat dp) (Int32.ofNat N) = arrV c1 n1 (va_cpy f g sp dp N) := by
    unfold copied
    rw [s1, d1, m1]
    exact va_copied (fun z => z) c0 c1 f g h4
  rw [e1] at X' step
  have hheap : ((T.setVm vm').setCell a (arrV c1 n1 (va_cpy f g sp dp N))).heap = H.setIfInBounds a (arrV c1 n1 (va_cpy f g sp dp N)) := by rw [← hT]; rfl
  obtain ⟨t, a1, b1⟩ := kk _ (fun z hz => by
    rcases List.mem_append.mp hz with q | q
    · exact Or.inl q
    · obtain ⟨y, -, hy⟩ := List.mem_map.mp q
      rw [← hy]
      exact Or.inr rfl) _ hheap X'
  exact ⟨t, step t a1, b1⟩
end CopyRow

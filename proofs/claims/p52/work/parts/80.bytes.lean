/-! DECODING BY BYTES: a method's bytes as numbers, each element's bytes, one walk through both -/
theorem u1_ok {cc : ByteArray} {p x : Nat} (h : p < cc.size) (hx : (cc[p]).toNat = x) : (Reader.u1 : Decoder Nat) cc p = .ok (x, p + 1) := by
  have e : (Reader.u1 : Decoder Nat) cc p = (if h : p < cc.size then (do set (p + 1); pure (cc[p]).toNat) else throw (HasTruncated.truncated p) : Decoder Nat) cc p := rfl
  rw [e, dif_pos h, ← hx]
  rfl
/-- at p lies the number x -/
def byAt (cc : ByteArray) (p x : Nat) : Prop := ∃ h : p < cc.size, (cc[p]).toNat = x
theorem byAt.u1 {cc : ByteArray} {p x : Nat} (h : byAt cc p x) : (Reader.u1 : Decoder Nat) cc p = .ok (x, p + 1) := u1_ok h.1 h.2
theorem rd_bind {α β : Type} {x : Decoder α} {f : α → Decoder β} {cc : ByteArray} {p q : Nat} {a : α} (h : x cc p = .ok (a, q)) : (x >>= f) cc p = f a cc q := by
  show Except.bind (x cc p) _ = _
  rw [h]
  rfl
theorem byAt.u2 {cc : ByteArray} {p i : Nat} (h : byAt cc p (i / 256)) (h2 : byAt cc (p + 1) (i % 256)) : (Reader.u2 : Decoder Nat) cc p = .ok (i, p + 2) := by
  refine (rd_bind h.u1).trans ((rd_bind h2.u1).trans ?_)
  show Except.ok (i / 256 * 256 + i % 256, p + 1 + 1) = _
  rw [Nat.div_add_mod']
/-- the bytes of a signed number -/
def rs1 (n : Int) : Option Nat := match n with
  | .ofNat k => if k < 128 then some k else none
  | .negSucc k => if k < 128 then some (255 - k) else none
def rs2 (n : Int) : Option (List Nat) := match n with
  | .ofNat k => if k < 32768 then some [k / 256, k % 256] else none
  | .negSucc k => if k < 32768 then some [(65535 - k) / 256, (65535 - k) % 256] else none
theorem rs1_ok {n : Int} {x : Nat} (h : rs1 n = some x) {cc : ByteArray} {p : Nat} (hb : byAt cc p x) : (Reader.s1 : Decoder Int) cc p = .ok (n, p + 1) := by
  have e : (Reader.s1 : Decoder Int) cc p = .ok (Reader.signed 8 x, p + 1) := by
    show Except.map _ _ = _
    rw [hb.u1]; rfl
  rw [e]
  cases n with
  | ofNat k =>
    simp only [rs1] at h
    split at h
    · rename_i hk
      have hx : k = x := Option.some.inj h
      subst hx
      have : Reader.signed 8 k = (k : Int) := by simp [Reader.signed, hk]
      rw [this]; rfl
    · cases h
  | negSucc k =>
    simp only [rs1] at h
    split at h
    · rename_i hk
      cases h
      have : Reader.signed 8 (255 - k) = Int.negSucc k := by
        unfold Reader.signed
        rw [if_neg (by omega)]
        omega
      rw [this]
    · cases h
theorem rs2_ok {n : Int} {l : List Nat} (h : rs2 n = some l) : ∃ i, l = [i / 256, i % 256] ∧ ∀ {cc : ByteArray} {p : Nat}, byAt cc p (i / 256) → byAt cc (p + 1) (i % 256) → (Reader.s2 : Decoder Int) cc p = .ok (n, p + 2) := by
  have e : ∀ (i : Nat) (cc : ByteArray) (p : Nat), byAt cc p (i / 256) → byAt cc (p + 1) (i % 256) → (Reader.s2 : Decoder Int) cc p = .ok (Reader.signed 16 i, p + 2) := fun i cc p h1 h2 => by
    show Except.map _ _ = _
    rw [byAt.u2 h1 h2]; rfl
  cases n with
  | ofNat k =>
    simp only [rs2] at h
    split at h
    · rename_i hk
      cases h
      refine ⟨k, rfl, fun {cc p} h1 h2 => ?_⟩
      have : Reader.signed 16 k = (k : Int) := by simp [Reader.signed, hk]
      rw [e _ _ _ h1 h2, this]; rfl
    · cases h
  | negSucc k =>
    simp only [rs2] at h
    split at h
    · rename_i hk
      cases h
      refine ⟨65535 - k, rfl, fun {cc p} h1 h2 => ?_⟩
      have : Reader.signed 16 (65535 - k) = Int.negSucc k := by
        unfold Reader.signed
        rw [if_neg (by omega)]
        omega
      rw [e _ _ _ h1 h2, this]
    · cases h
theorem dec_of {cc : ByteArray} {pc q n : Nat} {i : Instr} (h : Decoder.instr pc cc pc = .ok (i, q)) (hq : q - pc = n) : decode cc pc = .ok (i, n) := by
  subst hq
  unfold decode
  show Except.bind (Decoder.instr pc cc pc) _ = _
  rw [h]
  rfl
theorem by_iaload {cc : ByteArray} {pc : Nat} (h : byAt cc pc 46) : decode cc pc = .ok (.iaload, 1) := dec_of (q := pc + 1) ((rd_bind h.u1).trans rfl) (by omega)
theorem by_laload {cc : ByteArray} {pc : Nat} (h : byAt cc pc 47) : decode cc pc = .ok (.laload, 1) := dec_of (q := pc + 1) ((rd_bind h.u1).trans rfl) (by omega)
theorem by_aaload {cc : ByteArray} {pc : Nat} (h : byAt cc pc 50) : decode cc pc = .ok (.aaload, 1) := dec_of (q := pc + 1) ((rd_bind h.u1).trans rfl) (by omega)
theorem by_baload {cc : ByteArray} {pc : Nat} (h : byAt cc pc 51) : decode cc pc = .ok (.baload, 1) := dec_of (q := pc + 1) ((rd_bind h.u1).trans rfl) (by omega)
theorem by_caload {cc : ByteArray} {pc : Nat} (h : byAt cc pc 52) : decode cc pc = .ok (.caload, 1) := dec_of (q := pc + 1) ((rd_bind h.u1).trans rfl) (by omega)
theorem by_iastore {cc : ByteArray} {pc : Nat} (h : byAt cc pc 79) : decode cc pc = .ok (.iastore, 1) := dec_of (q := pc + 1) ((rd_bind h.u1).trans rfl) (by omega)
theorem by_lastore {cc : ByteArray} {pc : Nat} (h : byAt cc pc 80) : decode cc pc = .ok (.lastore, 1) := dec_of (q := pc + 1) ((rd_bind h.u1).trans rfl) (by omega)
theorem by_aastore {cc : ByteArray} {pc : Nat} (h : byAt cc pc 83) : decode cc pc = .ok (.aastore, 1) := dec_of (q := pc + 1) ((rd_bind h.u1).trans rfl) (by omega)
theorem by_bastore {cc : ByteArray} {pc : Nat} (h : byAt cc pc 84) : decode cc pc = .ok (.bastore, 1) := dec_of (q := pc + 1) ((rd_bind h.u1).trans rfl) (by omega)
theorem by_castore {cc : ByteArray} {pc : Nat} (h : byAt cc pc 85) : decode cc pc = .ok (.castore, 1) := dec_of (q := pc + 1) ((rd_bind h.u1).trans rfl) (by omega)
theorem by_pop {cc : ByteArray} {pc : Nat} (h : byAt cc pc 87) : decode cc pc = .ok (.pop, 1) := dec_of (q := pc + 1) ((rd_bind h.u1).trans rfl) (by omega)
theorem by_dup {cc : ByteArray} {pc : Nat} (h : byAt cc pc 89) : decode cc pc = .ok (.dup, 1) := dec_of (q := pc + 1) ((rd_bind h.u1).trans rfl) (by omega)
theorem by_dup_x1 {cc : ByteArray} {pc : Nat} (h : byAt cc pc 90) : decode cc pc = .ok (.dup_x1, 1) := dec_of (q := pc + 1) ((rd_bind h.u1).trans rfl) (by omega)
theorem by_dup2 {cc : ByteArray} {pc : Nat} (h : byAt cc pc 92) : decode cc pc = .ok (.dup2, 1) := dec_of (q := pc + 1) ((rd_bind h.u1).trans rfl) (by omega)
theorem by_iadd {cc : ByteArray} {pc : Nat} (h : byAt cc pc 96) : decode cc pc = .ok (.iadd, 1) := dec_of (q := pc + 1) ((rd_bind h.u1).trans rfl) (by omega)
theorem by_ladd {cc : ByteArray} {pc : Nat} (h : byAt cc pc 97) : decode cc pc = .ok (.ladd, 1) := dec_of (q := pc + 1) ((rd_bind h.u1).trans rfl) (by omega)
theorem by_isub {cc : ByteArray} {pc : Nat} (h : byAt cc pc 100) : decode cc pc = .ok (.isub, 1) := dec_of (q := pc + 1) ((rd_bind h.u1).trans rfl) (by omega)
theorem by_imul {cc : ByteArray} {pc : Nat} (h : byAt cc pc 104) : decode cc pc = .ok (.imul, 1) := dec_of (q := pc + 1) ((rd_bind h.u1).trans rfl) (by omega)
theorem by_lmul {cc : ByteArray} {pc : Nat} (h : byAt cc pc 105) : decode cc pc = .ok (.lmul, 1) := dec_of (q := pc + 1) ((rd_bind h.u1).trans rfl) (by omega)
theorem by_idiv {cc : ByteArray} {pc : Nat} (h : byAt cc pc 108) : decode cc pc = .ok (.idiv, 1) := dec_of (q := pc + 1) ((rd_bind h.u1).trans rfl) (by omega)
theorem by_fdiv {cc : ByteArray} {pc : Nat} (h : byAt cc pc 110) : decode cc pc = .ok (.fdiv, 1) := dec_of (q := pc + 1) ((rd_bind h.u1).trans rfl) (by omega)
theorem by_irem {cc : ByteArray} {pc : Nat} (h : byAt cc pc 112) : decode cc pc = .ok (.irem, 1) := dec_of (q := pc + 1) ((rd_bind h.u1).trans rfl) (by omega)
theorem by_ineg {cc : ByteArray} {pc : Nat} (h : byAt cc pc 116) : decode cc pc = .ok (.ineg, 1) := dec_of (q := pc + 1) ((rd_bind h.u1).trans rfl) (by omega)
theorem by_ishl {cc : ByteArray} {pc : Nat} (h : byAt cc pc 120) : decode cc pc = .ok (.ishl, 1) := dec_of (q := pc + 1) ((rd_bind h.u1).trans rfl) (by omega)
theorem by_ishr {cc : ByteArray} {pc : Nat} (h : byAt cc pc 122) : decode cc pc = .ok (.ishr, 1) := dec_of (q := pc + 1) ((rd_bind h.u1).trans rfl) (by omega)
theorem by_iushr {cc : ByteArray} {pc : Nat} (h : byAt cc pc 124) : decode cc pc = .ok (.iushr, 1) := dec_of (q := pc + 1) ((rd_bind h.u1).trans rfl) (by omega)
theorem by_iand {cc : ByteArray} {pc : Nat} (h : byAt cc pc 126) : decode cc pc = .ok (.iand, 1) := dec_of (q := pc + 1) ((rd_bind h.u1).trans rfl) (by omega)
theorem by_ior {cc : ByteArray} {pc : Nat} (h : byAt cc pc 128) : decode cc pc = .ok (.ior, 1) := dec_of (q := pc + 1) ((rd_bind h.u1).trans rfl) (by omega)
theorem by_ixor {cc : ByteArray} {pc : Nat} (h : byAt cc pc 130) : decode cc pc = .ok (.ixor, 1) := dec_of (q := pc + 1) ((rd_bind h.u1).trans rfl) (by omega)
theorem by_i2l {cc : ByteArray} {pc : Nat} (h : byAt cc pc 133) : decode cc pc = .ok (.i2l, 1) := dec_of (q := pc + 1) ((rd_bind h.u1).trans rfl) (by omega)
theorem by_i2f {cc : ByteArray} {pc : Nat} (h : byAt cc pc 134) : decode cc pc = .ok (.i2f, 1) := dec_of (q := pc + 1) ((rd_bind h.u1).trans rfl) (by omega)
theorem by_f2d {cc : ByteArray} {pc : Nat} (h : byAt cc pc 141) : decode cc pc = .ok (.f2d, 1) := dec_of (q := pc + 1) ((rd_bind h.u1).trans rfl) (by omega)
theorem by_i2b {cc : ByteArray} {pc : Nat} (h : byAt cc pc 145) : decode cc pc = .ok (.i2b, 1) := dec_of (q := pc + 1) ((rd_bind h.u1).trans rfl) (by omega)
theorem by_i2c {cc : ByteArray} {pc : Nat} (h : byAt cc pc 146) : decode cc pc = .ok (.i2c, 1) := dec_of (q := pc + 1) ((rd_bind h.u1).trans rfl) (by omega)
theorem by_lcmp {cc : ByteArray} {pc : Nat} (h : byAt cc pc 148) : decode cc pc = .ok (.lcmp, 1) := dec_of (q := pc + 1) ((rd_bind h.u1).trans rfl) (by omega)
theorem by_ireturn {cc : ByteArray} {pc : Nat} (h : byAt cc pc 172) : decode cc pc = .ok (.ireturn, 1) := dec_of (q := pc + 1) ((rd_bind h.u1).trans rfl) (by omega)
theorem by_lreturn {cc : ByteArray} {pc : Nat} (h : byAt cc pc 173) : decode cc pc = .ok (.lreturn, 1) := dec_of (q := pc + 1) ((rd_bind h.u1).trans rfl) (by omega)
theorem by_freturn {cc : ByteArray} {pc : Nat} (h : byAt cc pc 174) : decode cc pc = .ok (.freturn, 1) := dec_of (q := pc + 1) ((rd_bind h.u1).trans rfl) (by omega)
theorem by_dreturn {cc : ByteArray} {pc : Nat} (h : byAt cc pc 175) : decode cc pc = .ok (.dreturn, 1) := dec_of (q := pc + 1) ((rd_bind h.u1).trans rfl) (by omega)
theorem by_areturn {cc : ByteArray} {pc : Nat} (h : byAt cc pc 176) : decode cc pc = .ok (.areturn, 1) := dec_of (q := pc + 1) ((rd_bind h.u1).trans rfl) (by omega)
theorem by_return_ {cc : ByteArray} {pc : Nat} (h : byAt cc pc 177) : decode cc pc = .ok (.return_, 1) := dec_of (q := pc + 1) ((rd_bind h.u1).trans rfl) (by omega)
theorem by_arraylength {cc : ByteArray} {pc : Nat} (h : byAt cc pc 190) : decode cc pc = .ok (.arraylength, 1) := dec_of (q := pc + 1) ((rd_bind h.u1).trans rfl) (by omega)
theorem by_athrow {cc : ByteArray} {pc : Nat} (h : byAt cc pc 191) : decode cc pc = .ok (.athrow, 1) := dec_of (q := pc + 1) ((rd_bind h.u1).trans rfl) (by omega)
theorem by_aconst_null {cc : ByteArray} {pc : Nat} (h : byAt cc pc 1) : decode cc pc = .ok (.aconst_null, 1) := dec_of (q := pc + 1) ((rd_bind h.u1).trans rfl) (by omega)
theorem by_ldc {cc : ByteArray} {pc : Nat} {i : Nat} (h : byAt cc pc 18) (h1 : byAt cc (pc + 1) i) : decode cc pc = .ok (.ldc i, 2) := dec_of (q := pc + 2) ((rd_bind h.u1).trans ((rd_bind (f := fun i => pure (Instr.ldc i)) h1.u1).trans rfl)) (by omega)
theorem by_iload {cc : ByteArray} {pc : Nat} {i : Nat} (h : byAt cc pc 21) (h1 : byAt cc (pc + 1) i) : decode cc pc = .ok (.iload i, 2) := dec_of (q := pc + 2) ((rd_bind h.u1).trans ((rd_bind (f := fun i => pure (Instr.iload i)) h1.u1).trans rfl)) (by omega)
theorem by_lload {cc : ByteArray} {pc : Nat} {i : Nat} (h : byAt cc pc 22) (h1 : byAt cc (pc + 1) i) : decode cc pc = .ok (.lload i, 2) := dec_of (q := pc + 2) ((rd_bind h.u1).trans ((rd_bind (f := fun i => pure (Instr.lload i)) h1.u1).trans rfl)) (by omega)
theorem by_dload {cc : ByteArray} {pc : Nat} {i : Nat} (h : byAt cc pc 24) (h1 : byAt cc (pc + 1) i) : decode cc pc = .ok (.dload i, 2) := dec_of (q := pc + 2) ((rd_bind h.u1).trans ((rd_bind (f := fun i => pure (Instr.dload i)) h1.u1).trans rfl)) (by omega)
theorem by_aload {cc : ByteArray} {pc : Nat} {i : Nat} (h : byAt cc pc 25) (h1 : byAt cc (pc + 1) i) : decode cc pc = .ok (.aload i, 2) := dec_of (q := pc + 2) ((rd_bind h.u1).trans ((rd_bind (f := fun i => pure (Instr.aload i)) h1.u1).trans rfl)) (by omega)
theorem by_istore {cc : ByteArray} {pc : Nat} {i : Nat} (h : byAt cc pc 54) (h1 : byAt cc (pc + 1) i) : decode cc pc = .ok (.istore i, 2) := dec_of (q := pc + 2) ((rd_bind h.u1).trans ((rd_bind (f := fun i => pure (Instr.istore i)) h1.u1).trans rfl)) (by omega)
theorem by_lstore {cc : ByteArray} {pc : Nat} {i : Nat} (h : byAt cc pc 55) (h1 : byAt cc (pc + 1) i) : decode cc pc = .ok (.lstore i, 2) := dec_of (q := pc + 2) ((rd_bind h.u1).trans ((rd_bind (f := fun i => pure (Instr.lstore i)) h1.u1).trans rfl)) (by omega)
theorem by_dstore {cc : ByteArray} {pc : Nat} {i : Nat} (h : byAt cc pc 57) (h1 : byAt cc (pc + 1) i) : decode cc pc = .ok (.dstore i, 2) := dec_of (q := pc + 2) ((rd_bind h.u1).trans ((rd_bind (f := fun i => pure (Instr.dstore i)) h1.u1).trans rfl)) (by omega)
theorem by_astore {cc : ByteArray} {pc : Nat} {i : Nat} (h : byAt cc pc 58) (h1 : byAt cc (pc + 1) i) : decode cc pc = .ok (.astore i, 2) := dec_of (q := pc + 2) ((rd_bind h.u1).trans ((rd_bind (f := fun i => pure (Instr.astore i)) h1.u1).trans rfl)) (by omega)
theorem by_ldc_w {cc : ByteArray} {pc : Nat} {i : Nat} (h : byAt cc pc 19) (h1 : byAt cc (pc + 1) (i / 256)) (h2 : byAt cc (pc + 2) (i % 256)) : decode cc pc = .ok (.ldc_w i, 3) := dec_of (q := pc + 3) ((rd_bind h.u1).trans ((rd_bind (f := fun i => pure (Instr.ldc_w i)) (byAt.u2 h1 h2)).trans rfl)) (by omega)
theorem by_ldc2_w {cc : ByteArray} {pc : Nat} {i : Nat} (h : byAt cc pc 20) (h1 : byAt cc (pc + 1) (i / 256)) (h2 : byAt cc (pc + 2) (i % 256)) : decode cc pc = .ok (.ldc2_w i, 3) := dec_of (q := pc + 3) ((rd_bind h.u1).trans ((rd_bind (f := fun i => pure (Instr.ldc2_w i)) (byAt.u2 h1 h2)).trans rfl)) (by omega)
theorem by_getstatic {cc : ByteArray} {pc : Nat} {i : Nat} (h : byAt cc pc 178) (h1 : byAt cc (pc + 1) (i / 256)) (h2 : byAt cc (pc + 2) (i % 256)) : decode cc pc = .ok (.getstatic i, 3) := dec_of (q := pc + 3) ((rd_bind h.u1).trans ((rd_bind (f := fun i => pure (Instr.getstatic i)) (byAt.u2 h1 h2)).trans rfl)) (by omega)
theorem by_getfield {cc : ByteArray} {pc : Nat} {i : Nat} (h : byAt cc pc 180) (h1 : byAt cc (pc + 1) (i / 256)) (h2 : byAt cc (pc + 2) (i % 256)) : decode cc pc = .ok (.getfield i, 3) := dec_of (q := pc + 3) ((rd_bind h.u1).trans ((rd_bind (f := fun i => pure (Instr.getfield i)) (byAt.u2 h1 h2)).trans rfl)) (by omega)
theorem by_putfield {cc : ByteArray} {pc : Nat} {i : Nat} (h : byAt cc pc 181) (h1 : byAt cc (pc + 1) (i / 256)) (h2 : byAt cc (pc + 2) (i % 256)) : decode cc pc = .ok (.putfield i, 3) := dec_of (q := pc + 3) ((rd_bind h.u1).trans ((rd_bind (f := fun i => pure (Instr.putfield i)) (byAt.u2 h1 h2)).trans rfl)) (by omega)
theorem by_invokevirtual {cc : ByteArray} {pc : Nat} {i : Nat} (h : byAt cc pc 182) (h1 : byAt cc (pc + 1) (i / 256)) (h2 : byAt cc (pc + 2) (i % 256)) : decode cc pc = .ok (.invokevirtual i, 3) := dec_of (q := pc + 3) ((rd_bind h.u1).trans ((rd_bind (f := fun i => pure (Instr.invokevirtual i)) (byAt.u2 h1 h2)).trans rfl)) (by omega)
theorem by_invokespecial {cc : ByteArray} {pc : Nat} {i : Nat} (h : byAt cc pc 183) (h1 : byAt cc (pc + 1) (i / 256)) (h2 : byAt cc (pc + 2) (i % 256)) : decode cc pc = .ok (.invokespecial i, 3) := dec_of (q := pc + 3) ((rd_bind h.u1).trans ((rd_bind (f := fun i => pure (Instr.invokespecial i)) (byAt.u2 h1 h2)).trans rfl)) (by omega)
theorem by_invokestatic {cc : ByteArray} {pc : Nat} {i : Nat} (h : byAt cc pc 184) (h1 : byAt cc (pc + 1) (i / 256)) (h2 : byAt cc (pc + 2) (i % 256)) : decode cc pc = .ok (.invokestatic i, 3) := dec_of (q := pc + 3) ((rd_bind h.u1).trans ((rd_bind (f := fun i => pure (Instr.invokestatic i)) (byAt.u2 h1 h2)).trans rfl)) (by omega)
theorem by_new {cc : ByteArray} {pc : Nat} {i : Nat} (h : byAt cc pc 187) (h1 : byAt cc (pc + 1) (i / 256)) (h2 : byAt cc (pc + 2) (i % 256)) : decode cc pc = .ok (.new i, 3) := dec_of (q := pc + 3) ((rd_bind h.u1).trans ((rd_bind (f := fun i => pure (Instr.new i)) (byAt.u2 h1 h2)).trans rfl)) (by omega)
theorem by_anewarray {cc : ByteArray} {pc : Nat} {i : Nat} (h : byAt cc pc 189) (h1 : byAt cc (pc + 1) (i / 256)) (h2 : byAt cc (pc + 2) (i % 256)) : decode cc pc = .ok (.anewarray i, 3) := dec_of (q := pc + 3) ((rd_bind h.u1).trans ((rd_bind (f := fun i => pure (Instr.anewarray i)) (byAt.u2 h1 h2)).trans rfl)) (by omega)
theorem by_checkcast {cc : ByteArray} {pc : Nat} {i : Nat} (h : byAt cc pc 192) (h1 : byAt cc (pc + 1) (i / 256)) (h2 : byAt cc (pc + 2) (i % 256)) : decode cc pc = .ok (.checkcast i, 3) := dec_of (q := pc + 3) ((rd_bind h.u1).trans ((rd_bind (f := fun i => pure (Instr.checkcast i)) (byAt.u2 h1 h2)).trans rfl)) (by omega)
theorem by_goto {cc : ByteArray} {pc : Nat} {n : Int} {l : List Nat} (hl : rs2 n = some l) (h : byAt cc pc 167) (hw : ∀ j x, l[j]? = some x → byAt cc (pc + 1 + j) x) : decode cc pc = .ok (.goto n, 3) := by
  obtain ⟨i, rfl, hi⟩ := rs2_ok hl
  exact dec_of (q := pc + 3) ((rd_bind h.u1).trans ((rd_bind (f := fun n => pure (Instr.goto n)) (hi (hw 0 _ rfl) (hw 1 _ rfl))).trans rfl)) (by omega)
theorem by_ifnull {cc : ByteArray} {pc : Nat} {n : Int} {l : List Nat} (hl : rs2 n = some l) (h : byAt cc pc 198) (hw : ∀ j x, l[j]? = some x → byAt cc (pc + 1 + j) x) : decode cc pc = .ok (.ifnull n, 3) := by
  obtain ⟨i, rfl, hi⟩ := rs2_ok hl
  exact dec_of (q := pc + 3) ((rd_bind h.u1).trans ((rd_bind (f := fun n => pure (Instr.ifnull n)) (hi (hw 0 _ rfl) (hw 1 _ rfl))).trans rfl)) (by omega)
theorem by_ifnonnull {cc : ByteArray} {pc : Nat} {n : Int} {l : List Nat} (hl : rs2 n = some l) (h : byAt cc pc 199) (hw : ∀ j x, l[j]? = some x → byAt cc (pc + 1 + j) x) : decode cc pc = .ok (.ifnonnull n, 3) := by
  obtain ⟨i, rfl, hi⟩ := rs2_ok hl
  exact dec_of (q := pc + 3) ((rd_bind h.u1).trans ((rd_bind (f := fun n => pure (Instr.ifnonnull n)) (hi (hw 0 _ rfl) (hw 1 _ rfl))).trans rfl)) (by omega)
theorem by_sipush {cc : ByteArray} {pc : Nat} {n : Int} {l : List Nat} (hl : rs2 n = some l) (h : byAt cc pc 17) (hw : ∀ j x, l[j]? = some x → byAt cc (pc + 1 + j) x) : decode cc pc = .ok (.sipush n, 3) := by
  obtain ⟨i, rfl, hi⟩ := rs2_ok hl
  exact dec_of (q := pc + 3) ((rd_bind h.u1).trans ((rd_bind (f := fun n => pure (Instr.sipush n)) (hi (hw 0 _ rfl) (hw 1 _ rfl))).trans rfl)) (by omega)
theorem by_if_eq {cc : ByteArray} {pc : Nat} {n : Int} {l : List Nat} (hl : rs2 n = some l) (h : byAt cc pc 153) (hw : ∀ j x, l[j]? = some x → byAt cc (pc + 1 + j) x) : decode cc pc = .ok (.ifCond .eq n, 3) := by
  obtain ⟨i, rfl, hi⟩ := rs2_ok hl
  exact dec_of (q := pc + 3) ((rd_bind h.u1).trans ((rd_bind (f := fun n => pure (Instr.ifCond .eq n)) (hi (hw 0 _ rfl) (hw 1 _ rfl))).trans rfl)) (by omega)
theorem by_icmp_eq {cc : ByteArray} {pc : Nat} {n : Int} {l : List Nat} (hl : rs2 n = some l) (h : byAt cc pc 159) (hw : ∀ j x, l[j]? = some x → byAt cc (pc + 1 + j) x) : decode cc pc = .ok (.if_icmp .eq n, 3) := by
  obtain ⟨i, rfl, hi⟩ := rs2_ok hl
  exact dec_of (q := pc + 3) ((rd_bind h.u1).trans ((rd_bind (f := fun n => pure (Instr.if_icmp .eq n)) (hi (hw 0 _ rfl) (hw 1 _ rfl))).trans rfl)) (by omega)
theorem by_if_ne {cc : ByteArray} {pc : Nat} {n : Int} {l : List Nat} (hl : rs2 n = some l) (h : byAt cc pc 154) (hw : ∀ j x, l[j]? = some x → byAt cc (pc + 1 + j) x) : decode cc pc = .ok (.ifCond .ne n, 3) := by
  obtain ⟨i, rfl, hi⟩ := rs2_ok hl
  exact dec_of (q := pc + 3) ((rd_bind h.u1).trans ((rd_bind (f := fun n => pure (Instr.ifCond .ne n)) (hi (hw 0 _ rfl) (hw 1 _ rfl))).trans rfl)) (by omega)
theorem by_icmp_ne {cc : ByteArray} {pc : Nat} {n : Int} {l : List Nat} (hl : rs2 n = some l) (h : byAt cc pc 160) (hw : ∀ j x, l[j]? = some x → byAt cc (pc + 1 + j) x) : decode cc pc = .ok (.if_icmp .ne n, 3) := by
  obtain ⟨i, rfl, hi⟩ := rs2_ok hl
  exact dec_of (q := pc + 3) ((rd_bind h.u1).trans ((rd_bind (f := fun n => pure (Instr.if_icmp .ne n)) (hi (hw 0 _ rfl) (hw 1 _ rfl))).trans rfl)) (by omega)
theorem by_if_lt {cc : ByteArray} {pc : Nat} {n : Int} {l : List Nat} (hl : rs2 n = some l) (h : byAt cc pc 155) (hw : ∀ j x, l[j]? = some x → byAt cc (pc + 1 + j) x) : decode cc pc = .ok (.ifCond .lt n, 3) := by
  obtain ⟨i, rfl, hi⟩ := rs2_ok hl
  exact dec_of (q := pc + 3) ((rd_bind h.u1).trans ((rd_bind (f := fun n => pure (Instr.ifCond .lt n)) (hi (hw 0 _ rfl) (hw 1 _ rfl))).trans rfl)) (by omega)
theorem by_icmp_lt {cc : ByteArray} {pc : Nat} {n : Int} {l : List Nat} (hl : rs2 n = some l) (h : byAt cc pc 161) (hw : ∀ j x, l[j]? = some x → byAt cc (pc + 1 + j) x) : decode cc pc = .ok (.if_icmp .lt n, 3) := by
  obtain ⟨i, rfl, hi⟩ := rs2_ok hl
  exact dec_of (q := pc + 3) ((rd_bind h.u1).trans ((rd_bind (f := fun n => pure (Instr.if_icmp .lt n)) (hi (hw 0 _ rfl) (hw 1 _ rfl))).trans rfl)) (by omega)
theorem by_if_ge {cc : ByteArray} {pc : Nat} {n : Int} {l : List Nat} (hl : rs2 n = some l) (h : byAt cc pc 156) (hw : ∀ j x, l[j]? = some x → byAt cc (pc + 1 + j) x) : decode cc pc = .ok (.ifCond .ge n, 3) := by
  obtain ⟨i, rfl, hi⟩ := rs2_ok hl
  exact dec_of (q := pc + 3) ((rd_bind h.u1).trans ((rd_bind (f := fun n => pure (Instr.ifCond .ge n)) (hi (hw 0 _ rfl) (hw 1 _ rfl))).trans rfl)) (by omega)
theorem by_icmp_ge {cc : ByteArray} {pc : Nat} {n : Int} {l : List Nat} (hl : rs2 n = some l) (h : byAt cc pc 162) (hw : ∀ j x, l[j]? = some x → byAt cc (pc + 1 + j) x) : decode cc pc = .ok (.if_icmp .ge n, 3) := by
  obtain ⟨i, rfl, hi⟩ := rs2_ok hl
  exact dec_of (q := pc + 3) ((rd_bind h.u1).trans ((rd_bind (f := fun n => pure (Instr.if_icmp .ge n)) (hi (hw 0 _ rfl) (hw 1 _ rfl))).trans rfl)) (by omega)
theorem by_if_gt {cc : ByteArray} {pc : Nat} {n : Int} {l : List Nat} (hl : rs2 n = some l) (h : byAt cc pc 157) (hw : ∀ j x, l[j]? = some x → byAt cc (pc + 1 + j) x) : decode cc pc = .ok (.ifCond .gt n, 3) := by
  obtain ⟨i, rfl, hi⟩ := rs2_ok hl
  exact dec_of (q := pc + 3) ((rd_bind h.u1).trans ((rd_bind (f := fun n => pure (Instr.ifCond .gt n)) (hi (hw 0 _ rfl) (hw 1 _ rfl))).trans rfl)) (by omega)
theorem by_icmp_gt {cc : ByteArray} {pc : Nat} {n : Int} {l : List Nat} (hl : rs2 n = some l) (h : byAt cc pc 163) (hw : ∀ j x, l[j]? = some x → byAt cc (pc + 1 + j) x) : decode cc pc = .ok (.if_icmp .gt n, 3) := by
  obtain ⟨i, rfl, hi⟩ := rs2_ok hl
  exact dec_of (q := pc + 3) ((rd_bind h.u1).trans ((rd_bind (f := fun n => pure (Instr.if_icmp .gt n)) (hi (hw 0 _ rfl) (hw 1 _ rfl))).trans rfl)) (by omega)
theorem by_if_le {cc : ByteArray} {pc : Nat} {n : Int} {l : List Nat} (hl : rs2 n = some l) (h : byAt cc pc 158) (hw : ∀ j x, l[j]? = some x → byAt cc (pc + 1 + j) x) : decode cc pc = .ok (.ifCond .le n, 3) := by
  obtain ⟨i, rfl, hi⟩ := rs2_ok hl
  exact dec_of (q := pc + 3) ((rd_bind h.u1).trans ((rd_bind (f := fun n => pure (Instr.ifCond .le n)) (hi (hw 0 _ rfl) (hw 1 _ rfl))).trans rfl)) (by omega)
theorem by_icmp_le {cc : ByteArray} {pc : Nat} {n : Int} {l : List Nat} (hl : rs2 n = some l) (h : byAt cc pc 164) (hw : ∀ j x, l[j]? = some x → byAt cc (pc + 1 + j) x) : decode cc pc = .ok (.if_icmp .le n, 3) := by
  obtain ⟨i, rfl, hi⟩ := rs2_ok hl
  exact dec_of (q := pc + 3) ((rd_bind h.u1).trans ((rd_bind (f := fun n => pure (Instr.if_icmp .le n)) (hi (hw 0 _ rfl) (hw 1 _ rfl))).trans rfl)) (by omega)
theorem by_acmp_eq {cc : ByteArray} {pc : Nat} {n : Int} {l : List Nat} (hl : rs2 n = some l) (h : byAt cc pc 165) (hw : ∀ j x, l[j]? = some x → byAt cc (pc + 1 + j) x) : decode cc pc = .ok (.if_acmp .eq n, 3) := by
  obtain ⟨i, rfl, hi⟩ := rs2_ok hl
  exact dec_of (q := pc + 3) ((rd_bind h.u1).trans ((rd_bind (f := fun n => pure (Instr.if_acmp .eq n)) (hi (hw 0 _ rfl) (hw 1 _ rfl))).trans rfl)) (by omega)
theorem by_acmp_ne {cc : ByteArray} {pc : Nat} {n : Int} {l : List Nat} (hl : rs2 n = some l) (h : byAt cc pc 166) (hw : ∀ j x, l[j]? = some x → byAt cc (pc + 1 + j) x) : decode cc pc = .ok (.if_acmp .ne n, 3) := by
  obtain ⟨i, rfl, hi⟩ := rs2_ok hl
  exact dec_of (q := pc + 3) ((rd_bind h.u1).trans ((rd_bind (f := fun n => pure (Instr.if_acmp .ne n)) (hi (hw 0 _ rfl) (hw 1 _ rfl))).trans rfl)) (by omega)
theorem by_bipush {cc : ByteArray} {pc : Nat} {n : Int} {x : Nat} (hl : rs1 n = some x) (h : byAt cc pc 16) (h1 : byAt cc (pc + 1) x) : decode cc pc = .ok (.bipush n, 2) := dec_of (q := pc + 2) ((rd_bind h.u1).trans ((rd_bind (f := fun n => pure (Instr.bipush n)) (rs1_ok hl h1)).trans rfl)) (by omega)
theorem by_iinc {cc : ByteArray} {pc : Nat} {i : Nat} {n : Int} {x : Nat} (hl : rs1 n = some x) (h : byAt cc pc 132) (h1 : byAt cc (pc + 1) i) (h2 : byAt cc (pc + 2) x) : decode cc pc = .ok (.iinc i n, 3) := dec_of (q := pc + 3) ((rd_bind h.u1).trans ((rd_bind (f := fun i => (do pure (Instr.iinc i (← Reader.s1)))) h1.u1).trans ((rd_bind (f := fun n => pure (Instr.iinc i n)) (rs1_ok hl h2)).trans rfl))) (by omega)
theorem by_iconst0 {cc : ByteArray} {pc : Nat} (h : byAt cc pc 2) : decode cc pc = .ok (.iconst (-1), 1) := dec_of (q := pc + 1) ((rd_bind h.u1).trans rfl) (by omega)
theorem by_iconst1 {cc : ByteArray} {pc : Nat} (h : byAt cc pc 3) : decode cc pc = .ok (.iconst 0, 1) := dec_of (q := pc + 1) ((rd_bind h.u1).trans rfl) (by omega)
theorem by_iconst2 {cc : ByteArray} {pc : Nat} (h : byAt cc pc 4) : decode cc pc = .ok (.iconst 1, 1) := dec_of (q := pc + 1) ((rd_bind h.u1).trans rfl) (by omega)
theorem by_iconst3 {cc : ByteArray} {pc : Nat} (h : byAt cc pc 5) : decode cc pc = .ok (.iconst 2, 1) := dec_of (q := pc + 1) ((rd_bind h.u1).trans rfl) (by omega)
theorem by_iconst4 {cc : ByteArray} {pc : Nat} (h : byAt cc pc 6) : decode cc pc = .ok (.iconst 3, 1) := dec_of (q := pc + 1) ((rd_bind h.u1).trans rfl) (by omega)
theorem by_iconst5 {cc : ByteArray} {pc : Nat} (h : byAt cc pc 7) : decode cc pc = .ok (.iconst 4, 1) := dec_of (q := pc + 1) ((rd_bind h.u1).trans rfl) (by omega)
theorem by_iconst6 {cc : ByteArray} {pc : Nat} (h : byAt cc pc 8) : decode cc pc = .ok (.iconst 5, 1) := dec_of (q := pc + 1) ((rd_bind h.u1).trans rfl) (by omega)
theorem by_lconst0 {cc : ByteArray} {pc : Nat} (h : byAt cc pc 9) : decode cc pc = .ok (.lconst 0, 1) := dec_of (q := pc + 1) ((rd_bind h.u1).trans rfl) (by omega)
theorem by_lconst1 {cc : ByteArray} {pc : Nat} (h : byAt cc pc 10) : decode cc pc = .ok (.lconst 1, 1) := dec_of (q := pc + 1) ((rd_bind h.u1).trans rfl) (by omega)
theorem by_dconst0 {cc : ByteArray} {pc : Nat} (h : byAt cc pc 14) : decode cc pc = .ok (.dconst 0, 1) := dec_of (q := pc + 1) ((rd_bind h.u1).trans rfl) (by omega)
theorem by_dconst1 {cc : ByteArray} {pc : Nat} (h : byAt cc pc 15) : decode cc pc = .ok (.dconst 1, 1) := dec_of (q := pc + 1) ((rd_bind h.u1).trans rfl) (by omega)
theorem by_iload_n0 {cc : ByteArray} {pc : Nat} (h : byAt cc pc 26) : decode cc pc = .ok (.iload_n 0, 1) := dec_of (q := pc + 1) ((rd_bind h.u1).trans rfl) (by omega)
theorem by_iload_n1 {cc : ByteArray} {pc : Nat} (h : byAt cc pc 27) : decode cc pc = .ok (.iload_n 1, 1) := dec_of (q := pc + 1) ((rd_bind h.u1).trans rfl) (by omega)
theorem by_iload_n2 {cc : ByteArray} {pc : Nat} (h : byAt cc pc 28) : decode cc pc = .ok (.iload_n 2, 1) := dec_of (q := pc + 1) ((rd_bind h.u1).trans rfl) (by omega)
theorem by_iload_n3 {cc : ByteArray} {pc : Nat} (h : byAt cc pc 29) : decode cc pc = .ok (.iload_n 3, 1) := dec_of (q := pc + 1) ((rd_bind h.u1).trans rfl) (by omega)
theorem by_lload_n0 {cc : ByteArray} {pc : Nat} (h : byAt cc pc 30) : decode cc pc = .ok (.lload_n 0, 1) := dec_of (q := pc + 1) ((rd_bind h.u1).trans rfl) (by omega)
theorem by_lload_n1 {cc : ByteArray} {pc : Nat} (h : byAt cc pc 31) : decode cc pc = .ok (.lload_n 1, 1) := dec_of (q := pc + 1) ((rd_bind h.u1).trans rfl) (by omega)
theorem by_lload_n2 {cc : ByteArray} {pc : Nat} (h : byAt cc pc 32) : decode cc pc = .ok (.lload_n 2, 1) := dec_of (q := pc + 1) ((rd_bind h.u1).trans rfl) (by omega)
theorem by_lload_n3 {cc : ByteArray} {pc : Nat} (h : byAt cc pc 33) : decode cc pc = .ok (.lload_n 3, 1) := dec_of (q := pc + 1) ((rd_bind h.u1).trans rfl) (by omega)
theorem by_aload_n0 {cc : ByteArray} {pc : Nat} (h : byAt cc pc 42) : decode cc pc = .ok (.aload_n 0, 1) := dec_of (q := pc + 1) ((rd_bind h.u1).trans rfl) (by omega)
theorem by_aload_n1 {cc : ByteArray} {pc : Nat} (h : byAt cc pc 43) : decode cc pc = .ok (.aload_n 1, 1) := dec_of (q := pc + 1) ((rd_bind h.u1).trans rfl) (by omega)
theorem by_aload_n2 {cc : ByteArray} {pc : Nat} (h : byAt cc pc 44) : decode cc pc = .ok (.aload_n 2, 1) := dec_of (q := pc + 1) ((rd_bind h.u1).trans rfl) (by omega)
theorem by_aload_n3 {cc : ByteArray} {pc : Nat} (h : byAt cc pc 45) : decode cc pc = .ok (.aload_n 3, 1) := dec_of (q := pc + 1) ((rd_bind h.u1).trans rfl) (by omega)
theorem by_istore_n0 {cc : ByteArray} {pc : Nat} (h : byAt cc pc 59) : decode cc pc = .ok (.istore_n 0, 1) := dec_of (q := pc + 1) ((rd_bind h.u1).trans rfl) (by omega)
theorem by_istore_n1 {cc : ByteArray} {pc : Nat} (h : byAt cc pc 60) : decode cc pc = .ok (.istore_n 1, 1) := dec_of (q := pc + 1) ((rd_bind h.u1).trans rfl) (by omega)
theorem by_istore_n2 {cc : ByteArray} {pc : Nat} (h : byAt cc pc 61) : decode cc pc = .ok (.istore_n 2, 1) := dec_of (q := pc + 1) ((rd_bind h.u1).trans rfl) (by omega)
theorem by_istore_n3 {cc : ByteArray} {pc : Nat} (h : byAt cc pc 62) : decode cc pc = .ok (.istore_n 3, 1) := dec_of (q := pc + 1) ((rd_bind h.u1).trans rfl) (by omega)
theorem by_lstore_n0 {cc : ByteArray} {pc : Nat} (h : byAt cc pc 63) : decode cc pc = .ok (.lstore_n 0, 1) := dec_of (q := pc + 1) ((rd_bind h.u1).trans rfl) (by omega)
theorem by_lstore_n1 {cc : ByteArray} {pc : Nat} (h : byAt cc pc 64) : decode cc pc = .ok (.lstore_n 1, 1) := dec_of (q := pc + 1) ((rd_bind h.u1).trans rfl) (by omega)
theorem by_lstore_n2 {cc : ByteArray} {pc : Nat} (h : byAt cc pc 65) : decode cc pc = .ok (.lstore_n 2, 1) := dec_of (q := pc + 1) ((rd_bind h.u1).trans rfl) (by omega)
theorem by_lstore_n3 {cc : ByteArray} {pc : Nat} (h : byAt cc pc 66) : decode cc pc = .ok (.lstore_n 3, 1) := dec_of (q := pc + 1) ((rd_bind h.u1).trans rfl) (by omega)
theorem by_astore_n0 {cc : ByteArray} {pc : Nat} (h : byAt cc pc 75) : decode cc pc = .ok (.astore_n 0, 1) := dec_of (q := pc + 1) ((rd_bind h.u1).trans rfl) (by omega)
theorem by_astore_n1 {cc : ByteArray} {pc : Nat} (h : byAt cc pc 76) : decode cc pc = .ok (.astore_n 1, 1) := dec_of (q := pc + 1) ((rd_bind h.u1).trans rfl) (by omega)
theorem by_astore_n2 {cc : ByteArray} {pc : Nat} (h : byAt cc pc 77) : decode cc pc = .ok (.astore_n 2, 1) := dec_of (q := pc + 1) ((rd_bind h.u1).trans rfl) (by omega)
theorem by_astore_n3 {cc : ByteArray} {pc : Nat} (h : byAt cc pc 78) : decode cc pc = .ok (.astore_n 3, 1) := dec_of (q := pc + 1) ((rd_bind h.u1).trans rfl) (by omega)
theorem by_dcmp0 {cc : ByteArray} {pc : Nat} (h : byAt cc pc 151) : decode cc pc = .ok (.dcmp .l, 1) := dec_of (q := pc + 1) ((rd_bind h.u1).trans rfl) (by omega)
theorem by_dcmp1 {cc : ByteArray} {pc : Nat} (h : byAt cc pc 152) : decode cc pc = .ok (.dcmp .g, 1) := dec_of (q := pc + 1) ((rd_bind h.u1).trans rfl) (by omega)
theorem by_new_boolean {cc : ByteArray} {pc : Nat} (h : byAt cc pc 188) (h1 : byAt cc (pc + 1) 4) : decode cc pc = .ok (.newarray .boolean, 2) := dec_of (q := pc + 2) ((rd_bind h.u1).trans ((show (Decoder.newarray pc) cc (pc + 1) = _ from (rd_bind h1.u1).trans rfl))) (by omega)
theorem by_new_char {cc : ByteArray} {pc : Nat} (h : byAt cc pc 188) (h1 : byAt cc (pc + 1) 5) : decode cc pc = .ok (.newarray .char, 2) := dec_of (q := pc + 2) ((rd_bind h.u1).trans ((show (Decoder.newarray pc) cc (pc + 1) = _ from (rd_bind h1.u1).trans rfl))) (by omega)
theorem by_new_float {cc : ByteArray} {pc : Nat} (h : byAt cc pc 188) (h1 : byAt cc (pc + 1) 6) : decode cc pc = .ok (.newarray .float, 2) := dec_of (q := pc + 2) ((rd_bind h.u1).trans ((show (Decoder.newarray pc) cc (pc + 1) = _ from (rd_bind h1.u1).trans rfl))) (by omega)
theorem by_new_double {cc : ByteArray} {pc : Nat} (h : byAt cc pc 188) (h1 : byAt cc (pc + 1) 7) : decode cc pc = .ok (.newarray .double, 2) := dec_of (q := pc + 2) ((rd_bind h.u1).trans ((show (Decoder.newarray pc) cc (pc + 1) = _ from (rd_bind h1.u1).trans rfl))) (by omega)
theorem by_new_byte {cc : ByteArray} {pc : Nat} (h : byAt cc pc 188) (h1 : byAt cc (pc + 1) 8) : decode cc pc = .ok (.newarray .byte, 2) := dec_of (q := pc + 2) ((rd_bind h.u1).trans ((show (Decoder.newarray pc) cc (pc + 1) = _ from (rd_bind h1.u1).trans rfl))) (by omega)
theorem by_new_short {cc : ByteArray} {pc : Nat} (h : byAt cc pc 188) (h1 : byAt cc (pc + 1) 9) : decode cc pc = .ok (.newarray .short, 2) := dec_of (q := pc + 2) ((rd_bind h.u1).trans ((show (Decoder.newarray pc) cc (pc + 1) = _ from (rd_bind h1.u1).trans rfl))) (by omega)
theorem by_new_int {cc : ByteArray} {pc : Nat} (h : byAt cc pc 188) (h1 : byAt cc (pc + 1) 10) : decode cc pc = .ok (.newarray .int, 2) := dec_of (q := pc + 2) ((rd_bind h.u1).trans ((show (Decoder.newarray pc) cc (pc + 1) = _ from (rd_bind h1.u1).trans rfl))) (by omega)
theorem by_new_long {cc : ByteArray} {pc : Nat} (h : byAt cc pc 188) (h1 : byAt cc (pc + 1) 11) : decode cc pc = .ok (.newarray .long, 2) := dec_of (q := pc + 2) ((rd_bind h.u1).trans ((show (Decoder.newarray pc) cc (pc + 1) = _ from (rd_bind h1.u1).trans rfl))) (by omega)
theorem by_multi {cc : ByteArray} {pc : Nat} {i d : Nat} (hd : Nat.beq d 0 = false) (h : byAt cc pc 197) (h1 : byAt cc (pc + 1) (i / 256)) (h2 : byAt cc (pc + 2) (i % 256)) (h3 : byAt cc (pc + 3) d) : decode cc pc = .ok (.multianewarray i d, 4) := by
  have hd : d ≠ 0 := fun e => by rw [e] at hd; cases hd
  refine dec_of (q := pc + 4) ((rd_bind h.u1).trans (show (Decoder.multianewarray pc) cc (pc + 1) = _ from (rd_bind (byAt.u2 h1 h2)).trans ((rd_bind h3.u1).trans ?_))) (by omega)
  have e : (d != 0) = true := by simp [hd]
  rw [e]
  rfl
theorem by_iface {cc : ByteArray} {pc : Nat} {i n : Nat} (hn : Nat.beq n 0 = false) (h : byAt cc pc 185) (h1 : byAt cc (pc + 1) (i / 256)) (h2 : byAt cc (pc + 2) (i % 256)) (h3 : byAt cc (pc + 3) n) (h4 : byAt cc (pc + 4) 0) : decode cc pc = .ok (.invokeinterface i n, 5) := by
  have hn : n ≠ 0 := fun e => by rw [e] at hn; cases hn
  refine dec_of (q := pc + 5) ((rd_bind h.u1).trans (show (Decoder.invokeinterface pc) cc (pc + 1) = _ from (rd_bind (byAt.u2 h1 h2)).trans ((rd_bind h3.u1).trans ((rd_bind h4.u1).trans ?_)))) (by omega)
  have e : (n != 0 && (0 : Nat) == 0) = true := by simp [hn]
  rw [e]
  rfl
theorem omap {α β : Type} {x : Option α} {f : α → β} {w : β} (h : x.map f = some w) : ∃ l, x = some l ∧ f l = w := by
  cases x with
  | none => cases h
  | some l => exact ⟨l, rfl, Option.some.inj h⟩
theorem oite {α : Type} {b : Bool} {w z : α} (h : (if b = true then none else some z) = some w) : b = false ∧ some z = some w := by
  cases b with
  | false => exact ⟨rfl, h⟩
  | true => cases h
/-- the bytes of an instruction (switches aside) -/
def renc (i : Instr) : Option (List Nat) := match i with
  | .iaload => some [46]
  | .laload => some [47]
  | .aaload => some [50]
  | .baload => some [51]
  | .caload => some [52]
  | .iastore => some [79]
  | .lastore => some [80]
  | .aastore => some [83]
  | .bastore => some [84]
  | .castore => some [85]
  | .pop => some [87]
  | .dup => some [89]
  | .dup_x1 => some [90]
  | .dup2 => some [92]
  | .iadd => some [96]
  | .ladd => some [97]
  | .isub => some [100]
  | .imul => some [104]
  | .lmul => some [105]
  | .idiv => some [108]
  | .fdiv => some [110]
  | .irem => some [112]
  | .ineg => some [116]
  | .ishl => some [120]
  | .ishr => some [122]
  | .iushr => some [124]
  | .iand => some [126]
  | .ior => some [128]
  | .ixor => some [130]
  | .i2l => some [133]
  | .i2f => some [134]
  | .f2d => some [141]
  | .i2b => some [145]
  | .i2c => some [146]
  | .lcmp => some [148]
  | .ireturn => some [172]
  | .lreturn => some [173]
  | .freturn => some [174]
  | .dreturn => some [175]
  | .areturn => some [176]
  | .return_ => some [177]
  | .arraylength => some [190]
  | .athrow => some [191]
  | .aconst_null => some [1]
  | .ldc i => some [18, i]
  | .iload i => some [21, i]
  | .lload i => some [22, i]
  | .dload i => some [24, i]
  | .aload i => some [25, i]
  | .istore i => some [54, i]
  | .lstore i => some [55, i]
  | .dstore i => some [57, i]
  | .astore i => some [58, i]
  | .ldc_w i => some [19, i / 256, i % 256]
  | .ldc2_w i => some [20, i / 256, i % 256]
  | .getstatic i => some [178, i / 256, i % 256]
  | .getfield i => some [180, i / 256, i % 256]
  | .putfield i => some [181, i / 256, i % 256]
  | .invokevirtual i => some [182, i / 256, i % 256]
  | .invokespecial i => some [183, i / 256, i % 256]
  | .invokestatic i => some [184, i / 256, i % 256]
  | .new i => some [187, i / 256, i % 256]
  | .anewarray i => some [189, i / 256, i % 256]
  | .checkcast i => some [192, i / 256, i % 256]
  | .goto n => (rs2 n).map (fun l => 167 :: l)
  | .ifnull n => (rs2 n).map (fun l => 198 :: l)
  | .ifnonnull n => (rs2 n).map (fun l => 199 :: l)
  | .sipush n => (rs2 n).map (fun l => 17 :: l)
  | .ifCond .eq n => (rs2 n).map (fun l => 153 :: l)
  | .if_icmp .eq n => (rs2 n).map (fun l => 159 :: l)
  | .ifCond .ne n => (rs2 n).map (fun l => 154 :: l)
  | .if_icmp .ne n => (rs2 n).map (fun l => 160 :: l)
  | .ifCond .lt n => (rs2 n).map (fun l => 155 :: l)
  | .if_icmp .lt n => (rs2 n).map (fun l => 161 :: l)
  | .ifCond .ge n => (rs2 n).map (fun l => 156 :: l)
  | .if_icmp .ge n => (rs2 n).map (fun l => 162 :: l)
  | .ifCond .gt n => (rs2 n).map (fun l => 157 :: l)
  | .if_icmp .gt n => (rs2 n).map (fun l => 163 :: l)
  | .ifCond .le n => (rs2 n).map (fun l => 158 :: l)
  | .if_icmp .le n => (rs2 n).map (fun l => 164 :: l)
  | .if_acmp .eq n => (rs2 n).map (fun l => 165 :: l)
  | .if_acmp .ne n => (rs2 n).map (fun l => 166 :: l)
  | .bipush n => (rs1 n).map (fun x => [16, x])
  | .iinc i n => (rs1 n).map (fun x => [132, i, x])
  | .iconst (.negSucc 0) => some [2]
  | .iconst (.ofNat 0) => some [3]
  | .iconst (.ofNat 1) => some [4]
  | .iconst (.ofNat 2) => some [5]
  | .iconst (.ofNat 3) => some [6]
  | .iconst (.ofNat 4) => some [7]
  | .iconst (.ofNat 5) => some [8]
  | .lconst 0 => some [9]
  | .lconst 1 => some [10]
  | .dconst 0 => some [14]
  | .dconst 1 => some [15]
  | .iload_n 0 => some [26]
  | .iload_n 1 => some [27]
  | .iload_n 2 => some [28]
  | .iload_n 3 => some [29]
  | .lload_n 0 => some [30]
  | .lload_n 1 => some [31]
  | .lload_n 2 => some [32]
  | .lload_n 3 => some [33]
  | .aload_n 0 => some [42]
  | .aload_n 1 => some [43]
  | .aload_n 2 => some [44]
  | .aload_n 3 => some [45]
  | .istore_n 0 => some [59]
  | .istore_n 1 => some [60]
  | .istore_n 2 => some [61]
  | .istore_n 3 => some [62]
  | .lstore_n 0 => some [63]
  | .lstore_n 1 => some [64]
  | .lstore_n 2 => some [65]
  | .lstore_n 3 => some [66]
  | .astore_n 0 => some [75]
  | .astore_n 1 => some [76]
  | .astore_n 2 => some [77]
  | .astore_n 3 => some [78]
  | .dcmp .l => some [151]
  | .dcmp .g => some [152]
  | .newarray .boolean => some [188, 4]
  | .newarray .char => some [188, 5]
  | .newarray .float => some [188, 6]
  | .newarray .double => some [188, 7]
  | .newarray .byte => some [188, 8]
  | .newarray .short => some [188, 9]
  | .newarray .int => some [188, 10]
  | .newarray .long => some [188, 11]
  | .multianewarray i d => if Nat.beq d 0 then none else some [197, i / 256, i % 256, d]
  | .invokeinterface i n => if Nat.beq n 0 then none else some [185, i / 256, i % 256, n, 0]
  | _ => none
set_option maxHeartbeats 2000000 in
theorem renc_ok {cc : ByteArray} {pc : Nat} {w : List Nat} (hb : ∀ j x, w[j]? = some x → byAt cc (pc + j) x) {i : Instr} (h : renc i = some w) : decode cc pc = .ok (i, w.length) := by
  unfold renc at h
  split at h
  · cases h; exact by_iaload (hb 0 _ rfl)
  · cases h; exact by_laload (hb 0 _ rfl)
  · cases h; exact by_aaload (hb 0 _ rfl)
  · cases h; exact by_baload (hb 0 _ rfl)
  · cases h; exact by_caload (hb 0 _ rfl)
  · cases h; exact by_iastore (hb 0 _ rfl)
  · cases h; exact by_lastore (hb 0 _ rfl)
  · cases h; exact by_aastore (hb 0 _ rfl)
  · cases h; exact by_bastore (hb 0 _ rfl)
  · cases h; exact by_castore (hb 0 _ rfl)
  · cases h; exact by_pop (hb 0 _ rfl)
  · cases h; exact by_dup (hb 0 _ rfl)
  · cases h; exact by_dup_x1 (hb 0 _ rfl)
  · cases h; exact by_dup2 (hb 0 _ rfl)
  · cases h; exact by_iadd (hb 0 _ rfl)
  · cases h; exact by_ladd (hb 0 _ rfl)
  · cases h; exact by_isub (hb 0 _ rfl)
  · cases h; exact by_imul (hb 0 _ rfl)
  · cases h; exact by_lmul (hb 0 _ rfl)
  · cases h; exact by_idiv (hb 0 _ rfl)
  · cases h; exact by_fdiv (hb 0 _ rfl)
  · cases h; exact by_irem (hb 0 _ rfl)
  · cases h; exact by_ineg (hb 0 _ rfl)
  · cases h; exact by_ishl (hb 0 _ rfl)
  · cases h; exact by_ishr (hb 0 _ rfl)
  · cases h; exact by_iushr (hb 0 _ rfl)
  · cases h; exact by_iand (hb 0 _ rfl)
  · cases h; exact by_ior (hb 0 _ rfl)
  · cases h; exact by_ixor (hb 0 _ rfl)
  · cases h; exact by_i2l (hb 0 _ rfl)
  · cases h; exact by_i2f (hb 0 _ rfl)
  · cases h; exact by_f2d (hb 0 _ rfl)
  · cases h; exact by_i2b (hb 0 _ rfl)
  · cases h; exact by_i2c (hb 0 _ rfl)
  · cases h; exact by_lcmp (hb 0 _ rfl)
  · cases h; exact by_ireturn (hb 0 _ rfl)
  · cases h; exact by_lreturn (hb 0 _ rfl)
  · cases h; exact by_freturn (hb 0 _ rfl)
  · cases h; exact by_dreturn (hb 0 _ rfl)
  · cases h; exact by_areturn (hb 0 _ rfl)
  · cases h; exact by_return_ (hb 0 _ rfl)
  · cases h; exact by_arraylength (hb 0 _ rfl)
  · cases h; exact by_athrow (hb 0 _ rfl)
  · cases h; exact by_aconst_null (hb 0 _ rfl)
  · cases h; exact by_ldc (hb 0 _ rfl) (hb 1 _ rfl)
  · cases h; exact by_iload (hb 0 _ rfl) (hb 1 _ rfl)
  · cases h; exact by_lload (hb 0 _ rfl) (hb 1 _ rfl)
  · cases h; exact by_dload (hb 0 _ rfl) (hb 1 _ rfl)
  · cases h; exact by_aload (hb 0 _ rfl) (hb 1 _ rfl)
  · cases h; exact by_istore (hb 0 _ rfl) (hb 1 _ rfl)
  · cases h; exact by_lstore (hb 0 _ rfl) (hb 1 _ rfl)
  · cases h; exact by_dstore (hb 0 _ rfl) (hb 1 _ rfl)
  · cases h; exact by_astore (hb 0 _ rfl) (hb 1 _ rfl)
  · cases h; exact by_ldc_w (hb 0 _ rfl) (hb 1 _ rfl) (hb 2 _ rfl)
  · cases h; exact by_ldc2_w (hb 0 _ rfl) (hb 1 _ rfl) (hb 2 _ rfl)
  · cases h; exact by_getstatic (hb 0 _ rfl) (hb 1 _ rfl) (hb 2 _ rfl)
  · cases h; exact by_getfield (hb 0 _ rfl) (hb 1 _ rfl) (hb 2 _ rfl)
  · cases h; exact by_putfield (hb 0 _ rfl) (hb 1 _ rfl) (hb 2 _ rfl)
  · cases h; exact by_invokevirtual (hb 0 _ rfl) (hb 1 _ rfl) (hb 2 _ rfl)
  · cases h; exact by_invokespecial (hb 0 _ rfl) (hb 1 _ rfl) (hb 2 _ rfl)
  · cases h; exact by_invokestatic (hb 0 _ rfl) (hb 1 _ rfl) (hb 2 _ rfl)
  · cases h; exact by_new (hb 0 _ rfl) (hb 1 _ rfl) (hb 2 _ rfl)
  · cases h; exact by_anewarray (hb 0 _ rfl) (hb 1 _ rfl) (hb 2 _ rfl)
  · cases h; exact by_checkcast (hb 0 _ rfl) (hb 1 _ rfl) (hb 2 _ rfl)
  · obtain ⟨l, hl, e⟩ := omap h
    subst e
    have e3 : l.length = 2 := by obtain ⟨i, rfl, -⟩ := rs2_ok hl; rfl
    rw [List.length_cons, e3]
    exact by_goto hl (hb 0 _ rfl) (fun j x hx => by have := hb (j + 1) x hx; rw [show pc + (j + 1) = pc + 1 + j by omega] at this; exact this)
  · obtain ⟨l, hl, e⟩ := omap h
    subst e
    have e3 : l.length = 2 := by obtain ⟨i, rfl, -⟩ := rs2_ok hl; rfl
    rw [List.length_cons, e3]
    exact by_ifnull hl (hb 0 _ rfl) (fun j x hx => by have := hb (j + 1) x hx; rw [show pc + (j + 1) = pc + 1 + j by omega] at this; exact this)
  · obtain ⟨l, hl, e⟩ := omap h
    subst e
    have e3 : l.length = 2 := by obtain ⟨i, rfl, -⟩ := rs2_ok hl; rfl
    rw [List.length_cons, e3]
    exact by_ifnonnull hl (hb 0 _ rfl) (fun j x hx => by have := hb (j + 1) x hx; rw [show pc + (j + 1) = pc + 1 + j by omega] at this; exact this)
  · obtain ⟨l, hl, e⟩ := omap h
    subst e
    have e3 : l.length = 2 := by obtain ⟨i, rfl, -⟩ := rs2_ok hl; rfl
    rw [List.length_cons, e3]
    exact by_sipush hl (hb 0 _ rfl) (fun j x hx => by have := hb (j + 1) x hx; rw [show pc + (j + 1) = pc + 1 + j by omega] at this; exact this)
  · obtain ⟨l, hl, e⟩ := omap h
    subst e
    have e3 : l.length = 2 := by obtain ⟨i, rfl, -⟩ := rs2_ok hl; rfl
    rw [List.length_cons, e3]
    exact by_if_eq hl (hb 0 _ rfl) (fun j x hx => by have := hb (j + 1) x hx; rw [show pc + (j + 1) = pc + 1 + j by omega] at this; exact this)
  · obtain ⟨l, hl, e⟩ := omap h
    subst e
    have e3 : l.length = 2 := by obtain ⟨i, rfl, -⟩ := rs2_ok hl; rfl
    rw [List.length_cons, e3]
    exact by_icmp_eq hl (hb 0 _ rfl) (fun j x hx => by have := hb (j + 1) x hx; rw [show pc + (j + 1) = pc + 1 + j by omega] at this; exact this)
  · obtain ⟨l, hl, e⟩ := omap h
    subst e
    have e3 : l.length = 2 := by obtain ⟨i, rfl, -⟩ := rs2_ok hl; rfl
    rw [List.length_cons, e3]
    exact by_if_ne hl (hb 0 _ rfl) (fun j x hx => by have := hb (j + 1) x hx; rw [show pc + (j + 1) = pc + 1 + j by omega] at this; exact this)
  · obtain ⟨l, hl, e⟩ := omap h
    subst e
    have e3 : l.length = 2 := by obtain ⟨i, rfl, -⟩ := rs2_ok hl; rfl
    rw [List.length_cons, e3]
    exact by_icmp_ne hl (hb 0 _ rfl) (fun j x hx => by have := hb (j + 1) x hx; rw [show pc + (j + 1) = pc + 1 + j by omega] at this; exact this)
  · obtain ⟨l, hl, e⟩ := omap h
    subst e
    have e3 : l.length = 2 := by obtain ⟨i, rfl, -⟩ := rs2_ok hl; rfl
    rw [List.length_cons, e3]
    exact by_if_lt hl (hb 0 _ rfl) (fun j x hx => by have := hb (j + 1) x hx; rw [show pc + (j + 1) = pc + 1 + j by omega] at this; exact this)
  · obtain ⟨l, hl, e⟩ := omap h
    subst e
    have e3 : l.length = 2 := by obtain ⟨i, rfl, -⟩ := rs2_ok hl; rfl
    rw [List.length_cons, e3]
    exact by_icmp_lt hl (hb 0 _ rfl) (fun j x hx => by have := hb (j + 1) x hx; rw [show pc + (j + 1) = pc + 1 + j by omega] at this; exact this)
  · obtain ⟨l, hl, e⟩ := omap h
    subst e
    have e3 : l.length = 2 := by obtain ⟨i, rfl, -⟩ := rs2_ok hl; rfl
    rw [List.length_cons, e3]
    exact by_if_ge hl (hb 0 _ rfl) (fun j x hx => by have := hb (j + 1) x hx; rw [show pc + (j + 1) = pc + 1 + j by omega] at this; exact this)
  · obtain ⟨l, hl, e⟩ := omap h
    subst e
    have e3 : l.length = 2 := by obtain ⟨i, rfl, -⟩ := rs2_ok hl; rfl
    rw [List.length_cons, e3]
    exact by_icmp_ge hl (hb 0 _ rfl) (fun j x hx => by have := hb (j + 1) x hx; rw [show pc + (j + 1) = pc + 1 + j by omega] at this; exact this)
  · obtain ⟨l, hl, e⟩ := omap h
    subst e
    have e3 : l.length = 2 := by obtain ⟨i, rfl, -⟩ := rs2_ok hl; rfl
    rw [List.length_cons, e3]
    exact by_if_gt hl (hb 0 _ rfl) (fun j x hx => by have := hb (j + 1) x hx; rw [show pc + (j + 1) = pc + 1 + j by omega] at this; exact this)
  · obtain ⟨l, hl, e⟩ := omap h
    subst e
    have e3 : l.length = 2 := by obtain ⟨i, rfl, -⟩ := rs2_ok hl; rfl
    rw [List.length_cons, e3]
    exact by_icmp_gt hl (hb 0 _ rfl) (fun j x hx => by have := hb (j + 1) x hx; rw [show pc + (j + 1) = pc + 1 + j by omega] at this; exact this)
  · obtain ⟨l, hl, e⟩ := omap h
    subst e
    have e3 : l.length = 2 := by obtain ⟨i, rfl, -⟩ := rs2_ok hl; rfl
    rw [List.length_cons, e3]
    exact by_if_le hl (hb 0 _ rfl) (fun j x hx => by have := hb (j + 1) x hx; rw [show pc + (j + 1) = pc + 1 + j by omega] at this; exact this)
  · obtain ⟨l, hl, e⟩ := omap h
    subst e
    have e3 : l.length = 2 := by obtain ⟨i, rfl, -⟩ := rs2_ok hl; rfl
    rw [List.length_cons, e3]
    exact by_icmp_le hl (hb 0 _ rfl) (fun j x hx => by have := hb (j + 1) x hx; rw [show pc + (j + 1) = pc + 1 + j by omega] at this; exact this)
  · obtain ⟨l, hl, e⟩ := omap h
    subst e
    have e3 : l.length = 2 := by obtain ⟨i, rfl, -⟩ := rs2_ok hl; rfl
    rw [List.length_cons, e3]
    exact by_acmp_eq hl (hb 0 _ rfl) (fun j x hx => by have := hb (j + 1) x hx; rw [show pc + (j + 1) = pc + 1 + j by omega] at this; exact this)
  · obtain ⟨l, hl, e⟩ := omap h
    subst e
    have e3 : l.length = 2 := by obtain ⟨i, rfl, -⟩ := rs2_ok hl; rfl
    rw [List.length_cons, e3]
    exact by_acmp_ne hl (hb 0 _ rfl) (fun j x hx => by have := hb (j + 1) x hx; rw [show pc + (j + 1) = pc + 1 + j by omega] at this; exact this)
  · obtain ⟨x, hl, e⟩ := omap h; subst e; exact by_bipush hl (hb 0 _ rfl) (hb 1 _ rfl)
  · obtain ⟨x, hl, e⟩ := omap h; subst e; exact by_iinc hl (hb 0 _ rfl) (hb 1 _ rfl) (hb 2 _ rfl)
  · cases h; exact by_iconst0 (hb 0 _ rfl)
  · cases h; exact by_iconst1 (hb 0 _ rfl)
  · cases h; exact by_iconst2 (hb 0 _ rfl)
  · cases h; exact by_iconst3 (hb 0 _ rfl)
  · cases h; exact by_iconst4 (hb 0 _ rfl)
  · cases h; exact by_iconst5 (hb 0 _ rfl)
  · cases h; exact by_iconst6 (hb 0 _ rfl)
  · cases h; exact by_lconst0 (hb 0 _ rfl)
  · cases h; exact by_lconst1 (hb 0 _ rfl)
  · cases h; exact by_dconst0 (hb 0 _ rfl)
  · cases h; exact by_dconst1 (hb 0 _ rfl)
  · cases h; exact by_iload_n0 (hb 0 _ rfl)
  · cases h; exact by_iload_n1 (hb 0 _ rfl)
  · cases h; exact by_iload_n2 (hb 0 _ rfl)
  · cases h; exact by_iload_n3 (hb 0 _ rfl)
  · cases h; exact by_lload_n0 (hb 0 _ rfl)
  · cases h; exact by_lload_n1 (hb 0 _ rfl)
  · cases h; exact by_lload_n2 (hb 0 _ rfl)
  · cases h; exact by_lload_n3 (hb 0 _ rfl)
  · cases h; exact by_aload_n0 (hb 0 _ rfl)
  · cases h; exact by_aload_n1 (hb 0 _ rfl)
  · cases h; exact by_aload_n2 (hb 0 _ rfl)
  · cases h; exact by_aload_n3 (hb 0 _ rfl)
  · cases h; exact by_istore_n0 (hb 0 _ rfl)
  · cases h; exact by_istore_n1 (hb 0 _ rfl)
  · cases h; exact by_istore_n2 (hb 0 _ rfl)
  · cases h; exact by_istore_n3 (hb 0 _ rfl)
  · cases h; exact by_lstore_n0 (hb 0 _ rfl)
  · cases h; exact by_lstore_n1 (hb 0 _ rfl)
  · cases h; exact by_lstore_n2 (hb 0 _ rfl)
  · cases h; exact by_lstore_n3 (hb 0 _ rfl)
  · cases h; exact by_astore_n0 (hb 0 _ rfl)
  · cases h; exact by_astore_n1 (hb 0 _ rfl)
  · cases h; exact by_astore_n2 (hb 0 _ rfl)
  · cases h; exact by_astore_n3 (hb 0 _ rfl)
  · cases h; exact by_dcmp0 (hb 0 _ rfl)
  · cases h; exact by_dcmp1 (hb 0 _ rfl)
  · cases h; exact by_new_boolean (hb 0 _ rfl) (hb 1 _ rfl)
  · cases h; exact by_new_char (hb 0 _ rfl) (hb 1 _ rfl)
  · cases h; exact by_new_float (hb 0 _ rfl) (hb 1 _ rfl)
  · cases h; exact by_new_double (hb 0 _ rfl) (hb 1 _ rfl)
  · cases h; exact by_new_byte (hb 0 _ rfl) (hb 1 _ rfl)
  · cases h; exact by_new_short (hb 0 _ rfl) (hb 1 _ rfl)
  · cases h; exact by_new_int (hb 0 _ rfl) (hb 1 _ rfl)
  · cases h; exact by_new_long (hb 0 _ rfl) (hb 1 _ rfl)
  · obtain ⟨hc, h⟩ := oite h; cases h; exact by_multi hc (hb 0 _ rfl) (hb 1 _ rfl) (hb 2 _ rfl) (hb 3 _ rfl)
  · obtain ⟨hc, h⟩ := oite h; cases h; exact by_iface hc (hb 0 _ rfl) (hb 1 _ rfl) (hb 2 _ rfl) (hb 3 _ rfl) (hb 4 _ rfl)
  · cases h
/-! the walk -/
/-- the bytes w at the head of L -/
def rpre : List Nat → List UInt8 → Bool
  | [], _ => true
  | _ :: _, [] => false
  | x :: w, y :: L => Nat.beq y.toNat x && rpre w L
def rskip : Nat → List UInt8 → (List UInt8 → Bool) → Bool
  | 0, L, k => k L
  | _ + 1, [], _ => false
  | n + 1, _ :: L, k => rskip n L k
def rwalk (P : rEl → List UInt8 → Bool) : rCode → Nat → List UInt8 → Bool
  | [], _, _ => true
  | el :: t, pc, L => Nat.beq el.2.1 pc && (P el L && rskip (rilen el) L (fun L' => rwalk P t (pc + rilen el) L'))
/-- the bytes from a place on -/
def byFrom (cc : ByteArray) (p : Nat) (L : List UInt8) : Prop := cc.data.toList.drop p = L
theorem rpre_ok {cc : ByteArray} : ∀ (w : List Nat) (L : List UInt8) (p : Nat), byFrom cc p L → rpre w L = true → ∀ j x, w[j]? = some x → byAt cc (p + j) x := by
  intro w
  induction w with
  | nil => intro L p _ _ j x h; cases h
  | cons y w ih =>
    intro L p hL hr j x hx
    cases L with
    | nil => cases hr
    | cons z L =>
      have hr : (Nat.beq z.toNat y && rpre w L) = true := hr
      rw [Bool.and_eq_true] at hr
      have hz : cc.data.toList[p]? = some z := by
        have := congrArg (fun l => l[0]?) hL
        simpa using this
      cases j with
      | zero =>
        cases hx
        have hp : p < cc.data.toList.length := (List.getElem?_eq_some_iff.mp hz).1
        refine ⟨by simpa using hp, ?_⟩
        have e : cc[p]'(by simpa using hp) = z := by
          have := (List.getElem?_eq_some_iff.mp hz).2
          simp only [Array.getElem_toList] at this
          exact this
        simp only [Nat.add_zero]
        rw [e]
        exact beq_eq hr.1
      | succ j =>
        have := ih L (p + 1) (by unfold byFrom at hL ⊢; rw [← List.drop_drop, hL]; rfl) hr.2 j x hx
        rw [show p + (j + 1) = p + 1 + j by omega]
        exact this
theorem rskip_ok {cc : ByteArray} : ∀ (n : Nat) (L : List UInt8) (p : Nat) (k : List UInt8 → Bool), byFrom cc p L → rskip n L k = true → ∃ L', byFrom cc (p + n) L' ∧ k L' = true := by
  intro n
  induction n with
  | zero => intro L p k hL h; exact ⟨L, hL, h⟩
  | succ n ih =>
    intro L p k hL h
    cases L with
    | nil => cases h
    | cons z L =>
      obtain ⟨L', h1, h2⟩ := ih L (p + 1) k (by unfold byFrom at hL ⊢; rw [← List.drop_drop, hL]; rfl) h
      exact ⟨L', by rw [show p + (n + 1) = p + 1 + n by omega]; exact h1, h2⟩
theorem rwalk_ok {cc : ByteArray} {P : rEl → List UInt8 → Bool} : ∀ (code : rCode) (pc : Nat) (L : List UInt8), byFrom cc pc L → rwalk P code pc L = true →
    (∀ el ∈ code, ∃ L', byFrom cc el.2.1 L' ∧ P el L' = true) ∧ rchain code ∧ ∀ el t, code = el :: t → el.2.1 = pc := by
  intro code
  induction code with
  | nil => intro pc L _ _; exact ⟨fun el h => by (cases h), trivial, fun el t h => by (cases h)⟩
  | cons x t ih =>
    intro pc L hL h
    have h : (Nat.beq x.2.1 pc && (P x L && rskip (rilen x) L (fun L' => rwalk P t (pc + rilen x) L'))) = true := h
    rw [Bool.and_eq_true, Bool.and_eq_true] at h
    obtain ⟨h1, h2, h3⟩ := h
    have h1 : x.2.1 = pc := beq_eq h1
    obtain ⟨L', g1, g2⟩ := rskip_ok _ _ _ _ hL h3
    obtain ⟨i1, i2, i3⟩ := ih _ _ g1 g2
    refine ⟨fun el hel => ?_, ⟨fun e2 t2 e => ?_, i2⟩, fun el t' e => by cases e; exact h1⟩
    · rcases List.mem_cons.mp hel with e | e
      · subst e
        exact ⟨L, by rw [h1]; exact hL, h2⟩
      · exact i1 el e
    · rw [i3 e2 t2 e, h1]

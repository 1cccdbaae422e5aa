/-! THE DISPATCH: what a list of elements must hold to be well, as a function that the kernel runs -/
abbrev rSt : Type := List (String × Nat × String × Nat)
abbrev rSr : Type := List (String × String × String × Nat)
abbrev rSi : Type := List (String × String × String × Int32)
/-- what a world has to say wherever a frame of ours stands -/
def rCx (D : va_G) (tc : Nat → ClassId) (z0 : Nat → Prop) (ξ0 : Nat → Nat) (SS : rSt) (SR : rSr) (SI : rSi) (NC : List (Nat × Nat)) (xn : Nat → String) (U : State) : Prop :=
  va_K D vwCl [] U ∧ rArr U tc rtyA ∧ rTc U tc ∧ rAs U D tc ∧ (∀ w ∈ rnT, va_Nw w U) ∧ (∀ q ∈ SS, vk_R q.1 q.2.1 q.2.2.1 (ξ0 q.2.2.2) U) ∧ (∀ q ∈ SR, va_Z q.1 q.2.1 q.2.2.1 (.ref (ξ0 q.2.2.2)) z0 U U.heap) ∧
  (∀ q ∈ SI, va_Z q.1 q.2.1 q.2.2.1 (.int q.2.2.2) z0 U U.heap) ∧ vx_Zq Bundle.tN "UNASSIGNED_STACK" Bundle.steD z0 U U.heap ∧ vx_Zq Bundle.tN "SUPPRESSED_SENTINEL" Bundle.listD z0 U U.heap ∧ (∀ q ∈ NC, va_Nc (xn q.1) (xn q.2) U)
/-- the room of a call, by the method's number -/
noncomputable def rRm (M : rM) (PP : Nat → Nat × Nat × Nat) (a : Nat) : Room := { frames := (PP a).1, cells := mcel M a, slots := mslo M a, locals := (PP a).2.1 }
/-- what is known of a method that may be called -/
def rMe (mS : Nat → rMS) (PP : Nat → Nat × Nat × Nat) (a : Nat) : Prop := True ∧ (mS a).1.cls ≠ "java/lang/invoke/MethodHandle" ∧ (mS a).1.cls ≠ "java/lang/invoke/VarHandle" ∧ (parseMethodDescriptor (mS a).1.desc).map (fun d => d.parameters.length) = some (PP a).2.2 ∧ rHd (mS a) ∈ gT
def rnatI : MethodName := ⟨"[I", "clone", "()Ljava/lang/Object;"⟩
def rnatO : MethodName := ⟨"java/lang/Object", "clone", "()Ljava/lang/Object;"⟩
/-- the words of the natives -/
def rnW : List Cond := [.static Lib.Math.max.name, .initialized "java/lang/Math", .code Lib.Math.max.name Lib.Math.max.code 2 (some .int), .static Lib.Math.min.name, .code Lib.Math.min.name Lib.Math.min.code 2 (some .int), .static Lib.Math.abs.name, .code Lib.Math.abs.name Lib.Math.abs.code 1 (some .int),
  .native arraycopyName, .static arraycopyName, .initialized "java/lang/System", .instanceMethod Lib.objectInit, .code Lib.objectInit ⟨#[0xb1]⟩ 1 none]
/-- what the tables say, for all frames -/
def rTb (W : Nat → Cond) (mS : Nat → rMS) (PP : Nat → Nat × Nat × Nat) (KT : Nat → Nat → FieldType) (BL : Nat → Nat) (NM : Nat) : Prop :=
  (∀ i, W i ∈ lw_tbl) ∧ (∀ a, a ≤ NM → rMe mS PP a) ∧ (∀ (ci : Nat) (q : vw_C), vwCl[ci]? = some q → rCl ci q.1 q.2.1 q.2.2 (KT ci) ∧ rBlank (BL (ci + 1)) ci q.2.2 (KT ci)) ∧ (∀ w ∈ rnW, w ∈ gT) ∧ True
noncomputable def dCl (a : Nat) : vw_C := (vwCl[a - 1]?).getD ("", fun _ => ("", "", "", false), 0)
theorem dCl_ok {a : Nat} (h1 : 1 ≤ a) (h2 : a ≤ 14) : vwCl[a - 1]? = some (dCl a) := by
  have h : a - 1 < vwCl.length := by
    have : vwCl.length = 14 := rfl
    omega
  unfold dCl
  rw [List.getElem?_eq_getElem h]
  rfl
def wref (w : Cond) : String := match w with
  | .fieldLink _ _ r _ _ => r
  | .fieldLinkNest _ _ r _ _ _ => r
  | _ => ""
def whost (w : Cond) : String := match w with
  | .fieldLinkNest _ _ _ _ _ h => h
  | .methodLinkNest _ _ _ h => h
  | _ => ""
def wcl (w : Cond) : String := match w with
  | .classLink _ _ n => n
  | _ => ""
def wmeth (w : Cond) : MethodName := match w with
  | .methodLink _ _ x => x
  | _ => ⟨"", "", ""⟩
section Checks
variable (W : Nat → Cond) (mS : Nat → rMS) (PP : Nat → Nat × Nat × Nat) (KT : Nat → Nat → FieldType) (M : rM) (NM : Nat) (SS : rSt) (SR : rSr) (SI : rSi) (NC : List (Nat × Nat)) (xn : Nat → String) (HT : List (Nat × Nat × Nat × Nat))
variable (own : String) (R : Room) (mi pc a b : Nat) (tb : List (Nat × Nat))
/-- a field of the class a, at the place b -/
noncomputable def dFld (i p q : Nat) : Bool := Nat.ble 1 a && (Nat.ble a 14 && (Nat.ble ((b - 48) / 72 + 1) (dCl a).2.2 && (Nat.beq b (rsh ((b - 48) / 72)) &&
  ((decide (wref (W p) = ((dCl a).2.1 ((b - 48) / 72)).1) || kw W (.sameField (wref (W p)) ((dCl a).2.1 ((b - 48) / 72)).1 ((dCl a).2.1 ((b - 48) / 72)).2.1 ((dCl a).2.1 ((b - 48) / 72)).2.2.1) q)))))
noncomputable def dLk (i p : Nat) : Bool := kw W (.fieldLink own i (wref (W p)) ((dCl a).2.1 ((b - 48) / 72)).2.1 ((dCl a).2.1 ((b - 48) / 72)).2.2.1) p
noncomputable def dLn (i p : Nat) : Bool := kn W (.fieldLinkNest own i (wref (W p)) ((dCl a).2.1 ((b - 48) / 72)).2.1 ((dCl a).2.1 ((b - 48) / 72)).2.2.1 (whost (W p))) p
def dty (t : Nat) (ty : FieldType) : Bool := match t, ty with
  | 0, .int => true
  | 1, .boolean => true
  | 2, .char => true
  | 3, .long => true
  | 4, .object _ => true
  | 4, .array _ => true
  | 5, .double => true
  | _, _ => false
noncomputable def dPut (meth : String) (i p q : Nat) : Bool := dFld W a b i p q && (dLk W own a b i p && ((!((dCl a).2.1 ((b - 48) / 72)).2.2.2 || (decide (meth = "<init>") && decide (((dCl a).2.1 ((b - 48) / 72)).1 = own))) && dty (rtb tb) (KT (a - 1) ((b - 48) / 72))))
noncomputable def dGet (i p q : Nat) : Bool := dFld W a b i p q && (dLk W own a b i p || dLn W own a b i p)
/-- of a table of handlers: the first entry that covers the call and takes the exception x goes to hp -/
noncomputable def dHnd (x hp : Nat) : List (Nat × Nat × Nat × Nat) → Bool
  | [] => false
  | (s, e, h, ct) :: t => bif (Nat.ble s pc && Nat.ble (pc + 1) e) then
      (match HT.find? (fun q => Nat.beq q.1 ct) with
        | some (_, y, p, p2) => !Nat.beq ct 0 && (kw W (.classLink own ct (xn y)) p && (bif Nat.beq x y then (Nat.beq h hp && kn W (.castable (xn x) (xn x)) p2) else (decide ((x, y) ∈ NC) && dHnd x hp t)))
        | none => false)
    else dHnd x hp t
/-- all handlers of a place of a call -/
noncomputable def dHs (hh : List (Nat × Nat × Nat × Nat)) : Bool := (mhnd M mi).all (fun q => Nat.ble (16 * pc) q.1 && (Nat.beq q.2 0 || dHnd W NC xn HT own pc (q.1 - 16 * pc) (q.2 - 1) hh))
/-- what is common to calls -/
noncomputable def dCm (n : Nat) : Bool := Nat.ble 1 a && (Nat.ble a NM && (Nat.ble NM 999 && (Nat.beq b n && (Nat.ble (rtb tb) 63 && (Nat.ble ((PP a).1 + 1) R.frames && Nat.ble (8 + ((mS a).2.2.1 + 11) + (PP a).2.1) R.locals)))))
noncomputable def dSta (i : Nat) : Bool := dCm mS PP NM R a b tb (PP a).2.2 && (kw W (.initialized (mS a).1.cls) (tn tb 1).1 && (kw W (.static (mS a).1) (tn tb 1).2 &&
  (kw W (.methodLink own i (mS a).1) (tn tb 0).2 || ((mS a).2.2.2.2.isEmpty && kn W (.methodLinkNest own i (mS a).1 (whost (W (tn tb 0).2))) (tn tb 0).2))))
noncomputable def dVir (i : Nat) : Bool := dCm mS PP NM R a b tb ((PP a).2.2 + 1) && ((mS a).2.2.2.2.isEmpty && (Nat.ble 1 (rtb tb) && (Nat.ble (rtb tb) 14 && (decide ((mS a).1.cls = (dCl (rtb tb)).1) &&
  (kw W (.methodLink own i (mS a).1) (tn tb 0).2 && (kw W (.instanceMethod (mS a).1) (tn tb 1).1 && (kw W (.selects (dCl (rtb tb)).1 (mS a).1 (mS a).1) (tn tb 1).2 && kw W (.initialized (dCl (rtb tb)).1) (tn tb 2).1)))))))
noncomputable def dSpe (i : Nat) : Bool := dCm mS PP NM R a b tb ((PP a).2.2 + 1) && ((mS a).2.2.2.2.isEmpty && (decide ((mS a).2.2.2.1 = none) && (Nat.ble 1 (rtb tb) && (decide ((mS a).1.name = "<init>") &&
  (kw W (.initialized (mS a).1.cls) (tn tb 1).1 && (kw W (.instanceMethod (mS a).1) (tn tb 1).2 &&
  (kw W (.methodLink own i (mS a).1) (tn tb 0).2 || kn W (.methodLinkNest own i (mS a).1 (whost (W (tn tb 0).2))) (tn tb 0).2)))))))
noncomputable def dIfc (i : Nat) : Bool := dCm mS PP NM R a b tb ((PP a).2.2 + 1) && ((mS a).2.2.2.2.isEmpty && (Nat.ble 1 (rtb tb) && (Nat.ble (rtb tb) 14 && (decide ((wmeth (W (tn tb 0).2)).desc = (mS a).1.desc) &&
  (decide ((wmeth (W (tn tb 0).2)).cls ≠ "java/lang/invoke/MethodHandle") && (decide ((wmeth (W (tn tb 0).2)).cls ≠ "java/lang/invoke/VarHandle") &&
  (kw W (.methodLink own i (wmeth (W (tn tb 0).2))) (tn tb 0).2 && (kw W (.selects (dCl (rtb tb)).1 (wmeth (W (tn tb 0).2)) (mS a).1) (tn tb 1).1 && (kw W (.instanceMethod (mS a).1) (tn tb 1).2 && (kw W (.initialized (mS a).1.cls) (tn tb 2).1 &&
  (kn W (.declares (wmeth (W (tn tb 0).2))) (tn tb 2).2 && (kn W (.interfaceMethod (wmeth (W (tn tb 0).2)).cls (wmeth (W (tn tb 0).2)).cls (wmeth (W (tn tb 0).2)).name (wmeth (W (tn tb 0).2)).desc) (tn tb 3).1 && (kn W (.publicMethod (mS a).1) (tn tb 3).2 &&
  (kn W (.unhidden (dCl (rtb tb)).1 (wmeth (W (tn tb 0).2)).name (wmeth (W (tn tb 0).2)).desc) (tn tb 4).1 && kn W (.castable (dCl (rtb tb)).1 (wmeth (W (tn tb 0).2)).cls) (tn tb 4).2))))))))))))))
noncomputable def dRn : Bool := Nat.ble 1 R.frames && Nat.ble 60 R.locals
/-- natives by invokestatic -/
noncomputable def dNat (i : Nat) : Bool := dRn R && (bif Nat.beq a 1001 then kw W (.methodLink own i Lib.Math.max.name) (tn tb 0).2 else bif Nat.beq a 1002 then kw W (.methodLink own i Lib.Math.min.name) (tn tb 0).2 else bif Nat.beq a 1003 then kw W (.methodLink own i Lib.Math.abs.name) (tn tb 0).2
  else bif (Nat.beq a 1004 || Nat.beq a 1007) then (kw W (.methodLink own i arraycopyName) (tn tb 0).2 && Nat.ble (16 + (nativeFrameWords "java/lang/System" "arraycopy" 5 + 11)) R.locals) else false)
noncomputable def dAny (i : Nat) : Bool := Nat.ble 70 a && (Nat.ble a 75 && (match rtyA (a - 64) with
  | .object C => kw W (.classLink own i C) (tn tb 0).2 && kn W (.arrayOver (.object C)) (tn tb 1).1
  | .array t => kw W (.classLink own i (FieldType.array t).toString) (tn tb 0).2 && kn W (.arrayOver (.array t)) (tn tb 1).1
  | _ => false))
/-- elements that go on in the frame -/
noncomputable def rdA (meth : String) (hh : List (Nat × Nat × Nat × Nat)) (i : Instr) : Bool := match i with
  | .iconst n => Nat.beq (i32n (Int32.ofInt n)) b
  | .bipush n => Nat.beq (i32n (Int8.ofInt n).toInt32) b
  | .sipush n => Nat.beq (i32n (Int16.ofInt n).toInt32) b
  | .lconst n => Nat.beq (18446744073709551616 + n.val) b
  | .dconst n => Nat.beq n.val 0 && Nat.beq b (rD FP.dconst0)
  | .ldc k => Nat.ble b 4294967295 && kw W (.constant own k (Int32.ofNat b)) (tn tb 0).2
  | .ldc_w k => bif Nat.ble b 4294967295 then kw W (.constant own k (Int32.ofNat b)) (tn tb 0).2 else bif risF b then kw W (.constantFloat own k (rfF b)) (tn tb 0).2 else (match SS[(tn tb 0).2]? with
    | some (o, j, _, x) => decide (o = own) && (Nat.beq j k && (Nat.ble x 63 && Nat.beq b (4294967296 + x)))
    | none => false)
  | .ldc2_w k => risL b && kw W (.constantLong own k (Int64.ofNat b)) (tn tb 0).2
  | .getstatic k => kw W (.fieldLink own k (wref (W (tn tb 0).2)) (bif Nat.ble 4294967296 b then (SR.getD (tn tb 1).1 ("", "", "", 0)).2.1 else (SI.getD (tn tb 1).1 ("", "", "", 0)).2.1) (bif Nat.ble 4294967296 b then (SR.getD (tn tb 1).1 ("", "", "", 0)).2.2.1 else (SI.getD (tn tb 1).1 ("", "", "", 0)).2.2.1)) (tn tb 0).2 &&
    (bif Nat.ble 4294967296 b then Nat.ble ((tn tb 1).1 + 1) SR.length && (decide (wref (W (tn tb 0).2) = (SR.getD (tn tb 1).1 ("", "", "", 0)).1) && (Nat.ble (SR.getD (tn tb 1).1 ("", "", "", 0)).2.2.2 63 && Nat.beq b (4294967296 + (SR.getD (tn tb 1).1 ("", "", "", 0)).2.2.2)))
    else Nat.ble ((tn tb 1).1 + 1) SI.length && (decide (wref (W (tn tb 0).2) = (SI.getD (tn tb 1).1 ("", "", "", 0)).1) && Nat.beq (i32n (SI.getD (tn tb 1).1 ("", "", "", 0)).2.2.2) b))
  | .iinc _ n => Nat.beq (i32n (Int32.ofInt n)) b
  | .ifCond _ off => decide ((pc : Int) + off = (a : Int))
  | .if_icmp _ off => decide ((pc : Int) + off = (a : Int))
  | .if_acmp _ off => decide ((pc : Int) + off = (a : Int))
  | .ifnull off => decide ((pc : Int) + off = (a : Int))
  | .ifnonnull off => decide ((pc : Int) + off = (a : Int))
  | .goto off => decide ((pc : Int) + off = (a : Int))
  | .getfield k => dGet W own a b k (tn tb 0).2 (tn tb 1).1
  | .putfield k => dPut W KT own a b tb meth k (tn tb 0).2 (tn tb 1).1
  | .aaload => Nat.ble 70 a && Nat.ble a 76
  | .aastore => Nat.ble 70 a && Nat.ble a 74
  | .new k => Nat.ble 1 a && (Nat.ble a 14 && (kw W (.classLink own k (dCl a).1) (tn tb 0).2 && (kw W (.instantiable (dCl a).1 (dCl a).2.2) (tn tb 1).1 && kw W (.initialized (dCl a).1) (tn tb 1).2)))
  | .newarray t => kw W (.arrayClass (newarray.typeOf t)) (tn tb 0).2 && Nat.ble (atk t) 66
  | .anewarray k => dAny W own a tb k
  | .multianewarray k d => Nat.beq d 2 && (bif Nat.beq a 74 then kw W (.classLink own k "[[I") (tn tb 0).2 && (kn W (.arrayOver (.array .int)) (tn tb 1).1 && kw W (.arrayClass .int) (tn tb 1).2) else bif Nat.beq a 75 then kw W (.classLink own k "[[[I") (tn tb 0).2 && (kn W (.arrayOver (.array .int)) (tn tb 1).1 && kn W (.arrayOver (.array (.array .int))) (tn tb 1).2) else false)
  | .checkcast k => bif Nat.beq a 64 then kw W (.classLink own k "[I") (tn tb 0).2 else Nat.ble 1 a && (Nat.ble a 14 && (kw W (.classLink own k (dCl a).1) (tn tb 0).2 || (kw W (.classLink own k (wcl (W (tn tb 0).2))) (tn tb 0).2 && kn W (.castable (dCl a).1 (wcl (W (tn tb 0).2))) (tn tb 1).1)))
  | .invokestatic k => bif Nat.ble 1000 a then dNat W own R a tb k else dSta W mS PP NM own R a b tb k && dHs W M NC xn HT own mi pc hh
  | .invokevirtual k => bif Nat.beq a 1005 then false else dVir W mS PP NM own R a b tb k && dHs W M NC xn HT own mi pc hh
  | .invokespecial k => bif Nat.beq a 1006 then dRn R && kw W (.methodLink own k Lib.objectInit) (tn tb 0).2 else dSpe W mS PP NM own R a b tb k && dHs W M NC xn HT own mi pc hh
  | .invokeinterface k _ => dIfc W mS PP NM own R a b tb k && dHs W M NC xn HT own mi pc hh
  | .nop => true
  | .aconst_null => true
  | .iload _ => true
  | .iload_n _ => true
  | .aload _ => true
  | .aload_n _ => true
  | .lload _ => true
  | .lload_n _ => true
  | .dload _ => true
  | .istore _ => true
  | .istore_n _ => true
  | .astore _ => true
  | .astore_n _ => true
  | .lstore _ => true
  | .lstore_n _ => true
  | .dstore _ => true
  | .iadd => true
  | .isub => true
  | .imul => true
  | .idiv => true
  | .irem => true
  | .iand => true
  | .ior => true
  | .ixor => true
  | .ishl => true
  | .ishr => true
  | .iushr => true
  | .ineg => true
  | .i2c => true
  | .i2l => true
  | .i2b => true
  | .i2f => true
  | .f2d => true
  | .fdiv => true
  | .dcmp _ => true
  | .ladd => true
  | .lmul => true
  | .lcmp => true
  | .dup => true
  | .pop => true
  | .dup_x1 => true
  | .dup2 => true
  | .iaload => true
  | .baload => true
  | .caload => true
  | .iastore => true
  | .bastore => true
  | .castore => true
  | .arraylength => true
  | .tableswitch _ _ _ _ => true
  | .lookupswitch _ _ => true
  | _ => false
end Checks

/-! THE SMALL MACHINE: numbers for values, a tree of numbers for the cells; run steps through a list of elements (an instruction, its pc, two numbers, a list of targets) -/
abbrev rH : Type := Lean.RArray Nat
/-- how many symbols; of each its bounds, in a tree -/
abbrev rE : Type := Nat × Lean.RArray (Nat × Nat × Nat)
abbrev rEl : Type := Instr × Nat × Nat × Nat × List (Nat × Nat)
abbrev rCode : Type := List rEl
abbrev rK : Type := Nat → rH → Nat → rE → Bool
abbrev rB : Type := Nat → List Nat → List Nat → rH → Nat → Nat → Nat → rE → Bool
abbrev rG : Type := rCode → List Nat → List Nat → rH → Nat → Nat → Nat → rE → Bool
abbrev rCF : Type := Nat → List Nat → rH → Nat → rE → rK → Bool
/-- if-then-else that the kernel unfolds at once -/
noncomputable abbrev rc {R : Type} (c : Bool) (t e : R) : R := Bool.rec (motive := fun _ => R) e t c
noncomputable def rget (t : rH) (i : Nat) : Nat := Lean.RArray.rec (motive := fun _ => Nat) (fun x => x) (fun p _ _ l r => rc (Nat.ble p i) r l) t
noncomputable def rset (t : rH) (i v : Nat) : (rH → Bool) → Bool :=
  Lean.RArray.rec (motive := fun _ => (rH → Bool) → Bool) (fun _ k => k (.leaf v)) (fun p l r il ir k => rc (Nat.ble p i) (ir (fun r' => k (.branch p l r'))) (il (fun l' => k (.branch p l' r)))) t
noncomputable def rslot (c sh : Nat) : Nat := Nat.mod (Nat.shiftRight c sh) (nat_lit 4722366482869645213696)
noncomputable def rput (c sh v : Nat) : Nat := Nat.add (Nat.sub c (Nat.shiftLeft (rslot c sh) sh)) (Nat.shiftLeft v sh)
noncomputable def rsh (j : Nat) : Nat := Nat.add (nat_lit 48) (Nat.mul (nat_lit 72) j)
noncomputable def rkind (c : Nat) : Nat := Nat.mod c (nat_lit 65536)
noncomputable def rlen (c : Nat) : Nat := Nat.mod (Nat.div c (nat_lit 65536)) (nat_lit 2147483648)
/-- an int, known -/
noncomputable def rlit (c : Nat) : Bool := Nat.ble c (nat_lit 4294967295)
noncomputable def rsym (c : Nat) : Bool := Nat.beq (Nat.div c (nat_lit 17179869184)) (nat_lit 1)
noncomputable def risI (c : Nat) : Bool := rc (rlit c) true (rsym c)
noncomputable def risR (c : Nat) : Bool := rc (Nat.ble (nat_lit 4294967296) c) (Nat.ble c (nat_lit 8589934592)) false
noncomputable def risL (c : Nat) : Bool := Nat.beq (Nat.div c (nat_lit 18446744073709551616)) (nat_lit 1)
/-- a long that is a symbol -/
noncomputable def risS (c : Nat) : Bool := Nat.beq (Nat.div c (nat_lit 18446744073709551616)) (nat_lit 3)
noncomputable def rcat1 (c : Nat) : Bool := Nat.ble c (nat_lit 18446744073709551615)
noncomputable def lget (ls : List Nat) (i : Nat) : Nat := List.rec (motive := fun _ => Nat → Nat) (fun _ => nat_lit 73786976294838206464) (fun x _ ih j => Nat.rec (motive := fun _ => Nat) x (fun j' _ => ih j') j) ls i
noncomputable def lset (i : Nat) (v : Nat) : List Nat → (List Nat → Bool) → Bool :=
  Nat.rec (motive := fun _ => List Nat → (List Nat → Bool) → Bool)
    (fun ls k => List.rec (motive := fun _ => Bool) (k [v]) (fun _ t _ => k (v :: t)) ls)
    (fun i' ih ls k => List.rec (motive := fun _ => Bool)
      (ih [] (fun t' => k (nat_lit 73786976294838206464 :: t')))
      (fun x t _ => rc (Nat.beq i' 0) (rc (rcat1 x) (ih t (fun t' => k (x :: t'))) (ih t (fun t' => k (nat_lit 73786976294838206464 :: t')))) (ih t (fun t' => k (x :: t')))) ls) i
/-- the arguments off the stack, in their order -/
noncomputable def rpop (n : Nat) : List Nat → List Nat → (List Nat → List Nat → Bool) → Bool :=
  Nat.rec (motive := fun _ => List Nat → List Nat → (List Nat → List Nat → Bool) → Bool) (fun acc st k => k acc st)
    (fun _ ih acc st k => List.rec (motive := fun _ => Bool) false (fun x t _ => rc (rcat1 x) (ih (x :: acc) t k) false) st) n
noncomputable def rcats (st : List Nat) : Nat := List.rec (motive := fun _ => Nat) (nat_lit 0) (fun x _ ih => Nat.add (rc (rcat1 x) (nat_lit 1) (nat_lit 2)) ih) st
noncomputable def rdrop (pc : Nat) (c : rCode) : rCode := List.rec (motive := fun _ => rCode) [] (fun e t ih => rc (Nat.beq e.2.1 pc) (e :: t) ih) c
noncomputable def rlook (l : List (Nat × Nat)) (x d : Nat) : Nat := List.rec (motive := fun _ => Nat) d (fun q _ ih => rc (Nat.beq q.1 x) q.2 ih) l
/-- signed order, by what is 2^31 more -/
noncomputable def rbias (c : Nat) : Nat := Nat.mod (Nat.add c (nat_lit 2147483648)) (nat_lit 4294967296)
noncomputable def rtn (t : Lean.RArray (Nat × Nat × Nat)) (i : Nat) : Nat × Nat := Lean.RArray.rec (motive := fun _ => Nat × Nat) (fun x => rc (Nat.beq x.1 i) x.2 (0, nat_lit 4294967295)) (fun p _ _ l r => rc (Nat.ble p i) r l) t
noncomputable def rnth (e : rE) (i : Nat) : Nat × Nat := rtn e.2 i
noncomputable def rtu (t : Lean.RArray (Nat × Nat × Nat)) (i : Nat) (q : Nat × Nat) : Lean.RArray (Nat × Nat × Nat) := Lean.RArray.rec (motive := fun _ => Lean.RArray (Nat × Nat × Nat)) (fun x => rc (Nat.beq x.1 i) (.leaf (i, q)) (.leaf x)) (fun p l r il ir => rc (Nat.ble p i) (.branch p l ir) (.branch p il r)) t
noncomputable def rupd (e : rE) (i : Nat) (q : Nat × Nat) : rE := (e.1, rtu e.2 i q)
/-- one symbol more -/
noncomputable def rapp (e : rE) (q : Nat × Nat) : rE := (Nat.succ e.1, rtu e.2 e.1 q)
noncomputable def rsi (c : Nat) : Nat := Nat.sub c (nat_lit 17179869184)
/-- every number that a symbol may be -/
noncomputable def rall (n : Nat) : Nat → (Nat → Bool) → Bool := Nat.rec (motive := fun _ => Nat → (Nat → Bool) → Bool) (fun _ _ => true) (fun _ ih lo k => rc (k lo) (ih (Nat.succ lo) k) false) n
noncomputable def rconc (c : Nat) (env : rE) (k : Nat → rE → Bool) : Bool :=
  rc (rlit c) (k c env) (rc (rsym c) (rc (Nat.ble (Nat.sub (rnth env (rsi c)).2 (rnth env (rsi c)).1) (nat_lit 5000))
    (rall (Nat.sub (Nat.succ (rnth env (rsi c)).2) (rnth env (rsi c)).1) (rnth env (rsi c)).1 (fun v => k (rbias v) (rupd env (rsi c) (v, v)))) false) false)
/-- a symbol against a known (biased) number m: below m, or not -/
noncomputable def rlow (i m : Nat) (env : rE) (t e : rE → Bool) : Bool :=
  rc (Nat.ble m (rnth env i).1) (e env) (rc (Nat.ble (Nat.succ (rnth env i).2) m) (t env) (rc (t (rupd env i ((rnth env i).1, Nat.pred m))) (e (rupd env i (m, (rnth env i).2))) false))
noncomputable def rpk0 (c : Bool) (x y : Nat) : Nat := Bool.rec (motive := fun _ => Nat) y x c
noncomputable def rmx (x y : Nat) : Nat := rpk0 (Nat.ble x y) y x
noncomputable def rmn (x y : Nat) : Nat := rpk0 (Nat.ble x y) x y
/-- two symbols -/
noncomputable def rlt2 (i j : Nat) (env : rE) (t e : rE → Bool) : Bool := rc (Nat.beq i j) (e env) (rc (Nat.ble (Nat.succ (rnth env i).2) (rnth env j).1) (t env) (rc (Nat.ble (rnth env j).2 (rnth env i).1) (e env) (rc (t env) (e env) false)))
noncomputable def req2 (i j : Nat) (env : rE) (t e : rE → Bool) : Bool := rc (Nat.beq i j) (t env) (rc (rc (Nat.ble (Nat.succ (rnth env i).2) (rnth env j).1) true (Nat.ble (Nat.succ (rnth env j).2) (rnth env i).1)) (e env)
  (rc (t (rupd (rupd env i (rmx (rnth env i).1 (rnth env j).1, rmn (rnth env i).2 (rnth env j).2)) j (rmx (rnth env i).1 (rnth env j).1, rmn (rnth env i).2 (rnth env j).2))) (e env) false))
/-- a < b -/
noncomputable def rlt (a b : Nat) (env : rE) (t e : rE → Bool) : Bool :=
  rc (Nat.ble (Nat.lor a b) (nat_lit 4294967295)) (rc (Nat.ble (Nat.succ (rbias a)) (rbias b)) (t env) (e env))
    (rc (rlit b) (rc (rsym a) (rlow (rsi a) (rbias b) env t e) false) (rc (rlit a) (rc (rsym b) (rlow (rsi b) (Nat.succ (rbias a)) env e t) false) (rc (rsym a) (rc (rsym b) (rlt2 (rsi a) (rsi b) env t e) false) false)))
/-- a = b -/
noncomputable def req (a b : Nat) (env : rE) (t e : rE → Bool) : Bool :=
  rc (Nat.ble (Nat.lor a b) (nat_lit 4294967295)) (rc (Nat.beq a b) (t env) (e env))
    (rc (rlit b) (rc (rsym a) (rlow (rsi a) (rbias b) env e (fun env' => rlow (rsi a) (Nat.succ (rbias b)) env' t e)) false) (rc (rlit a) (rc (rsym b) (rlow (rsi b) (rbias a) env e (fun env' => rlow (rsi b) (Nat.succ (rbias a)) env' t e)) false) (rc (rsym a) (rc (rsym b) (req2 (rsi a) (rsi b) env t e) false) false)))
noncomputable def rcond (c : ClassFile.Cond) (a b : Nat) (env : rE) (t e : rE → Bool) : Bool := match c with
  | .eq => req a b env t e
  | .ne => req a b env e t
  | .lt => rlt a b env t e
  | .ge => rlt a b env e t
  | .gt => rlt b a env t e
  | .le => rlt b a env e t
/-- a switch on a symbol: keys (biased, rising) between -/
noncomputable def rswS (i : Nat) (onD : rE → Bool) (onK : Nat → rE → Bool) (l : List (Nat × Nat)) : rE → Bool := List.rec (motive := fun _ => rE → Bool) (fun env => onD env)
  (fun q _ ih env => rlow i (rbias q.1) env onD (fun env' => rlow i (Nat.succ (rbias q.1)) env' (fun env'' => onK q.2 env'') ih)) l
noncomputable def rsw (x : Nat) (l : List (Nat × Nat)) (d : Nat) (env : rE) (k : Nat → rE → Bool) : Bool :=
  rc (rlit x) (k (rlook l x d) env) (rc (rsym x) (rswS (rsi x) (fun env' => k d env') k l env) false)
noncomputable def rbin (f : Nat → Nat → Nat) (a b : Nat) (env : rE) (k : Nat → rE → Bool) : Bool :=
  rc (Nat.ble (Nat.lor a b) (nat_lit 4294967295)) (k (f a b) env) (rconc b env (fun b' env' => rconc a env' (fun a' env'' => k (f a' b') env'')))
/-- of symbols, those of p alone -/
noncomputable def rsb (p : Nat → Bool) (c : Nat) : Bool := rc (Nat.ble c (nat_lit 8589934592)) true (rc (Nat.ble c (nat_lit 17179869183)) (p (Nat.div (Nat.sub c (nat_lit 8589934593)) (nat_lit 1024))) (rc (rsym c) (p (rsi c)) (rc (Nat.ble c (nat_lit 55340232221128654847)) true (rc (Nat.ble (nat_lit 73786976294838206464) c) true (p (Nat.sub c (nat_lit 55340232221128654848)))))))
noncomputable def rsbs (p : Nat → Bool) (ls : List Nat) : Bool := List.rec (motive := fun _ => Bool) true (fun x _ ih => rc (rsb p x) ih false) ls
noncomputable def rsbt (p : Nat → Bool) (ls : List Nat) : Bool := List.rec (motive := fun _ => Bool) true (fun x _ ih => rc (Nat.ble x (nat_lit 73786976294838206463)) (rc (rsb p x) ih false) false) ls
/-- below n -/
noncomputable def rpb (n i : Nat) : Bool := Nat.ble (Nat.succ i) n
/-- below n, and not volatile (256 to 1535) -/
noncomputable def rpv (n i : Nat) : Bool := rc (Nat.ble (Nat.succ i) n) (rc (Nat.ble (nat_lit 256) i) (Nat.ble (nat_lit 1536) i) true) false
noncomputable def rcno (p : Nat → Bool) (c : Nat) : Bool := Nat.rec (motive := fun _ => Bool) true (fun j ih => rc (Nat.ble (rslot c (rsh j)) (nat_lit 73786976294838206463)) (rc (rsb p (rslot c (rsh j))) ih false) false) (rlen c)
noncomputable def rhno (p : Nat → Bool) (h : rH) : Bool := Lean.RArray.rec (motive := fun _ => Bool) (fun c => rcno p c) (fun _ _ _ l r => rc l r false) h
/-- a new symbol -/
noncomputable def rnew (q : Nat × Nat) (ls st : List Nat) (h : rH) (env : rE) (k : Nat → rE → Bool) : Bool :=
  rc (rc (Nat.ble (nat_lit 1536) env.1) (rc (Nat.beq (rnth env env.1).1 0) (Nat.beq (rnth env env.1).2 (nat_lit 4294967295)) false) false) (rc (Nat.ble (Nat.succ env.1) (nat_lit 17179869184)) (rc (rsbs (rpb env.1) ls) (rc (rsbt (rpb env.1) st) (rc (rhno (rpb env.1) h) (k (Nat.add (nat_lit 17179869184) env.1) (rapp env q)) false) false) false) false) false
/-- what is known of a number (2^31 more) -/
noncomputable def rbd (c : Nat) (env : rE) : Nat × Nat := rc (rlit c) (rbias c, rbias c) (rnth env (rsi c))
noncomputable def rar2 (f : Nat → Nat → Nat) (bf : Nat → Nat → Nat → Nat → Nat × Nat) (x y : Nat × Nat) (ls st : List Nat) (h : rH) (env : rE) (k : Nat → rE → Bool) : Bool :=
  rc (rc (Nat.beq x.1 x.2) (Nat.beq y.1 y.2) false) (k (f (rbias x.1) (rbias y.1)) env) (rnew (bf x.1 x.2 y.1 y.2) ls st h env k)
/-- a number out of two: known, or a new symbol -/
noncomputable def rar (f : Nat → Nat → Nat) (bf : Nat → Nat → Nat → Nat → Nat × Nat) (a b : Nat) (ls st : List Nat) (h : rH) (env : rE) (k : Nat → rE → Bool) : Bool :=
  rc (Nat.ble (Nat.lor a b) (nat_lit 4294967295)) (k (f a b) env) (rc (risI a) (rc (risI b) (rar2 f bf (rbd a env) (rbd b env) ls st h env k) false) false)
noncomputable def rfull : Nat × Nat := (nat_lit 0, nat_lit 4294967295)
noncomputable def badd (la ha lb hb : Nat) : Nat × Nat := rc (Nat.ble (nat_lit 2147483648) (Nat.add la lb)) (rc (Nat.ble (Nat.add ha hb) (nat_lit 6442450943)) (Nat.sub (Nat.add la lb) (nat_lit 2147483648), Nat.sub (Nat.add ha hb) (nat_lit 2147483648)) rfull) rfull
noncomputable def bsub (la ha lb hb : Nat) : Nat × Nat := rc (Nat.ble hb (Nat.add la (nat_lit 2147483648))) (rc (Nat.ble (Nat.add ha (nat_lit 2147483648)) (Nat.add (nat_lit 4294967295) lb)) (Nat.sub (Nat.add la (nat_lit 2147483648)) hb, Nat.sub (Nat.add ha (nat_lit 2147483648)) lb) rfull) rfull
noncomputable def bmul (la ha lb hb : Nat) : Nat × Nat := rc (Nat.ble (nat_lit 2147483648) la) (rc (Nat.ble (nat_lit 2147483648) lb) (rc (Nat.ble (Nat.mul (Nat.sub ha (nat_lit 2147483648)) (Nat.sub hb (nat_lit 2147483648))) (nat_lit 2147483647)) (nat_lit 2147483648, Nat.add (nat_lit 2147483648) (Nat.mul (Nat.sub ha (nat_lit 2147483648)) (Nat.sub hb (nat_lit 2147483648)))) rfull) rfull) rfull
/-- by a number above 0 (else all) -/
noncomputable def brem (la ha lb hb : Nat) : Nat × Nat := rc (Nat.ble (nat_lit 2147483649) lb) (rc (Nat.ble (nat_lit 2147483648) la) (nat_lit 2147483648, rpk0 (Nat.ble ha (Nat.pred hb)) ha (Nat.pred hb)) (Nat.sub (nat_lit 4294967297) hb, Nat.pred hb)) rfull
noncomputable def bdiv (la ha lb hb : Nat) : Nat × Nat := rc (Nat.ble (nat_lit 2147483649) lb) (rc (Nat.ble (nat_lit 2147483648) la) (nat_lit 2147483648, Nat.add (nat_lit 2147483648) (Nat.div (Nat.sub ha (nat_lit 2147483648)) (Nat.sub lb (nat_lit 2147483648)))) rfull) rfull
noncomputable def band (la ha lb hb : Nat) : Nat × Nat := rc (Nat.ble (nat_lit 2147483648) lb) (nat_lit 2147483648, hb) (rc (Nat.ble (nat_lit 2147483648) la) (nat_lit 2147483648, ha) rfull)
noncomputable def r32 (x : Nat) : Nat := Nat.mod x (nat_lit 4294967296)
noncomputable def fadd32 (a b : Nat) : Nat := r32 (Nat.add a b)
noncomputable def fsub32 (a b : Nat) : Nat := r32 (Nat.add a (Nat.sub (nat_lit 4294967296) b))
noncomputable def fmul32 (a b : Nat) : Nat := r32 (Nat.mul a b)
noncomputable def rneg (c : Nat) : Bool := Nat.ble (nat_lit 2147483648) c
noncomputable def rabs (c : Nat) : Nat := rc (rneg c) (Nat.sub (nat_lit 4294967296) c) c
noncomputable def rmin (c : Nat) : Nat := r32 (Nat.sub (nat_lit 4294967296) c)
/-- an Int32's number -/
noncomputable def i32n (x : Int32) : Nat := x.toBitVec.toNat
noncomputable def fdiv32 (a b : Nat) : Nat := i32n (Int32.ofNat a / Int32.ofNat b)
noncomputable def frem32 (a b : Nat) : Nat := i32n (Int32.ofNat a - Int32.ofNat a / Int32.ofNat b * Int32.ofNat b)
noncomputable def fshl32 (a b : Nat) : Nat := i32n (Int32.ofNat a <<< (Int32.ofNat b &&& 31))
noncomputable def fushr32 (a b : Nat) : Nat := i32n ((Int32.ofNat a).toUInt32 >>> ((Int32.ofNat b).toUInt32 &&& Int32.toUInt32 31)).toInt32
noncomputable def fshr32 (a b : Nat) : Nat := i32n (Int32.ofNat a >>> (Int32.ofNat b &&& 31))
/-- of a method: its code; locals; cells and slots that a call may make; handlers (16 pc + exception, handler + 1) -/
abbrev rMI : Type := rCode × Nat × Nat × Nat × List (Nat × Nat)
abbrev rM : Type := Lean.RArray rMI
noncomputable def mget (M : rM) (i : Nat) : rMI := Lean.RArray.rec (motive := fun _ => rMI) (fun x => x) (fun p _ _ l r => rc (Nat.ble p i) r l) M
noncomputable def mcode (M : rM) (i : Nat) : rCode := (mget M i).1
noncomputable def mloc (M : rM) (i : Nat) : Nat := (mget M i).2.1
noncomputable def mcel (M : rM) (i : Nat) : Nat := (mget M i).2.2.1
noncomputable def mslo (M : rM) (i : Nat) : Nat := (mget M i).2.2.2.1
noncomputable def mhnd (M : rM) (i : Nat) : List (Nat × Nat) := (mget M i).2.2.2.2
noncomputable def pop1 (st : List Nat) (k : Nat → List Nat → Bool) : Bool := List.rec (motive := fun _ => Bool) false (fun x t _ => k x t) st
/-- pushes -/
noncomputable def oPush (v : Nat) (ih : rG) (rest : rCode) (ls st : List Nat) (h : rH) (NB nc ns : Nat) (env : rE) : Bool := ih rest ls (v :: st) h NB nc ns env
noncomputable def oLoadI (i : Nat) (ih : rG) (rest : rCode) (ls st : List Nat) (h : rH) (NB nc ns : Nat) (env : rE) : Bool := rc (risI (lget ls i)) (ih rest ls (lget ls i :: st) h NB nc ns env) false
noncomputable def oLoadR (i : Nat) (ih : rG) (rest : rCode) (ls st : List Nat) (h : rH) (NB nc ns : Nat) (env : rE) : Bool := rc (risR (lget ls i)) (ih rest ls (lget ls i :: st) h NB nc ns env) false
noncomputable def oLoadL (i : Nat) (ih : rG) (rest : rCode) (ls st : List Nat) (h : rH) (NB nc ns : Nat) (env : rE) : Bool := rc (risL (lget ls i)) (ih rest ls (lget ls i :: st) h NB nc ns env) false
noncomputable def oStore (p : Nat → Bool) (mx i : Nat) (ih : rG) (rest : rCode) (ls st : List Nat) (h : rH) (NB nc ns : Nat) (env : rE) : Bool := pop1 st (fun x st' => rc (p x) (rc (Nat.ble (Nat.succ i) mx) (lset i x ls (fun ls' => ih rest ls' st' h NB nc ns env)) false) false)
noncomputable def oStore2 (p : Nat → Bool) (mx i : Nat) (ih : rG) (rest : rCode) (ls st : List Nat) (h : rH) (NB nc ns : Nat) (env : rE) : Bool := pop1 st (fun x st' => rc (p x) (rc (Nat.ble (Nat.succ (Nat.succ i)) mx) (lset i x ls (fun ls1 => lset (Nat.succ i) (nat_lit 73786976294838206464) ls1 (fun ls' => lset i x ls' (fun ls2 => ih rest ls2 st' h NB nc ns env)))) false) false)
noncomputable def oIinc (i d : Nat) (ih : rG) (rest : rCode) (ls st : List Nat) (h : rH) (NB nc ns : Nat) (env : rE) : Bool := rbin fadd32 (lget ls i) d env (fun v env' => lset i v ls (fun ls' => ih rest ls' st h NB nc ns env'))
noncomputable def oBin (f : Nat → Nat → Nat) (ih : rG) (rest : rCode) (ls st : List Nat) (h : rH) (NB nc ns : Nat) (env : rE) : Bool := pop1 st (fun b st1 => pop1 st1 (fun a st' => rbin f a b env (fun v env' => ih rest ls (v :: st') h NB nc ns env')))
noncomputable def oAdd (ih : rG) (rest : rCode) (ls st : List Nat) (h : rH) (NB nc ns : Nat) (env : rE) : Bool := pop1 st (fun b st1 => pop1 st1 (fun a st' => rc (Nat.beq a 0) (rc (risI b) (ih rest ls (b :: st') h NB nc ns env) false) (rar fadd32 badd a b ls st' h env (fun v env' => ih rest ls (v :: st') h NB nc ns env'))))
noncomputable def oAr (f : Nat → Nat → Nat) (bf : Nat → Nat → Nat → Nat → Nat × Nat) (ih : rG) (rest : rCode) (ls st : List Nat) (h : rH) (NB nc ns : Nat) (env : rE) : Bool := pop1 st (fun b st1 => pop1 st1 (fun a st' => rar f bf a b ls st' h env (fun v env' => ih rest ls (v :: st') h NB nc ns env')))
noncomputable def oDiv (f : Nat → Nat → Nat) (bf : Nat → Nat → Nat → Nat → Nat × Nat) (ih : rG) (rest : rCode) (ls st : List Nat) (h : rH) (NB nc ns : Nat) (env : rE) : Bool := pop1 st (fun b st1 => pop1 st1 (fun a st' => rc (rlit b) (rc (Nat.beq b 0) false (rar f bf a b ls st' h env (fun v env' => ih rest ls (v :: st') h NB nc ns env'))) false))
noncomputable def oUn (f : Nat → Nat) (ih : rG) (rest : rCode) (ls st : List Nat) (h : rH) (NB nc ns : Nat) (env : rE) : Bool := pop1 st (fun a st' => rconc a env (fun v env' => ih rest ls (f v :: st') h NB nc ns env'))
/-- i2c: of a symbol below 16 the symbol 16 more -/
noncomputable def oI2c (ih : rG) (rest : rCode) (ls st : List Nat) (h : rH) (NB nc ns : Nat) (env : rE) : Bool := pop1 st (fun a st' => rc (rlit a) (ih rest ls (Nat.mod a (nat_lit 65536) :: st') h NB nc ns env) (rc (rsym a) (rc (Nat.ble (Nat.succ (rsi a)) (nat_lit 16)) (ih rest ls (Nat.add a (nat_lit 16) :: st') h NB nc ns env) false) false))
noncomputable def oAnd (ih : rG) (rest : rCode) (ls st : List Nat) (h : rH) (NB nc ns : Nat) (env : rE) : Bool := pop1 st (fun b st1 => pop1 st1 (fun a st' => rar Nat.land band a b ls st' h env (fun v env' => ih rest ls (v :: st') h NB nc ns env')))
noncomputable def oIf (cf : Nat → Nat → rE → (rE → Bool) → (rE → Bool) → Bool) (tg : rCode) (ih : rG) (rest : rCode) (ls st : List Nat) (h : rH) (NB nc ns : Nat) (env : rE) : Bool := pop1 st (fun a st' => rc (risI a) (cf a (nat_lit 0) env (fun env' => ih tg ls st' h NB nc ns env') (fun env' => ih rest ls st' h NB nc ns env')) false)
noncomputable def oIcmp (cf : Nat → Nat → rE → (rE → Bool) → (rE → Bool) → Bool) (tg : rCode) (ih : rG) (rest : rCode) (ls st : List Nat) (h : rH) (NB nc ns : Nat) (env : rE) : Bool := pop1 st (fun b st1 => pop1 st1 (fun a st' => cf a b env (fun env' => ih tg ls st' h NB nc ns env') (fun env' => ih rest ls st' h NB nc ns env')))
noncomputable def rlive (c : Nat) (h : rH) : Bool := rc (Nat.beq c (nat_lit 8589934592)) true (rc (Nat.beq (rkind (rget h (Nat.sub c (nat_lit 4294967296)))) 0) false true)
/-- null, or a cell of ours -/
noncomputable def rown (c : Nat) (h : rH) : Bool := rc (Nat.beq c (nat_lit 8589934592)) true (Nat.ble (rkind (rget h (Nat.sub c (nat_lit 4294967296)))) (nat_lit 1023))
noncomputable def oAcmp (tg1 tg2 : rCode) (ih : rG) (ls st : List Nat) (h : rH) (NB nc ns : Nat) (env : rE) : Bool := pop1 st (fun b st1 => pop1 st1 (fun a st' => rc (risR a) (rc (risR b) (rc (Nat.beq a b) (ih tg1 ls st' h NB nc ns env) (rc (rlive a h) (rc (rlive b h) (rc (rc (rown a h) true (rown b h)) (ih tg2 ls st' h NB nc ns env) false) false) false)) false) false))
noncomputable def oNull (tg1 tg2 : rCode) (ih : rG) (ls st : List Nat) (h : rH) (NB nc ns : Nat) (env : rE) : Bool := pop1 st (fun a st' => rc (risR a) (rc (Nat.beq a (nat_lit 8589934592)) (ih tg1 ls st' h NB nc ns env) (ih tg2 ls st' h NB nc ns env)) false)
/-- a cell at a reference, of the kind k -/
noncomputable def rcell (o k : Nat) (h : rH) (NB : Nat) (q : Nat → Bool) : Bool := rc (Nat.ble (nat_lit 4294967296) o) (rc (Nat.ble (Nat.succ o) NB) (rc (Nat.beq (rkind (rget h (Nat.sub o (nat_lit 4294967296)))) k) (q (rget h (Nat.sub o (nat_lit 4294967296)))) false) false) false
/-- to be read only: the kind, or 1024 more -/
noncomputable def rcellr (o k : Nat) (h : rH) (NB : Nat) (q : Nat → Bool) : Bool := rc (Nat.ble (nat_lit 4294967296) o) (rc (Nat.ble (Nat.succ o) NB) (rc (Nat.beq (Nat.mod (rget h (Nat.sub o (nat_lit 4294967296))) (nat_lit 1024)) k) (q (rget h (Nat.sub o (nat_lit 4294967296)))) false) false) false
noncomputable def oGet (kd sh : Nat) (ih : rG) (rest : rCode) (ls st : List Nat) (h : rH) (NB nc ns : Nat) (env : rE) : Bool := pop1 st (fun o st' => rcellr o kd h NB (fun c => rc (Nat.ble (Nat.succ sh) (rsh (rlen c))) (ih rest ls (rslot c sh :: st') h NB nc ns env) false))
/-- what may be stored: 0 int, 1 boolean, 2 char, 3 long, 4 a reference or null, 5 double -/
noncomputable def rty (t v : Nat) : Bool := rc (Nat.beq t 0) (risI v) (rc (Nat.beq t 4) (risR v) (rc (Nat.beq t 1) (Nat.ble v 1) (rc (Nat.beq t 2) (rc (Nat.ble v (nat_lit 65535)) true (rc (rsym v) (rc (Nat.ble (nat_lit 16) (rsi v)) (Nat.ble (rsi v) (nat_lit 31)) false) false))
  (rc (Nat.beq t 3) (rc (risL v) true (risS v)) (Nat.beq (Nat.div v (nat_lit 18446744073709551616)) 2)))))
noncomputable def rtb (tb : List (Nat × Nat)) : Nat := List.rec (motive := fun _ => Nat) 0 (fun q _ _ => q.1) tb
noncomputable def oPut (t kd sh : Nat) (ih : rG) (rest : rCode) (ls st : List Nat) (h : rH) (NB nc ns : Nat) (env : rE) : Bool := pop1 st (fun v st1 => pop1 st1 (fun o st' => rc (rty t v) (rcell o kd h NB (fun c => rc (Nat.ble (Nat.succ sh) (rsh (rlen c))) (rset h (Nat.sub o (nat_lit 4294967296)) (rput c sh v) (fun h' => ih rest ls st' h' NB nc ns env)) false)) false))
noncomputable def oAld (kd : Nat) (ih : rG) (rest : rCode) (ls st : List Nat) (h : rH) (NB nc ns : Nat) (env : rE) : Bool := pop1 st (fun j st1 => pop1 st1 (fun o st' => rconc j env (fun j' env' => rcellr o kd h NB (fun c => rc (Nat.ble (Nat.succ j') (rlen c)) (ih rest ls (rslot c (rsh j') :: st') h NB nc ns env') false))))
noncomputable def oAst (t kd : Nat) (ih : rG) (rest : rCode) (ls st : List Nat) (h : rH) (NB nc ns : Nat) (env : rE) : Bool := pop1 st (fun v st0 => pop1 st0 (fun j st1 => pop1 st1 (fun o st' => rc (rty t v) (rconc j env (fun j' env' => rcell o kd h NB (fun c => rc (Nat.ble (Nat.succ j') (rlen c)) (rset h (Nat.sub o (nat_lit 4294967296)) (rput c (rsh j') v) (fun h' => ih rest ls st' h' NB nc ns env')) false))) false)))
/-- may a cell of the kind kv lie in an array of the kind kd -/
noncomputable def rasg (kd kv : Nat) : Bool := rc (Nat.beq kd (nat_lit 70)) (Nat.beq kv (nat_lit 4)) (rc (Nat.beq kd (nat_lit 71)) (Nat.beq kv (nat_lit 4)) (rc (Nat.beq kd (nat_lit 72)) (Nat.beq kv (nat_lit 10)) (rc (Nat.beq kd (nat_lit 73)) (Nat.beq kv (nat_lit 9)) (rc (Nat.beq kd (nat_lit 74)) (Nat.beq kv (nat_lit 64)) false))))
noncomputable def oAastS (kd v j o : Nat) (ih : rG) (rest : rCode) (ls st : List Nat) (h : rH) (NB nc ns : Nat) (env : rE) : Bool := rconc j env (fun j' env' => rcell o kd h NB (fun c => rc (Nat.ble (Nat.succ j') (rlen c)) (rset h (Nat.sub o (nat_lit 4294967296)) (rput c (rsh j') v) (fun h' => ih rest ls st h' NB nc ns env')) false))
noncomputable def oAast (kd : Nat) (ih : rG) (rest : rCode) (ls st : List Nat) (h : rH) (NB nc ns : Nat) (env : rE) : Bool := pop1 st (fun v st0 => pop1 st0 (fun j st1 => pop1 st1 (fun o st' => rc (Nat.beq v (nat_lit 8589934592)) (rc (Nat.ble kd (nat_lit 73)) (oAastS kd v j o ih rest ls st' h NB nc ns env) false)
  (rc (Nat.ble (nat_lit 4294967296) v) (rc (Nat.ble (Nat.succ v) NB) (rc (rasg kd (Nat.mod (rget h (Nat.sub v (nat_lit 4294967296))) (nat_lit 1024))) (rc (Nat.ble (rkind (rget h (Nat.sub v (nat_lit 4294967296)))) (nat_lit 1087)) (oAastS kd v j o ih rest ls st' h NB nc ns env) false) false) false) false))))
noncomputable def oLen (ih : rG) (rest : rCode) (ls st : List Nat) (h : rH) (NB nc ns : Nat) (env : rE) : Bool := pop1 st (fun o st' => rc (Nat.ble (nat_lit 4294967296) o) (rc (Nat.ble (Nat.succ o) NB) (rc (Nat.ble (nat_lit 64) (Nat.mod (rget h (Nat.sub o (nat_lit 4294967296))) (nat_lit 1024))) (rc (Nat.ble (Nat.mod (rget h (Nat.sub o (nat_lit 4294967296))) (nat_lit 1024)) (nat_lit 76)) (ih rest ls (rlen (rget h (Nat.sub o (nat_lit 4294967296))) :: st') h NB nc ns env) false) false) false) false)
/-- a new cell c of w slots -/
noncomputable def rmk (c w B1 B2 : Nat) (h : rH) (NB nc ns : Nat) (k : rH → Bool) : Bool := rc (Nat.ble (Nat.succ nc) B1) (rc (Nat.ble (Nat.add ns w) B2) (rc (Nat.ble (Nat.succ NB) (nat_lit 4294968319)) (rset h (Nat.sub NB (nat_lit 4294967296)) c k) false) false) false
noncomputable def oNew (c B1 B2 : Nat) (ih : rG) (rest : rCode) (ls st : List Nat) (h : rH) (NB nc ns : Nat) (env : rE) : Bool := rmk c (rlen c) B1 B2 h NB nc ns (fun h' => ih rest ls (NB :: st) h' (Nat.succ NB) (Nat.succ nc) (Nat.add ns (rlen c)) env)
noncomputable def rnulls (n : Nat) : Nat := Nat.rec (motive := fun _ => Nat) (nat_lit 0) (fun _ ih => Nat.add (nat_lit 8589934592) (Nat.shiftLeft ih (nat_lit 72))) n
noncomputable def rblank (kd z n : Nat) : Nat := Nat.add (Nat.add kd (Nat.mul (nat_lit 65536) n)) (Nat.shiftLeft z (nat_lit 48))
noncomputable def oNewA (kd : Nat) (z : Nat → Nat) (B1 B2 : Nat) (ih : rG) (rest : rCode) (ls st : List Nat) (h : rH) (NB nc ns : Nat) (env : rE) : Bool := pop1 st (fun n st' => rc (Nat.ble n (nat_lit 10000)) (rmk (rblank kd (z n) n) n B1 B2 h NB nc ns (fun h' => ih rest ls (NB :: st') h' (Nat.succ NB) (Nat.succ nc) (Nat.add ns n) env)) false)
/-- int[n][m] : the outer cell, then the inner ones -/
noncomputable def rmany (c w B1 B2 : Nat) (m : Nat) : rH → Nat → Nat → Nat → (rH → Nat → Nat → Nat → Bool) → Bool := Nat.rec (motive := fun _ => rH → Nat → Nat → Nat → (rH → Nat → Nat → Nat → Bool) → Bool) (fun h NB nc ns k => k h NB nc ns)
  (fun _ ih h NB nc ns k => rmk c w B1 B2 h NB nc ns (fun h' => ih h' (Nat.succ NB) (Nat.succ nc) (Nat.add ns w) k)) m
/-- refs q, q+1 .. (n of them) in the slots -/
noncomputable def rrefs (n : Nat) : Nat → Nat := Nat.rec (motive := fun _ => Nat → Nat) (fun _ => 0) (fun _ ih q => Nat.add q (Nat.shiftLeft (ih (Nat.succ q)) (nat_lit 72))) n
noncomputable def oMulti (kd ki : Nat) (z : Nat → Nat) (B1 B2 : Nat) (ih : rG) (rest : rCode) (ls st : List Nat) (h : rH) (NB nc ns : Nat) (env : rE) : Bool := pop1 st (fun m st1 => pop1 st1 (fun n st' => rc (Nat.ble n (nat_lit 100)) (rc (Nat.ble m (nat_lit 1000)) (rmk (rblank kd (rrefs n (Nat.succ NB)) n) n B1 B2 h NB nc ns (fun h1 => rmany (rblank ki (z m) m) m B1 B2 n h1 (Nat.succ NB) (Nat.succ nc) (Nat.add ns n) (fun h' NB' nc' ns' => ih rest ls (NB :: st') h' NB' nc' ns' env))) false) false))
noncomputable def rret (p : Nat → Bool) (k : rK) (st : List Nat) (h : rH) (NB : Nat) (env : rE) : Bool := pop1 st (fun v st' => rc (p v) (List.rec (motive := fun _ => Bool) (k v h NB env) (fun _ _ _ => false) st') false)
/-- natives: max, min, abs, arraycopy (ints), clone (ints), Object.<init> -/
noncomputable def rcopy (src sp dst dp n : Nat) : Nat := Nat.rec (motive := fun _ => Nat) dst (fun i ih => rput ih (rsh (Nat.add dp i)) (rslot src (rsh (Nat.add sp i)))) n
/-- what may lie in an array of objects: null, or a cell that isn't an external array -/
noncomputable def robj (v : Nat) (h : rH) (NB : Nat) : Bool := rc (Nat.beq v (nat_lit 8589934592)) true (rc (Nat.ble (nat_lit 4294967296) v) (rc (Nat.ble (Nat.succ v) NB) (rc (rasg (nat_lit 70) (Nat.mod (rget h (Nat.sub v (nat_lit 4294967296))) (nat_lit 1024))) (Nat.ble (rkind (rget h (Nat.sub v (nat_lit 4294967296)))) (nat_lit 1087)) false) false) false)
noncomputable def oCopy (kd : Nat) (q : Nat → rH → Nat → Bool) (ih : rG) (rest : rCode) (ls st : List Nat) (h : rH) (NB nc ns : Nat) (env : rE) : Bool := pop1 st (fun n st0 => pop1 st0 (fun dp st1 => pop1 st1 (fun d st2 => pop1 st2 (fun sp st3 => pop1 st3 (fun s st' => rcell s kd h NB (fun cs => rcell d kd h NB (fun cd =>
  rc (Nat.ble (Nat.add sp n) (rlen cs)) (rc (Nat.ble (Nat.add dp n) (rlen cd)) (rc (rall n sp (fun j => q (rslot cs (rsh j)) h NB)) (rset h (Nat.sub d (nat_lit 4294967296)) (rcopy cs sp cd dp n) (fun h' => ih rest ls st' h' NB nc ns env)) false) false) false)))))))
noncomputable def rpick (c : Bool) (x y : Nat) : Nat := Bool.rec (motive := fun _ => Nat) y x c
noncomputable def rmax2 (x y : Nat) : Nat := rpick (Nat.ble (rbias x) (rbias y)) y x
noncomputable def rmin2 (x y : Nat) : Nat := rpick (Nat.ble (rbias x) (rbias y)) x y
noncomputable def rabs2 (v : Nat) : Nat := r32 (rabs v)
noncomputable def oInit0 (ih : rG) (rest : rCode) (ls st : List Nat) (h : rH) (NB nc ns : Nat) (env : rE) : Bool := pop1 st (fun o st' => rc (Nat.ble (nat_lit 4294967296) o) (rc (Nat.ble (Nat.succ o) NB) (ih rest ls st' h NB nc ns env) false) false)
noncomputable def oClone (B1 B2 : Nat) (ih : rG) (rest : rCode) (ls st : List Nat) (h : rH) (NB nc ns : Nat) (env : rE) : Bool := pop1 st (fun o st' => rcell o (nat_lit 64) h NB (fun c => rc (rall (rlen c) 0 (fun j => risI (rslot c (rsh j)))) (rmk c (rlen c) B1 B2 h NB nc ns (fun h' => ih rest ls (NB :: st') h' (Nat.succ NB) (Nat.succ nc) (Nat.add ns (rlen c)) env)) false))
/-- the one, or the other -/
noncomputable def oMxn (lt : Nat → Nat → rE → (rE → Bool) → (rE → Bool) → Bool) (ih : rG) (rest : rCode) (ls st : List Nat) (h : rH) (NB nc ns : Nat) (env : rE) : Bool := pop1 st (fun b st1 => pop1 st1 (fun a st' => lt a b env (fun env' => ih rest ls (a :: st') h NB nc ns env') (fun env' => ih rest ls (b :: st') h NB nc ns env')))
/-- natives: 1001 max, 1002 min, 1003 abs, 1004 arraycopy of ints, 1005 clone of ints, 1006 Object.<init>, 1007 arraycopy of objects -/
noncomputable def oNat (a B1 B2 : Nat) (ih : rG) (rest : rCode) (ls st : List Nat) (h : rH) (NB nc ns : Nat) (env : rE) : Bool :=
  rc (rc (Nat.ble (rcats st) (nat_lit 16)) (rc (Nat.ble nc B1) (Nat.ble ns B2) false) false) (rc (Nat.beq a (nat_lit 1006)) (oInit0 ih rest ls st h NB nc ns env)
  (rc (Nat.beq a (nat_lit 1001)) (oMxn (fun a b env t e => rlt a b env e t) ih rest ls st h NB nc ns env)
  (rc (Nat.beq a (nat_lit 1002)) (oMxn (fun a b env t e => rlt b a env e t) ih rest ls st h NB nc ns env)
  (rc (Nat.beq a (nat_lit 1003)) (oUn rabs2 ih rest ls st h NB nc ns env)
  (rc (Nat.beq a (nat_lit 1004)) (oCopy (nat_lit 64) (fun v _ _ => risI v) ih rest ls st h NB nc ns env)
  (rc (Nat.beq a (nat_lit 1007)) (oCopy (nat_lit 70) robj ih rest ls st h NB nc ns env)
  (rc (Nat.beq a (nat_lit 1005)) (oClone B1 B2 ih rest ls st h NB nc ns env) false))))))) false
/-- the receiver's kind (0: none is wanted) -/
noncomputable def rrecv (kd : Nat) (args : List Nat) (h : rH) (NB : Nat) : Bool := rc (Nat.beq kd 0) true (List.rec (motive := fun _ => Bool) false (fun o _ _ => rcellr o kd h NB (fun c => Nat.ble (rkind c) (nat_lit 1087))) args)
noncomputable def relen (e : rE) : Nat := e.1
noncomputable def oCall (cf : rCF) (a b kd mi : Nat) (M : rM) (pc : Nat) (ih : rG) (rest : rCode) (ls st : List Nat) (h : rH) (NB nc ns : Nat) (env : rE) : Bool :=
  rpop b [] st (fun args st' => rc (rsbs (rpv (relen env)) ls) (rc (rsbt (rpv (relen env)) st') (rc (rrecv kd args h NB) (rc (Nat.ble (rcats st') 8) (rc (Nat.ble (Nat.add nc (mcel M a)) (mcel M mi)) (rc (Nat.ble (Nat.add ns (mslo M a)) (mslo M mi))
    (cf a args h NB env (fun v h' NB' env' => rc (Nat.ble v (nat_lit 73786976294838206464)) (ih rest ls (v :: st') h' NB' (Nat.add nc (mcel M a)) (Nat.add ns (mslo M a)) env')
      (rc (Nat.beq v (nat_lit 73786976294838206465)) (ih rest ls st' h' NB' (Nat.add nc (mcel M a)) (Nat.add ns (mslo M a)) env')
        (rc (Nat.beq (rlook (mhnd M mi) (Nat.add (Nat.mul 16 pc) (Nat.sub v (nat_lit 1180591620717411303424))) 0) 0) false
          (rc (Nat.ble (Nat.succ NB') (nat_lit 4294968319)) (rset h' (Nat.sub NB' (nat_lit 4294967296)) 0 (fun h'' => ih (rdrop (Nat.pred (rlook (mhnd M mi) (Nat.add (Nat.mul 16 pc) (Nat.sub v (nat_lit 1180591620717411303424))) 0)) (mcode M mi)) ls [NB'] h'' (Nat.succ NB') (Nat.add nc (mcel M a)) (Nat.add ns (mslo M a)) env')) false))))) false) false) false) false) false) false)
/-- what a frame made is within its method's room -/
noncomputable def rin (M : rM) (mi nc ns : Nat) (q : Bool) : Bool := rc (Nat.ble nc (mcel M mi)) (rc (Nat.ble ns (mslo M mi)) q false) false
/-- floats: by the model's own functions -/
noncomputable def risF (c : Nat) : Bool := rc (Nat.ble (nat_lit 34359738368) c) (Nat.ble c (nat_lit 38654705663)) false
noncomputable def risD (c : Nat) : Bool := Nat.beq (Nat.div c (nat_lit 18446744073709551616)) (nat_lit 2)
noncomputable def rfF (c : Nat) : UInt32 := UInt32.ofNat (Nat.sub c (nat_lit 34359738368))
noncomputable def rfD (c : Nat) : UInt64 := UInt64.ofNat (Nat.sub c (nat_lit 36893488147419103232))
noncomputable def rF (x : UInt32) : Nat := Nat.add (nat_lit 34359738368) x.toBitVec.toNat
noncomputable def rD (x : UInt64) : Nat := Nat.add (nat_lit 36893488147419103232) x.toBitVec.toNat
noncomputable def rn32 (x : UInt32) : Bool := Nat.ble (Nat.land x.toBitVec.toNat (nat_lit 2147483647)) (nat_lit 2139095040)
noncomputable def rn64 (x : UInt64) : Bool := Nat.ble (Nat.land x.toBitVec.toNat (nat_lit 9223372036854775807)) (nat_lit 9218868437227405312)
noncomputable def ri2b (c : Nat) : Nat := rc (Nat.ble (nat_lit 128) (Nat.mod c (nat_lit 256))) (Nat.add (nat_lit 4294967040) (Nat.mod c (nat_lit 256))) (Nat.mod c (nat_lit 256))
/-- i2b: a symbol between 0 and 127 stays itself -/
noncomputable def oI2b (ih : rG) (rest : rCode) (ls st : List Nat) (h : rH) (NB nc ns : Nat) (env : rE) : Bool := pop1 st (fun a st' => rc (rlit a) (ih rest ls (ri2b a :: st') h NB nc ns env)
  (rc (rsym a) (rc (Nat.ble (nat_lit 2147483648) (rnth env (rsi a)).1) (rlow (rsi a) (nat_lit 2147483776) env (fun env' => ih rest ls (a :: st') h NB nc ns env') (fun env' => rconc a env' (fun v env'' => ih rest ls (ri2b v :: st') h NB nc ns env''))) false) false))
/-- iushr: of a symbol from 16 to 31 by 8 it is 0, or a symbol 32 more -/
noncomputable def oUshr (ih : rG) (rest : rCode) (ls st : List Nat) (h : rH) (NB nc ns : Nat) (env : rE) : Bool := pop1 st (fun b st1 => pop1 st1 (fun a st' => rc (rlit a) (rbin fushr32 a b env (fun v env' => ih rest ls (v :: st') h NB nc ns env'))
  (rc (rc (Nat.beq b (nat_lit 8)) (rc (rsym a) (rc (Nat.ble (nat_lit 16) (rsi a)) (Nat.ble (rsi a) (nat_lit 31)) false) false) false)
    (rlow (rsi a) (nat_lit 2147483904) env (fun env' => ih rest ls (0 :: st') h NB nc ns env') (fun env' => ih rest ls (Nat.add a (nat_lit 32) :: st') h NB nc ns (rupd env' (Nat.add (rsi a) (nat_lit 32)) (nat_lit 2147483649, nat_lit 2147483903))))
    (rbin fushr32 a b env (fun v env' => ih rest ls (v :: st') h NB nc ns env')))))
noncomputable def oI2f (ih : rG) (rest : rCode) (ls st : List Nat) (h : rH) (NB nc ns : Nat) (env : rE) : Bool := pop1 st (fun a st' => rc (rlit a) (ih rest ls (rF (FP.i2f (Int32.ofNat a)) :: st') h NB nc ns env) false)
noncomputable def oFdiv (ih : rG) (rest : rCode) (ls st : List Nat) (h : rH) (NB nc ns : Nat) (env : rE) : Bool := pop1 st (fun b st1 => pop1 st1 (fun a st' => rc (risF a) (rc (risF b) (rc (rn32 (FP.fdiv (rfF a) (rfF b))) (ih rest ls (rF (FP.fdiv (rfF a) (rfF b)) :: st') h NB nc ns env) false) false) false))
noncomputable def oF2d (ih : rG) (rest : rCode) (ls st : List Nat) (h : rH) (NB nc ns : Nat) (env : rE) : Bool := pop1 st (fun a st' => rc (risF a) (rc (rn64 (FP.f2d (rfF a))) (ih rest ls (rD (FP.f2d (rfF a)) :: st') h NB nc ns env) false) false)
noncomputable def oDcmp (op : ClassFile.CmpOp) (ih : rG) (rest : rCode) (ls st : List Nat) (h : rH) (NB nc ns : Nat) (env : rE) : Bool := pop1 st (fun b st1 => pop1 st1 (fun a st' => rc (risD a) (rc (risD b) (ih rest ls (i32n (Op.cmpValue (FP.dcmp (rfD a) (rfD b)) op) :: st') h NB nc ns env) false) false))
noncomputable def oLoadD (i : Nat) (ih : rG) (rest : rCode) (ls st : List Nat) (h : rH) (NB nc ns : Nat) (env : rE) : Bool := rc (risD (lget ls i)) (ih rest ls (lget ls i :: st) h NB nc ns env) false
noncomputable def oDup (ih : rG) (rest : rCode) (ls st : List Nat) (h : rH) (NB nc ns : Nat) (env : rE) : Bool := pop1 st (fun a st' => rc (rcat1 a) (ih rest ls (a :: a :: st') h NB nc ns env) false)
noncomputable def oPop (ih : rG) (rest : rCode) (ls st : List Nat) (h : rH) (NB nc ns : Nat) (env : rE) : Bool := pop1 st (fun a st' => rc (rcat1 a) (ih rest ls st' h NB nc ns env) false)
noncomputable def oDupX1 (ih : rG) (rest : rCode) (ls st : List Nat) (h : rH) (NB nc ns : Nat) (env : rE) : Bool := pop1 st (fun a st1 => pop1 st1 (fun b st' => rc (rcat1 a) (rc (rcat1 b) (ih rest ls (a :: b :: a :: st') h NB nc ns env) false) false))
noncomputable def oDup2 (ih : rG) (rest : rCode) (ls st : List Nat) (h : rH) (NB nc ns : Nat) (env : rE) : Bool := pop1 st (fun a st1 => pop1 st1 (fun b st' => rc (rcat1 a) (rc (rcat1 b) (ih rest ls (a :: b :: a :: b :: st') h NB nc ns env) false) false))
noncomputable def oL2 (f : Nat → Nat → Nat) (ih : rG) (rest : rCode) (ls st : List Nat) (h : rH) (NB nc ns : Nat) (env : rE) : Bool := pop1 st (fun b st1 => pop1 st1 (fun a st' => rc (risL a) (rc (risL b) (ih rest ls (Nat.add (nat_lit 18446744073709551616) (Nat.mod (f (Nat.mod a (nat_lit 18446744073709551616)) (Nat.mod b (nat_lit 18446744073709551616))) (nat_lit 18446744073709551616)) :: st') h NB nc ns env) false) false))
noncomputable def rl64 (c : Nat) : Nat := Nat.mod (Nat.add c (nat_lit 9223372036854775808)) (nat_lit 18446744073709551616)
noncomputable def oLcmp (ih : rG) (rest : rCode) (ls st : List Nat) (h : rH) (NB nc ns : Nat) (env : rE) : Bool := pop1 st (fun b st1 => pop1 st1 (fun a st' => rc (risS a) (rc (Nat.beq a b) (ih rest ls (0 :: st') h NB nc ns env) false) (rc (risL a) (rc (risL b) (ih rest ls (rc (Nat.beq a b) 0 (rc (Nat.ble (rl64 a) (rl64 b)) (nat_lit 4294967295) 1) :: st') h NB nc ns env) false) false)))
noncomputable def rsx (c : Nat) : Nat := rc (rneg c) (Nat.add c (nat_lit 36893488143124135936)) (Nat.add c (nat_lit 18446744073709551616))
/-- i2l: of a symbol of 300 numbers the symbol as a long -/
noncomputable def rwide (a : Nat) (env : rE) : Bool := rc (rsym a) (Nat.beq (Nat.sub (rnth env (rsi a)).2 (rnth env (rsi a)).1) (nat_lit 299)) false
noncomputable def oI2l (ih : rG) (rest : rCode) (ls st : List Nat) (h : rH) (NB nc ns : Nat) (env : rE) : Bool := pop1 st (fun a st' => rc (rwide a env) (ih rest ls (Nat.add (nat_lit 55340232221128654848) (rsi a) :: st') h NB nc ns env) (rconc a env (fun v env' => ih rest ls (rsx v :: st') h NB nc ns env')))
noncomputable def oCast (kd : Nat) (ih : rG) (rest : rCode) (ls st : List Nat) (h : rH) (NB nc ns : Nat) (env : rE) : Bool := pop1 st (fun o st' => rc (Nat.beq o (nat_lit 8589934592)) (ih rest ls (o :: st') h NB nc ns env) (rcellr o kd h NB (fun c => rc (Nat.ble (rkind c) (nat_lit 1087)) (ih rest ls (o :: st') h NB nc ns env) false)))
noncomputable def rnoZ (_ : Nat) : Nat := nat_lit 0
noncomputable def atk (t : ClassFile.ArrayType) : Nat := match t with
  | .int => nat_lit 64
  | .boolean => nat_lit 65
  | .char => nat_lit 66
  | .long => nat_lit 67
  | .double => nat_lit 68
  | .byte => nat_lit 69
  | _ => nat_lit 999
noncomputable def rfill (v n : Nat) : Nat := Nat.rec (motive := fun _ => Nat) (nat_lit 0) (fun _ ih => Nat.add v (Nat.shiftLeft ih (nat_lit 72))) n
noncomputable def atv (t : ClassFile.ArrayType) : Nat := match t with
  | .long => nat_lit 18446744073709551616
  | .double => nat_lit 36893488147419103232
  | _ => nat_lit 0
abbrev rOp : Type := rCF → rM → (Nat → Nat) → Nat → rB → rK → rG → rEl → rCode → List Nat → List Nat → rH → Nat → Nat → Nat → rE → Bool
noncomputable def acmpEq (c : ClassFile.ACond) : Bool := match c with
  | .eq => true
  | .ne => false
noncomputable def x_nop : rOp := fun _ _ _ _ kb _ _ e _ ls st h NB nc ns env => kb e.2.1 ls st h NB nc ns env
noncomputable def x_iconst : rOp := fun _ _ _ _ _ _ ih e rest ls st h NB nc ns env => oPush e.2.2.2.1 ih rest ls st h NB nc ns env
noncomputable def x_bipush : rOp := fun _ _ _ _ _ _ ih e rest ls st h NB nc ns env => oPush e.2.2.2.1 ih rest ls st h NB nc ns env
noncomputable def x_sipush : rOp := fun _ _ _ _ _ _ ih e rest ls st h NB nc ns env => oPush e.2.2.2.1 ih rest ls st h NB nc ns env
noncomputable def x_lconst : rOp := fun _ _ _ _ _ _ ih e rest ls st h NB nc ns env => oPush e.2.2.2.1 ih rest ls st h NB nc ns env
noncomputable def x_dconst : rOp := fun _ _ _ _ _ _ ih e rest ls st h NB nc ns env => oPush e.2.2.2.1 ih rest ls st h NB nc ns env
noncomputable def x_ldc : rOp := fun _ _ _ _ _ _ ih e rest ls st h NB nc ns env => rc (Nat.ble e.2.2.1 3) (oPush e.2.2.2.1 ih rest ls st h NB nc ns env) false
noncomputable def x_ldc_w : rOp := fun _ _ _ _ _ _ ih e rest ls st h NB nc ns env => rc (Nat.ble e.2.2.1 3) (oPush e.2.2.2.1 ih rest ls st h NB nc ns env) false
noncomputable def x_ldc2_w : rOp := fun _ _ _ _ _ _ ih e rest ls st h NB nc ns env => rc (Nat.ble e.2.2.1 3) (oPush e.2.2.2.1 ih rest ls st h NB nc ns env) false
noncomputable def x_aconst_null : rOp := fun _ _ _ _ _ _ ih _ rest ls st h NB nc ns env => oPush (nat_lit 8589934592) ih rest ls st h NB nc ns env
noncomputable def x_getstatic : rOp := fun _ _ _ _ _ _ ih e rest ls st h NB nc ns env => oPush e.2.2.2.1 ih rest ls st h NB nc ns env
noncomputable def x_iload (i : Nat) : rOp := fun _ _ _ _ _ _ ih _ rest ls st h NB nc ns env => oLoadI i ih rest ls st h NB nc ns env
noncomputable def x_iload_n (i : Fin 4) : rOp := fun _ _ _ _ _ _ ih _ rest ls st h NB nc ns env => oLoadI i.val ih rest ls st h NB nc ns env
noncomputable def x_aload (i : Nat) : rOp := fun _ _ _ _ _ _ ih _ rest ls st h NB nc ns env => oLoadR i ih rest ls st h NB nc ns env
noncomputable def x_aload_n (i : Fin 4) : rOp := fun _ _ _ _ _ _ ih _ rest ls st h NB nc ns env => oLoadR i.val ih rest ls st h NB nc ns env
noncomputable def x_lload (i : Nat) : rOp := fun _ _ _ _ _ _ ih _ rest ls st h NB nc ns env => oLoadL i ih rest ls st h NB nc ns env
noncomputable def x_lload_n (i : Fin 4) : rOp := fun _ _ _ _ _ _ ih _ rest ls st h NB nc ns env => oLoadL i.val ih rest ls st h NB nc ns env
noncomputable def x_istore (i : Nat) : rOp := fun _ M _ mi _ _ ih _ rest ls st h NB nc ns env => oStore risI (mloc M mi) i ih rest ls st h NB nc ns env
noncomputable def x_istore_n (i : Fin 4) : rOp := fun _ M _ mi _ _ ih _ rest ls st h NB nc ns env => oStore risI (mloc M mi) i.val ih rest ls st h NB nc ns env
noncomputable def x_astore (i : Nat) : rOp := fun _ M _ mi _ _ ih _ rest ls st h NB nc ns env => oStore risR (mloc M mi) i ih rest ls st h NB nc ns env
noncomputable def x_astore_n (i : Fin 4) : rOp := fun _ M _ mi _ _ ih _ rest ls st h NB nc ns env => oStore risR (mloc M mi) i.val ih rest ls st h NB nc ns env
noncomputable def x_lstore (i : Nat) : rOp := fun _ M _ mi _ _ ih _ rest ls st h NB nc ns env => oStore2 risL (mloc M mi) i ih rest ls st h NB nc ns env
noncomputable def x_lstore_n (i : Fin 4) : rOp := fun _ M _ mi _ _ ih _ rest ls st h NB nc ns env => oStore2 risL (mloc M mi) i.val ih rest ls st h NB nc ns env
noncomputable def x_iinc (i : Nat) : rOp := fun _ M _ mi _ _ ih e rest ls st h NB nc ns env => rc (Nat.ble (Nat.succ i) (mloc M mi)) (oIinc i e.2.2.2.1 ih rest ls st h NB nc ns env) false
noncomputable def x_iadd : rOp := fun _ _ _ _ _ _ ih _ rest ls st h NB nc ns env => oAdd ih rest ls st h NB nc ns env
noncomputable def x_isub : rOp := fun _ _ _ _ _ _ ih _ rest ls st h NB nc ns env => oAr fsub32 bsub ih rest ls st h NB nc ns env
noncomputable def x_imul : rOp := fun _ _ _ _ _ _ ih _ rest ls st h NB nc ns env => oAr fmul32 bmul ih rest ls st h NB nc ns env
noncomputable def x_idiv : rOp := fun _ _ _ _ _ _ ih _ rest ls st h NB nc ns env => oDiv fdiv32 bdiv ih rest ls st h NB nc ns env
noncomputable def x_irem : rOp := fun _ _ _ _ _ _ ih _ rest ls st h NB nc ns env => oDiv frem32 brem ih rest ls st h NB nc ns env
noncomputable def x_iand : rOp := fun _ _ _ _ _ _ ih _ rest ls st h NB nc ns env => oAnd ih rest ls st h NB nc ns env
noncomputable def x_ior : rOp := fun _ _ _ _ _ _ ih _ rest ls st h NB nc ns env => oBin Nat.lor ih rest ls st h NB nc ns env
noncomputable def x_ixor : rOp := fun _ _ _ _ _ _ ih _ rest ls st h NB nc ns env => oBin Nat.xor ih rest ls st h NB nc ns env
noncomputable def x_ishl : rOp := fun _ _ _ _ _ _ ih _ rest ls st h NB nc ns env => oBin fshl32 ih rest ls st h NB nc ns env
noncomputable def x_ishr : rOp := fun _ _ _ _ _ _ ih _ rest ls st h NB nc ns env => oBin fshr32 ih rest ls st h NB nc ns env
noncomputable def x_iushr : rOp := fun _ _ _ _ _ _ ih _ rest ls st h NB nc ns env => oUshr ih rest ls st h NB nc ns env
noncomputable def x_i2b : rOp := fun _ _ _ _ _ _ ih _ rest ls st h NB nc ns env => oI2b ih rest ls st h NB nc ns env
noncomputable def x_ineg : rOp := fun _ _ _ _ _ _ ih _ rest ls st h NB nc ns env => oUn rmin ih rest ls st h NB nc ns env
noncomputable def x_i2c : rOp := fun _ _ _ _ _ _ ih _ rest ls st h NB nc ns env => oI2c ih rest ls st h NB nc ns env
noncomputable def x_i2l : rOp := fun _ _ _ _ _ _ ih _ rest ls st h NB nc ns env => oI2l ih rest ls st h NB nc ns env
noncomputable def x_ladd : rOp := fun _ _ _ _ _ _ ih _ rest ls st h NB nc ns env => oL2 Nat.add ih rest ls st h NB nc ns env
noncomputable def x_lmul : rOp := fun _ _ _ _ _ _ ih _ rest ls st h NB nc ns env => oL2 Nat.mul ih rest ls st h NB nc ns env
noncomputable def x_lcmp : rOp := fun _ _ _ _ _ _ ih _ rest ls st h NB nc ns env => oLcmp ih rest ls st h NB nc ns env
noncomputable def x_dup : rOp := fun _ _ _ _ _ _ ih _ rest ls st h NB nc ns env => oDup ih rest ls st h NB nc ns env
noncomputable def x_pop : rOp := fun _ _ _ _ _ _ ih _ rest ls st h NB nc ns env => oPop ih rest ls st h NB nc ns env
noncomputable def x_dup_x1 : rOp := fun _ _ _ _ _ _ ih _ rest ls st h NB nc ns env => oDupX1 ih rest ls st h NB nc ns env
noncomputable def x_dup2 : rOp := fun _ _ _ _ _ _ ih _ rest ls st h NB nc ns env => oDup2 ih rest ls st h NB nc ns env
noncomputable def x_ifCond (c : ClassFile.Cond) : rOp := fun _ M _ mi _ _ ih e rest ls st h NB nc ns env => oIf (rcond c) (rdrop e.2.2.1 (mcode M mi)) ih rest ls st h NB nc ns env
noncomputable def x_if_icmp (c : ClassFile.Cond) : rOp := fun _ M _ mi _ _ ih e rest ls st h NB nc ns env => oIcmp (rcond c) (rdrop e.2.2.1 (mcode M mi)) ih rest ls st h NB nc ns env
noncomputable def x_if_acmp (c : ClassFile.ACond) : rOp := fun _ M _ mi _ _ ih e rest ls st h NB nc ns env => rc (acmpEq c) (oAcmp (rdrop e.2.2.1 (mcode M mi)) rest ih ls st h NB nc ns env) (oAcmp rest (rdrop e.2.2.1 (mcode M mi)) ih ls st h NB nc ns env)
noncomputable def x_ifnull : rOp := fun _ M _ mi _ _ ih e rest ls st h NB nc ns env => oNull (rdrop e.2.2.1 (mcode M mi)) rest ih ls st h NB nc ns env
noncomputable def x_ifnonnull : rOp := fun _ M _ mi _ _ ih e rest ls st h NB nc ns env => oNull rest (rdrop e.2.2.1 (mcode M mi)) ih ls st h NB nc ns env
noncomputable def x_goto : rOp := fun _ M _ mi _ _ ih e _ ls st h NB nc ns env => ih (rdrop e.2.2.1 (mcode M mi)) ls st h NB nc ns env
noncomputable def x_tableswitch : rOp := fun _ M _ mi _ _ ih e _ ls st h NB nc ns env => pop1 st (fun x st' => rsw x e.2.2.2.2 e.2.2.2.1 env (fun tg env' => ih (rdrop tg (mcode M mi)) ls st' h NB nc ns env'))
noncomputable def x_lookupswitch : rOp := fun _ M _ mi _ _ ih e _ ls st h NB nc ns env => pop1 st (fun x st' => rsw x e.2.2.2.2 e.2.2.2.1 env (fun tg env' => ih (rdrop tg (mcode M mi)) ls st' h NB nc ns env'))
noncomputable def x_getfield : rOp := fun _ _ _ _ _ _ ih e rest ls st h NB nc ns env => rc (Nat.beq e.2.2.1 0) false (oGet e.2.2.1 e.2.2.2.1 ih rest ls st h NB nc ns env)
noncomputable def x_putfield : rOp := fun _ _ _ _ _ _ ih e rest ls st h NB nc ns env => rc (Nat.beq e.2.2.1 0) false (oPut (rtb e.2.2.2.2) e.2.2.1 e.2.2.2.1 ih rest ls st h NB nc ns env)
noncomputable def x_iaload : rOp := fun _ _ _ _ _ _ ih _ rest ls st h NB nc ns env => oAld (nat_lit 64) ih rest ls st h NB nc ns env
noncomputable def x_baload : rOp := fun _ _ _ _ _ _ ih e rest ls st h NB nc ns env => rc (Nat.beq e.2.2.1 (nat_lit 69)) false (oAld (nat_lit 65) ih rest ls st h NB nc ns env)
noncomputable def x_caload : rOp := fun _ _ _ _ _ _ ih _ rest ls st h NB nc ns env => oAld (nat_lit 66) ih rest ls st h NB nc ns env
noncomputable def x_laload : rOp := fun _ _ _ _ _ _ ih _ rest ls st h NB nc ns env => oAld (nat_lit 67) ih rest ls st h NB nc ns env
noncomputable def x_aaload : rOp := fun _ _ _ _ _ _ ih e rest ls st h NB nc ns env => oAld e.2.2.1 ih rest ls st h NB nc ns env
noncomputable def x_iastore : rOp := fun _ _ _ _ _ _ ih _ rest ls st h NB nc ns env => oAst 0 (nat_lit 64) ih rest ls st h NB nc ns env
noncomputable def x_bastore : rOp := fun _ _ _ _ _ _ ih _ rest ls st h NB nc ns env => oAst 1 (nat_lit 65) ih rest ls st h NB nc ns env
noncomputable def x_castore : rOp := fun _ _ _ _ _ _ ih _ rest ls st h NB nc ns env => oAst 2 (nat_lit 66) ih rest ls st h NB nc ns env
noncomputable def x_lastore : rOp := fun _ _ _ _ _ _ ih _ rest ls st h NB nc ns env => oAst 3 (nat_lit 67) ih rest ls st h NB nc ns env
noncomputable def x_aastore : rOp := fun _ _ _ _ _ _ ih e rest ls st h NB nc ns env => oAast e.2.2.1 ih rest ls st h NB nc ns env
noncomputable def x_arraylength : rOp := fun _ _ _ _ _ _ ih _ rest ls st h NB nc ns env => oLen ih rest ls st h NB nc ns env
noncomputable def x_new : rOp := fun _ M BL mi _ k ih e rest ls st h NB nc ns env => rc (Nat.beq e.2.2.1 0) (rc (Nat.ble (rcats st) (nat_lit 16)) (rc (Nat.ble (Nat.succ nc) (mcel M mi)) (rc (Nat.ble (Nat.add ns 6) (mslo M mi)) (k (Nat.add (nat_lit 1180591620717411303424) e.2.2.2.1) h NB env) false) false) false) (oNew (BL e.2.2.1) (mcel M mi) (mslo M mi) ih rest ls st h NB nc ns env)
noncomputable def x_newarray (t : ClassFile.ArrayType) : rOp := fun _ M _ mi _ _ ih _ rest ls st h NB nc ns env => oNewA (atk t) (rfill (atv t)) (mcel M mi) (mslo M mi) ih rest ls st h NB nc ns env
noncomputable def x_anewarray : rOp := fun _ M _ mi _ _ ih e rest ls st h NB nc ns env => oNewA e.2.2.1 rnulls (mcel M mi) (mslo M mi) ih rest ls st h NB nc ns env
noncomputable def x_multianewarray : rOp := fun _ M _ mi _ _ ih e rest ls st h NB nc ns env => oMulti e.2.2.1 (rc (Nat.beq e.2.2.1 (nat_lit 75)) (nat_lit 74) (nat_lit 64)) (rc (Nat.beq e.2.2.1 (nat_lit 75)) rnulls rnoZ) (mcel M mi) (mslo M mi) ih rest ls st h NB nc ns env
noncomputable def x_checkcast : rOp := fun _ _ _ _ _ _ ih e rest ls st h NB nc ns env => rc (Nat.beq e.2.2.1 0) false (oCast e.2.2.1 ih rest ls st h NB nc ns env)
noncomputable def x_invokevirtual : rOp := fun cf M _ mi _ _ ih e rest ls st h NB nc ns env => rc (Nat.beq e.2.2.1 0) false (rc (Nat.ble (nat_lit 1000) e.2.2.1) (oNat e.2.2.1 (mcel M mi) (mslo M mi) ih rest ls st h NB nc ns env) (oCall cf e.2.2.1 e.2.2.2.1 (rtb e.2.2.2.2) mi M e.2.1 ih rest ls st h NB nc ns env))
noncomputable def x_invokespecial : rOp := fun cf M _ mi _ _ ih e rest ls st h NB nc ns env => rc (Nat.beq e.2.2.1 0) false (rc (Nat.ble (nat_lit 1000) e.2.2.1) (oNat e.2.2.1 (mcel M mi) (mslo M mi) ih rest ls st h NB nc ns env) (oCall cf e.2.2.1 e.2.2.2.1 (rtb e.2.2.2.2) mi M e.2.1 ih rest ls st h NB nc ns env))
noncomputable def x_invokestatic : rOp := fun cf M _ mi _ _ ih e rest ls st h NB nc ns env => rc (Nat.beq e.2.2.1 0) false (rc (Nat.ble (nat_lit 1000) e.2.2.1) (oNat e.2.2.1 (mcel M mi) (mslo M mi) ih rest ls st h NB nc ns env) (oCall cf e.2.2.1 e.2.2.2.1 (rtb e.2.2.2.2) mi M e.2.1 ih rest ls st h NB nc ns env))
noncomputable def x_invokeinterface : rOp := fun cf M _ mi _ _ ih e rest ls st h NB nc ns env => rc (Nat.beq e.2.2.1 0) false (oCall cf e.2.2.1 e.2.2.2.1 (rtb e.2.2.2.2) mi M e.2.1 ih rest ls st h NB nc ns env)
noncomputable def x_ireturn : rOp := fun _ M _ mi _ k _ e _ _ st h NB nc ns env => rin M mi nc ns (rret (rty e.2.2.1) k st h NB env)
noncomputable def x_areturn : rOp := fun _ M _ mi _ k _ _ _ _ st h NB nc ns env => rin M mi nc ns (rret risR k st h NB env)
noncomputable def x_lreturn : rOp := fun _ M _ mi _ k _ _ _ _ st h NB nc ns env => rin M mi nc ns (rret risL k st h NB env)
noncomputable def x_freturn : rOp := fun _ M _ mi _ k _ _ _ _ st h NB nc ns env => rin M mi nc ns (rret risF k st h NB env)
noncomputable def x_dreturn : rOp := fun _ M _ mi _ k _ _ _ _ st h NB nc ns env => rin M mi nc ns (rret risD k st h NB env)
noncomputable def x_return_ : rOp := fun _ M _ mi _ k _ _ _ _ st h NB nc ns env => rin M mi nc ns (List.rec (motive := fun _ => Bool) (k (nat_lit 73786976294838206465) h NB env) (fun _ _ _ => false) st)
noncomputable def x_i2f : rOp := fun _ _ _ _ _ _ ih _ rest ls st h NB nc ns env => oI2f ih rest ls st h NB nc ns env
noncomputable def x_fdiv : rOp := fun _ _ _ _ _ _ ih _ rest ls st h NB nc ns env => oFdiv ih rest ls st h NB nc ns env
noncomputable def x_f2d : rOp := fun _ _ _ _ _ _ ih _ rest ls st h NB nc ns env => oF2d ih rest ls st h NB nc ns env
noncomputable def x_dcmp (op : ClassFile.CmpOp) : rOp := fun _ _ _ _ _ _ ih _ rest ls st h NB nc ns env => oDcmp op ih rest ls st h NB nc ns env
noncomputable def x_dload (i : Nat) : rOp := fun _ _ _ _ _ _ ih _ rest ls st h NB nc ns env => oLoadD i ih rest ls st h NB nc ns env
noncomputable def x_dstore (i : Nat) : rOp := fun _ M _ mi _ _ ih _ rest ls st h NB nc ns env => oStore2 risD (mloc M mi) i ih rest ls st h NB nc ns env
noncomputable def x_no : rOp := fun _ _ _ _ _ _ _ _ _ _ _ _ _ _ _ _ => false
/-- an instruction's step, in a pair (so that the kernel keeps it) -/
noncomputable def rop (i : Instr) : rOp × Unit := match i with
  | .nop => (x_nop, ())
  | .iconst _ => (x_iconst, ())
  | .bipush _ => (x_bipush, ())
  | .sipush _ => (x_sipush, ())
  | .lconst _ => (x_lconst, ())
  | .dconst _ => (x_dconst, ())
  | .ldc _ => (x_ldc, ())
  | .ldc_w _ => (x_ldc_w, ())
  | .ldc2_w _ => (x_ldc2_w, ())
  | .aconst_null => (x_aconst_null, ())
  | .getstatic _ => (x_getstatic, ())
  | .iload i => (x_iload i, ())
  | .iload_n i => (x_iload_n i, ())
  | .aload i => (x_aload i, ())
  | .aload_n i => (x_aload_n i, ())
  | .lload i => (x_lload i, ())
  | .lload_n i => (x_lload_n i, ())
  | .istore i => (x_istore i, ())
  | .istore_n i => (x_istore_n i, ())
  | .astore i => (x_astore i, ())
  | .astore_n i => (x_astore_n i, ())
  | .lstore i => (x_lstore i, ())
  | .lstore_n i => (x_lstore_n i, ())
  | .iinc i _ => (x_iinc i, ())
  | .iadd => (x_iadd, ())
  | .isub => (x_isub, ())
  | .imul => (x_imul, ())
  | .idiv => (x_idiv, ())
  | .irem => (x_irem, ())
  | .iand => (x_iand, ())
  | .ior => (x_ior, ())
  | .ixor => (x_ixor, ())
  | .ishl => (x_ishl, ())
  | .ishr => (x_ishr, ())
  | .iushr => (x_iushr, ())
  | .ineg => (x_ineg, ())
  | .i2c => (x_i2c, ())
  | .i2l => (x_i2l, ())
  | .i2b => (x_i2b, ())
  | .ladd => (x_ladd, ())
  | .lmul => (x_lmul, ())
  | .lcmp => (x_lcmp, ())
  | .dup => (x_dup, ())
  | .pop => (x_pop, ())
  | .dup_x1 => (x_dup_x1, ())
  | .dup2 => (x_dup2, ())
  | .ifCond c _ => (x_ifCond c, ())
  | .if_icmp c _ => (x_if_icmp c, ())
  | .if_acmp c _ => (x_if_acmp c, ())
  | .ifnull _ => (x_ifnull, ())
  | .ifnonnull _ => (x_ifnonnull, ())
  | .goto _ => (x_goto, ())
  | .tableswitch _ _ _ _ => (x_tableswitch, ())
  | .lookupswitch _ _ => (x_lookupswitch, ())
  | .getfield _ => (x_getfield, ())
  | .putfield _ => (x_putfield, ())
  | .iaload => (x_iaload, ())
  | .baload => (x_baload, ())
  | .caload => (x_caload, ())
  | .laload => (x_laload, ())
  | .aaload => (x_aaload, ())
  | .iastore => (x_iastore, ())
  | .bastore => (x_bastore, ())
  | .castore => (x_castore, ())
  | .lastore => (x_lastore, ())
  | .aastore => (x_aastore, ())
  | .arraylength => (x_arraylength, ())
  | .new _ => (x_new, ())
  | .newarray t => (x_newarray t, ())
  | .anewarray _ => (x_anewarray, ())
  | .multianewarray _ _ => (x_multianewarray, ())
  | .checkcast _ => (x_checkcast, ())
  | .invokevirtual _ => (x_invokevirtual, ())
  | .invokespecial _ => (x_invokespecial, ())
  | .invokestatic _ => (x_invokestatic, ())
  | .invokeinterface _ _ => (x_invokeinterface, ())
  | .ireturn => (x_ireturn, ())
  | .areturn => (x_areturn, ())
  | .lreturn => (x_lreturn, ())
  | .freturn => (x_freturn, ())
  | .dreturn => (x_dreturn, ())
  | .i2f => (x_i2f, ())
  | .fdiv => (x_fdiv, ())
  | .f2d => (x_f2d, ())
  | .dcmp op => (x_dcmp op, ())
  | .dload i => (x_dload i, ())
  | .dstore i => (x_dstore i, ())
  | .return_ => (x_return_, ())
  | _ => (x_no, ())
/-- n steps at most of one frame; calls by cf -/
noncomputable def rrun (cf : rCF) (M : rM) (BL : Nat → Nat) (mi : Nat) (kb : rB) (k : rK) (n : Nat) : rG := Nat.rec (motive := fun _ => rG) (fun _ _ _ _ _ _ _ _ => false)
  (fun _ ih L ls st h NB nc ns env => List.rec (motive := fun _ => Bool) false (fun e rest _ => Prod.rec (motive := fun _ => Bool) (fun f _ => f cf M BL mi kb k ih e rest ls st h NB nc ns env) (rop e.1)) L) n
noncomputable def rcnt (l : List Nat) : Nat := List.rec (motive := fun _ => Nat) 0 (fun _ _ ih => Nat.succ ih) l
/-- calls to the depth d; calls of which ov says so by what is known of them -/
noncomputable def rcall (M : rM) (BL : Nat → Nat) (ov : Nat → Bool) (of : rCF) (d : Nat) : rCF := Nat.rec (motive := fun _ => rCF) (fun _ _ _ _ _ _ => false)
  (fun _ ih a args h NB env k => rc (ov a) (of a args h NB env k) (rc (Nat.ble (rcnt args) (mloc M a)) (rrun ih M BL a (fun _ _ _ _ _ _ _ _ => false) k (nat_lit 100000) (mcode M a) args [] h NB 0 0 env) false)) d

/-! FORGETTING AND RENAMING CELLS, LOOPS IN CHUNKS: the functions -/
noncomputable def rAll (n : Nat) (p : Nat → Bool) : Bool := Nat.rec (motive := fun _ => Bool) true (fun i ih => rc (p i) ih false) n
/-- the first tree is the second, but for cells that are forgotten -/
noncomputable def rsub (t : rH) : rH → Bool := Lean.RArray.rec (motive := fun _ => rH → Bool) (fun x u => Lean.RArray.rec (motive := fun _ => Bool) (fun y => rc (Nat.beq x 0) true (Nat.beq x y)) (fun _ _ _ _ _ => false) u)
  (fun p _ _ il ir u => Lean.RArray.rec (motive := fun _ => Bool) (fun _ => false) (fun q l r _ _ => rc (Nat.beq p q) (rc (il l) (ir r) false) false) u) t
/-- references of the cells below n are below NB -/
noncomputable def rwb (NB : Nat) (h : rH) (n : Nat) : Bool := rAll n (fun a => rAll (rlen (rget h a)) (fun j => rc (rc (Nat.ble (rslot (rget h a) (rsh j)) (nat_lit 4294967295)) true (Nat.ble (nat_lit 8589934592) (rslot (rget h a) (rsh j)))) true (Nat.ble (Nat.succ (rslot (rget h a) (rsh j))) NB)))
/-- a slot's code under the new addresses and under the old ones -/
noncomputable def rgm (mp : List (Nat × Nat)) (a : Nat) : Nat := rlook mp a a
noncomputable def rrs (mp : List (Nat × Nat)) (NB' x y : Nat) : Bool := rc (rc (Nat.ble x (nat_lit 4294967295)) true (Nat.ble (nat_lit 8589934592) x)) (Nat.beq x y) (rc (Nat.ble (Nat.succ x) NB') (Nat.beq y (Nat.add (nat_lit 4294967296) (rgm mp (Nat.sub x (nat_lit 4294967296))))) false)
noncomputable def rrc (mp : List (Nat × Nat)) (NB' c' c : Nat) : Bool := rc (Nat.beq c' 0) true (rc (Nat.beq (rkind c') (rkind c)) (rc (Nat.beq (rlen c') (rlen c)) (rAll (rlen c) (fun j => rrs mp NB' (rslot c' (rsh j)) (rslot c (rsh j)))) false) false)
noncomputable def rkeys (mp : List (Nat × Nat)) (n : Nat) : Bool := List.rec (motive := fun _ => Bool) true (fun q _ ih => rc (Nat.ble n q.1) ih false) mp
noncomputable def rrenB (mp : List (Nat × Nat)) (NB0 NB' NB : Nat) (h' h : rH) : Bool := rc (Nat.ble (nat_lit 4294967360) NB0) (rc (Nat.ble NB0 NB') (rc (Nat.ble NB' NB) (rc (rkeys mp (Nat.sub NB0 (nat_lit 4294967296)))
  (rc (rAll (Nat.sub NB' (nat_lit 4294967296)) (fun a => rc (rrc mp NB' (rget h' a) (rget h (rgm mp a))) (Nat.ble (Nat.succ (Nat.add (rgm mp a) (nat_lit 4294967296))) NB) false))
    (rAll (Nat.sub NB' NB0) (fun i => rc (Nat.ble (Nat.sub NB0 (nat_lit 4294967296)) (rgm mp (Nat.add (Nat.sub NB0 (nat_lit 4294967296)) i))) (rAll i (fun j => rc (Nat.beq (rgm mp (Nat.add (Nat.sub NB0 (nat_lit 4294967296)) i)) (rgm mp (Nat.add (Nat.sub NB0 (nat_lit 4294967296)) j))) false true)) false)) false) false) false) false) false
noncomputable def rlp (cf : rCF) (a pc0 : Nat) (L : rCode) (k : rK) (kend : rB) (n : Nat) : rB := Nat.rec (motive := fun _ => rB) kend (fun _ ih pc ls st h NB nc ns env => rc (Nat.beq pc pc0) (rrun cf rMt rBL a ih k (nat_lit 100000) L ls st h NB nc ns env) false) n
/-- behind the mark -/
noncomputable def rLt (a pc : Nat) : rCode := List.rec (motive := fun _ => rCode) [] (fun _ t _ => t) (rdrop pc (mcode rMt a))
noncomputable def rHp (L : rCode) (pc : Nat) : Bool := List.rec (motive := fun _ => Bool) true (fun e _ _ => Nat.beq e.2.1 pc) L
/-- a mark where the cells are at new addresses -/
noncomputable def rls (NB0 : Nat) (ls : List Nat) : Bool := List.rec (motive := fun _ => Bool) true (fun x _ ih => rc (rc (rc (Nat.ble x (nat_lit 4294967295)) true (Nat.ble (nat_lit 8589934592) x)) true (Nat.ble (Nat.succ x) NB0)) ih false) ls
noncomputable def rRn (mp : List (Nat × Nat)) (NB0 pc0 : Nat) (ls0 : List Nat) (h0 : rH) (NB1 nc0 ns0 : Nat) (env0 : rE) : rB := fun pc ls st h NB nc ns env => rc (Nat.beq pc pc0) (rc (reqL ls ls0) (rc (reqL st []) (rc (Nat.beq nc nc0) (rc (Nat.beq ns ns0) (rc (reqE env env0) (rc (rls NB0 ls0) (rrenB mp NB0 NB1 NB h0 h) false) false) false) false) false) false) false

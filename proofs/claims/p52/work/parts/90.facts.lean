/-! WHAT THE TABLES SAY OF CLASSES, METHODS, EXCEPTIONS, NATIVES -/
def rSS : rSt := []
def rSR : rSr := [("Orbithouse$Memory", "FIRST_BYTES", "[I", 1)]
def rSI : rSi := []
def rNC : List (Nat × Nat) := []
def rxn : Nat → String := fun k => match k with
  | 1 => "java/lang/IllegalArgumentException"
  | 2 => "java/lang/IllegalStateException"
  | 3 => "java/lang/IndexOutOfBoundsException"
  | 4 => "java/util/NoSuchElementException"
  | 5 => "java/lang/IllegalArgumentException"
  | _ => ""
def rXN : Nat → List String := fun _ => ["java/lang/RuntimeException", "java/lang/Exception"]
def rHT : List (Nat × Nat × Nat × Nat) := []
def rKT : Nat → Nat → FieldType := fun ci => match ci with
  | 0 => tyJ0
  | 1 => tyJx00060
  | 2 => tyX0
  | 3 => tyX1
  | 4 => tyX2
  | 5 => tyX3
  | 6 => tyX4
  | 7 => tyX5
  | 8 => tyX6
  | 9 => tyX7
  | 10 => tyX8
  | 11 => tyX9
  | 12 => tyX10
  | _ => tyX11
noncomputable def rPP (a : Nat) : Nat × Nat × Nat := Lean.RArray.rec (motive := fun _ => Nat × Nat × Nat) (fun x => x) (fun p _ _ l r => rc (Nat.ble p a) r l) pT
def rNM : Nat := 247
theorem glay {C : String} {T : u_T} {N : Nat} (h : ∀ w ∈ u_ws C T N, w ∈ lw_tbl) : ∀ w ∈ u_ws C T N, w ∈ gT := fun w hw => by
  refine gT_in (h w hw) ?_
  obtain ⟨k, -, rfl⟩ := List.mem_map.mp hw
  unfold u_lay
  split <;> rfl
noncomputable def rBk (c ci N : Nat) (ty : Nat → FieldType) : Bool := Nat.beq (c % 65536) (ci + 1) && (Nat.beq (rlen c) N && (List.range N).all (fun j => Nat.beq (rslot c (rsh j)) (rdef (ty j))))
theorem rBk_ok {c ci N : Nat} {ty : Nat → FieldType} (h : rBk c ci N ty = true) : rBlank c ci N ty := by
  unfold rBk at h
  rw [Bool.and_eq_true, Bool.and_eq_true] at h
  exact ⟨beq_eq h.1, beq_eq h.2.1, fun j hj => beq_eq (List.all_eq_true.mp h.2.2 j (List.mem_range.mpr hj))⟩
theorem rCf_0 : rCl 0 RJ0 TJ0 2 tyJ0 ∧ rBlank (rBL 1) 0 2 tyJ0 := ⟨⟨rfl, glay inJ0, tyJ0_ok, nmJ0⟩, rBk_ok (by decide +kernel)⟩
theorem rCf_1 : rCl 1 RJx00060 TJx00060 6 tyJx00060 ∧ rBlank (rBL 2) 1 6 tyJx00060 := ⟨⟨rfl, glay inJx00060, tyJx00060_ok, nmJx00060⟩, rBk_ok (by decide +kernel)⟩
theorem rCf_2 : rCl 2 RX0 TX0 20 tyX0 ∧ rBlank (rBL 3) 2 20 tyX0 := ⟨⟨rfl, glay inX0, tyX0_ok, nmX0⟩, rBk_ok (by decide +kernel)⟩
theorem rCf_3 : rCl 3 RX1 TX1 7 tyX1 ∧ rBlank (rBL 4) 3 7 tyX1 := ⟨⟨rfl, glay inX1, tyX1_ok, nmX1⟩, rBk_ok (by decide +kernel)⟩
theorem rCf_4 : rCl 4 RX2 TX2 19 tyX2 ∧ rBlank (rBL 5) 4 19 tyX2 := ⟨⟨rfl, glay inX2, tyX2_ok, nmX2⟩, rBk_ok (by decide +kernel)⟩
theorem rCf_5 : rCl 5 RX3 TX3 19 tyX3 ∧ rBlank (rBL 6) 5 19 tyX3 := ⟨⟨rfl, glay inX3, tyX3_ok, nmX3⟩, rBk_ok (by decide +kernel)⟩
theorem rCf_6 : rCl 6 RX4 TX4 13 tyX4 ∧ rBlank (rBL 7) 6 13 tyX4 := ⟨⟨rfl, glay inX4, tyX4_ok, nmX4⟩, rBk_ok (by decide +kernel)⟩
theorem rCf_7 : rCl 7 RX5 TX5 11 tyX5 ∧ rBlank (rBL 8) 7 11 tyX5 := ⟨⟨rfl, glay inX5, tyX5_ok, nmX5⟩, rBk_ok (by decide +kernel)⟩
theorem rCf_8 : rCl 8 RX6 TX6 10 tyX6 ∧ rBlank (rBL 9) 8 10 tyX6 := ⟨⟨rfl, glay inX6, tyX6_ok, nmX6⟩, rBk_ok (by decide +kernel)⟩
theorem rCf_9 : rCl 9 RX7 TX7 4 tyX7 ∧ rBlank (rBL 10) 9 4 tyX7 := ⟨⟨rfl, glay inX7, tyX7_ok, nmX7⟩, rBk_ok (by decide +kernel)⟩
theorem rCf_10 : rCl 10 RX8 TX8 17 tyX8 ∧ rBlank (rBL 11) 10 17 tyX8 := ⟨⟨rfl, glay inX8, tyX8_ok, nmX8⟩, rBk_ok (by decide +kernel)⟩
theorem rCf_11 : rCl 11 RX9 TX9 15 tyX9 ∧ rBlank (rBL 12) 11 15 tyX9 := ⟨⟨rfl, glay inX9, tyX9_ok, nmX9⟩, rBk_ok (by decide +kernel)⟩
theorem rCf_12 : rCl 12 RX10 TX10 9 tyX10 ∧ rBlank (rBL 13) 12 9 tyX10 := ⟨⟨rfl, glay inX10, tyX10_ok, nmX10⟩, rBk_ok (by decide +kernel)⟩
theorem rCf_13 : rCl 13 RX11 TX11 13 tyX11 ∧ rBlank (rBL 14) 13 13 tyX11 := ⟨⟨rfl, glay inX11, tyX11_ok, nmX11⟩, rBk_ok (by decide +kernel)⟩
theorem rCf (ci : Nat) (q : vw_C) (h : vwCl[ci]? = some q) : rCl ci q.1 q.2.1 q.2.2 (rKT ci) ∧ rBlank (rBL (ci + 1)) ci q.2.2 (rKT ci) := by
  match ci, h with
  | 0, h => cases h; exact rCf_0
  | 1, h => cases h; exact rCf_1
  | 2, h => cases h; exact rCf_2
  | 3, h => cases h; exact rCf_3
  | 4, h => cases h; exact rCf_4
  | 5, h => cases h; exact rCf_5
  | 6, h => cases h; exact rCf_6
  | 7, h => cases h; exact rCf_7
  | 8, h => cases h; exact rCf_8
  | 9, h => cases h; exact rCf_9
  | 10, h => cases h; exact rCf_10
  | 11, h => cases h; exact rCf_11
  | 12, h => cases h; exact rCf_12
  | 13, h => cases h; exact rCf_13
  | n + 14, h =>
    have h2 : n + 14 < 14 := (List.getElem?_eq_some_iff.mp h).1
    omega
noncomputable def rMeB (a : Nat) : Bool := true && (decide ((mSt a).1.cls ≠ "java/lang/invoke/MethodHandle") && (decide ((mSt a).1.cls ≠ "java/lang/invoke/VarHandle") && (decide ((parseMethodDescriptor (mSt a).1.desc).map (fun d => d.parameters.length) = some (rPP a).2.2) && (rIsC (wW (rget cP a)) && goodWord (wW (rget cP a))))))
theorem rMeB_ok {a : Nat} (h : rMeB a = true) : rMe mSt rPP a := by
  unfold rMeB at h
  simp only [Bool.and_eq_true, decide_eq_true_eq] at h
  obtain ⟨-, h2, h3, h4, h5, h6⟩ := h
  refine ⟨trivial, h2, h3, h4, ?_⟩
  show rHd (rUn (wW (rget cP a))) ∈ gT
  rw [rUn_ok h5]
  exact gT_in (wW_in _) h6
set_option maxRecDepth 100000 in
theorem rMe_all : (List.range (rNM + 1)).all rMeB = true := by decide +kernel
theorem rMe_ok (a : Nat) (h : a ≤ rNM) : rMe mSt rPP a := rMeB_ok (List.all_eq_true.mp rMe_all a (List.mem_range.mpr (Nat.lt_succ_of_le h)))
noncomputable def kwl : List Cond → List Nat → Bool
  | [], _ => true
  | _ :: _, [] => false
  | w :: t, p :: ps => kw wW w p && kwl t ps
theorem kwl_ok : ∀ (l : List Cond) (ps : List Nat), kwl l ps = true → ∀ w ∈ l, w ∈ gT := by
  intro l
  induction l with
  | nil => intro ps _ w h; cases h
  | cons x t ih =>
    intro ps h w hw
    cases ps with
    | nil => cases h
    | cons p ps =>
      have h : (kw wW x p && kwl t ps) = true := h
      rw [Bool.and_eq_true] at h
      rcases List.mem_cons.mp hw with e | e
      · rw [e]; exact kw_ok wW_in h.1
      · exact ih ps h.2 w e
theorem rnW_ok : ∀ w ∈ rnW, w ∈ gT := kwl_ok rnW [4310, 1046, 4311, 4307, 4308, 4325, 4326, 7297, 7296, 1047, 1066, 1067] (by decide +kernel)
theorem rTB : rTb wW mSt rPP rKT rBL rNM := ⟨wW_in, rMe_ok, rCf, rnW_ok, trivial⟩
def rXW : List Nat := [0, 1025, 1026, 1027, 1028, 1044, 1045, 1048, 1054, 1055, 1056, 1057, 1058, 1059, 1060, 1061, 1062, 1063, 1064, 1065, 1066, 1067, 1068, 1069, 1070, 1071, 1072, 1073, 1074, 1075, 1076, 1077, 1078, 1079, 1080, 1081, 1082, 1083, 1084, 1085, 1086, 1087, 1088, 1089, 1090, 1092, 1094, 1096, 1098, 1100, 1102, 1105, 1106, 1107, 1108, 1109, 1110, 1111, 1112, 1113, 1114, 1115, 1116, 1117, 1118, 1119, 1120, 1121, 1122, 4186, 4187, 4188, 4189, 4190, 4191, 4192, 4193, 4194, 4195, 4196, 4197, 4198, 4199, 4200, 4201, 4202, 4203, 4204, 4205, 4216, 4217, 4218, 4219, 4220, 4221, 4222, 4223, 4224, 4225, 4226, 4227, 4228, 4229, 7297, 8217, 8218, 8219, 8220, 8221, 8222, 8223, 8224, 8225, 8226, 8227, 8228, 8229, 8230, 8344, 8345, 8346, 8347, 8348, 8349, 8350, 8351, 8352, 8353, 8354, 8355, 8356, 8357, 8359, 8374, 8375, 8376, 8377, 8378]
noncomputable def rXB (own : String) (ic b : Nat) : Bool := Bundle.fit (rxn b) && ((rXN b).all Bundle.fit && (vx_at0 own ic (rxn b) (rXN b)).all (fun w => rXW.any (fun p => kw wW w p || (kn wW w p && w.onTables))))
theorem rXB_ok {own : String} {ic b : Nat} (h : rXB own ic b = true) : Bundle.fit (rxn b) = true ∧ (∀ n ∈ rXN b, Bundle.fit n = true) ∧ ∃ (own : String) (ic : Nat), ∀ w ∈ vx_at0 own ic (rxn b) (rXN b), w ∈ gT ∨ (w ∈ rnT ∧ w.onTables = true) := by
  unfold rXB at h
  rw [Bool.and_eq_true, Bool.and_eq_true] at h
  refine ⟨h.1, fun n hn => List.all_eq_true.mp h.2.1 n hn, own, ic, fun w hw => ?_⟩
  obtain ⟨p, -, hp⟩ := List.any_eq_true.mp (List.all_eq_true.mp h.2.2 w hw)
  rw [Bool.or_eq_true] at hp
  rcases hp with hp | hp
  · exact Or.inl (kw_ok wW_in hp)
  · rw [Bool.and_eq_true] at hp
    exact Or.inr ⟨kn_ok wW_in hp.1, hp.2⟩
set_option maxRecDepth 100000 in
theorem rXB_1 : rXB "Orbithouse" 95 1 = true := by decide +kernel
set_option maxRecDepth 100000 in
theorem rXB_2 : rXB "Orbithouse" 126 2 = true := by decide +kernel
set_option maxRecDepth 100000 in
theorem rXB_3 : rXB "Orbithouse" 301 3 = true := by decide +kernel
set_option maxRecDepth 100000 in
theorem rXB_4 : rXB "Orbithouse" 308 4 = true := by decide +kernel
set_option maxRecDepth 100000 in
theorem rXB_5 : rXB "Orbithouse" 95 5 = true := by decide +kernel
theorem rXT_ok : rXt rxn rXN := by
  intro b h1 h2
  match b, h1, h2 with
  | 1, _, _ => exact rXB_ok rXB_1
  | 2, _, _ => exact rXB_ok rXB_2
  | 3, _, _ => exact rXB_ok rXB_3
  | 4, _, _ => exact rXB_ok rXB_4
  | 5, _, _ => exact rXB_ok rXB_5
  | n + 6, _, h => omega

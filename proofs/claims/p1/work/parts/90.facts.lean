/-! WHAT THE TABLES SAY OF CLASSES, METHODS, EXCEPTIONS, NATIVES -/
def rSS : rSt := [("OrbithouseModel", 711, "owfsmntrcudbk", 5), ("OrbithouseModel", 727, "gds", 2), ("OrbithouseModel", 732, "ntlwa", 13), ("OrbithouseModel", 738, "sa0123lmn", 7), ("OrbithouseModel", 743, "srntle", 11), ("OrbithouseModel", 748, "kpco", 10), ("OrbithouseModel", 753, "nrc", 15), ("OrbithouseModel", 755, "wbns", 6), ("OrbithouseModel", 760, "obmst", 16), ("OrbithouseModel", 762, "bwarspnd", 17)]
def rSR : rSr := [("Orbithouse$Memory", "FIRST_BYTES", "[I", 1), ("java/util/ArrayList", "DEFAULTCAPACITY_EMPTY_ELEMENTDATA", "[Ljava/lang/Object;", 18), ("OrbithouseModel", "DATA", "[I", 3), ("java/lang/Integer$IntegerCache", "cache", "[Ljava/lang/Integer;", 19)]
def rSI : rSi := [("java/lang/String", "COMPACT_STRINGS", "Z", 1), ("java/lang/Integer$IntegerCache", "high", "I", 127)]
def rNC : List (Nat × Nat) := [(2, 1), (1, 3), (4, 3)]
def rxn : Nat → String := fun k => match k with
  | 1 => "java/lang/IllegalArgumentException"
  | 2 => "java/lang/IllegalStateException"
  | 3 => "java/lang/IndexOutOfBoundsException"
  | 4 => "java/util/NoSuchElementException"
  | 5 => "java/lang/ArithmeticException"
  | _ => ""
def rXN : Nat → List String := fun _ => ["java/lang/RuntimeException", "java/lang/Exception"]
def rHT : List (Nat × Nat × Nat × Nat) := [(13, 1, 4280, 4288), (26, 2, 5155, 5162), (54, 3, 8367, 8406), (62, 4, 8431, 9222), (156, 5, 10257, 10269)]
def rKT : Nat → Nat → FieldType := fun ci => match ci with
  | 0 => tyJ0
  | 1 => tyJ6
  | 2 => tyJx00060
  | 3 => tyJx35411
  | 4 => tyJx4a65c
  | 5 => tyX0
  | 6 => tyX1
  | 7 => tyX2
  | 8 => tyX3
  | 9 => tyX4
  | 10 => tyX5
  | 11 => tyX6
  | 12 => tyX7
  | 13 => tyX8
  | 14 => tyX9
  | 15 => tyX10
  | 16 => tyX11
  | _ => tyX12
noncomputable def rPP (a : Nat) : Nat × Nat × Nat := Lean.RArray.rec (motive := fun _ => Nat × Nat × Nat) (fun x => x) (fun p _ _ l r => rc (Nat.ble p a) r l) pT
def rNM : Nat := 337
theorem glay {C : String} {T : u_T} {N : Nat} (h : ∀ w ∈ u_ws C T N, w ∈ lw_tbl) : ∀ w ∈ u_ws C T N, w ∈ gT := fun w hw => by
  refine gT_in (h w hw) ?_
  obtain ⟨k, -, rfl⟩ := List.mem_map.mp hw
  unfold u_lay
  split <;> rfl
noncomputable def rBk (c ci N : Nat) (ty : Nat → FieldType) : Bool := Nat.beq (c % 65536) (ci + 1) && (Nat.beq (rlen c) N && (List.range N).all (fun j => Nat.beq (rslot c (rsh j)) (rdef (ty j))))
theorem rBk_ok {c ci N : Nat} {ty : Nat → FieldType} (h : rBk c ci N ty = true) : rBlank c ci N ty := by
  unfold rBk at h
  rw [Bool.and_eq_true, Bool.and_eq_true] at h
  exact ⟨beq_eq h.1, beq_eq h.2.1, fun j hj => beq_eq (List.all_eq_true.mp h.2.2 j (List.mem_range.mpr hj))⟩
theorem rCf_0 : rCl 0 RJ0 TJ0 2 tyJ0 ∧ rBlank (rBL 1) 0 2 tyJ0 := ⟨⟨rfl, glay inJ0, tyJ0_ok, nmJ0⟩, rBk_ok (by decide +kernel)⟩
theorem rCf_1 : rCl 1 RJ6 TJ6 1 tyJ6 ∧ rBlank (rBL 2) 1 1 tyJ6 := ⟨⟨rfl, glay inJ6, tyJ6_ok, nmJ6⟩, rBk_ok (by decide +kernel)⟩
theorem rCf_2 : rCl 2 RJx00060 TJx00060 6 tyJx00060 ∧ rBlank (rBL 3) 2 6 tyJx00060 := ⟨⟨rfl, glay inJx00060, tyJx00060_ok, nmJx00060⟩, rBk_ok (by decide +kernel)⟩
theorem rCf_3 : rCl 3 RJx35411 TJx35411 4 tyJx35411 ∧ rBlank (rBL 4) 3 4 tyJx35411 := ⟨⟨rfl, glay inJx35411, tyJx35411_ok, nmJx35411⟩, rBk_ok (by decide +kernel)⟩
theorem rCf_4 : rCl 4 RJx4a65c TJx4a65c 3 tyJx4a65c ∧ rBlank (rBL 5) 4 3 tyJx4a65c := ⟨⟨rfl, glay inJx4a65c, tyJx4a65c_ok, nmJx4a65c⟩, rBk_ok (by decide +kernel)⟩
theorem rCf_5 : rCl 5 RX0 TX0 20 tyX0 ∧ rBlank (rBL 6) 5 20 tyX0 := ⟨⟨rfl, glay inX0, tyX0_ok, nmX0⟩, rBk_ok (by decide +kernel)⟩
theorem rCf_6 : rCl 6 RX1 TX1 7 tyX1 ∧ rBlank (rBL 7) 6 7 tyX1 := ⟨⟨rfl, glay inX1, tyX1_ok, nmX1⟩, rBk_ok (by decide +kernel)⟩
theorem rCf_7 : rCl 7 RX2 TX2 19 tyX2 ∧ rBlank (rBL 8) 7 19 tyX2 := ⟨⟨rfl, glay inX2, tyX2_ok, nmX2⟩, rBk_ok (by decide +kernel)⟩
theorem rCf_8 : rCl 8 RX3 TX3 19 tyX3 ∧ rBlank (rBL 9) 8 19 tyX3 := ⟨⟨rfl, glay inX3, tyX3_ok, nmX3⟩, rBk_ok (by decide +kernel)⟩
theorem rCf_9 : rCl 9 RX4 TX4 13 tyX4 ∧ rBlank (rBL 10) 9 13 tyX4 := ⟨⟨rfl, glay inX4, tyX4_ok, nmX4⟩, rBk_ok (by decide +kernel)⟩
theorem rCf_10 : rCl 10 RX5 TX5 11 tyX5 ∧ rBlank (rBL 11) 10 11 tyX5 := ⟨⟨rfl, glay inX5, tyX5_ok, nmX5⟩, rBk_ok (by decide +kernel)⟩
theorem rCf_11 : rCl 11 RX6 TX6 10 tyX6 ∧ rBlank (rBL 12) 11 10 tyX6 := ⟨⟨rfl, glay inX6, tyX6_ok, nmX6⟩, rBk_ok (by decide +kernel)⟩
theorem rCf_12 : rCl 12 RX7 TX7 4 tyX7 ∧ rBlank (rBL 13) 12 4 tyX7 := ⟨⟨rfl, glay inX7, tyX7_ok, nmX7⟩, rBk_ok (by decide +kernel)⟩
theorem rCf_13 : rCl 13 RX8 TX8 17 tyX8 ∧ rBlank (rBL 14) 13 17 tyX8 := ⟨⟨rfl, glay inX8, tyX8_ok, nmX8⟩, rBk_ok (by decide +kernel)⟩
theorem rCf_14 : rCl 14 RX9 TX9 15 tyX9 ∧ rBlank (rBL 15) 14 15 tyX9 := ⟨⟨rfl, glay inX9, tyX9_ok, nmX9⟩, rBk_ok (by decide +kernel)⟩
theorem rCf_15 : rCl 15 RX10 TX10 9 tyX10 ∧ rBlank (rBL 16) 15 9 tyX10 := ⟨⟨rfl, glay inX10, tyX10_ok, nmX10⟩, rBk_ok (by decide +kernel)⟩
theorem rCf_16 : rCl 16 RX11 TX11 13 tyX11 ∧ rBlank (rBL 17) 16 13 tyX11 := ⟨⟨rfl, glay inX11, tyX11_ok, nmX11⟩, rBk_ok (by decide +kernel)⟩
theorem rCf_17 : rCl 17 RX12 TX12 104 tyX12 ∧ rBlank (rBL 18) 17 104 tyX12 := ⟨⟨rfl, glay inX12, tyX12_ok, nmX12⟩, rBk_ok (by decide +kernel)⟩
theorem rCf (ci : Nat) (q : vw_C) (h : vwCl[ci]? = some q) : rCl ci q.1 q.2.1 q.2.2 (rKT ci) ∧ rBlank (rBL (ci + 1)) ci q.2.2 (rKT ci) := by
  match ci, h with
  | 0, h => cases h; exact rCf_0
  | 1, h => cases h; exact rCf_1
  | 2, h => cases h; exact rCf_2
  | 3, h => cases h; exact rCf_3
  | 4, h => cases h; exact rCf_4
  | 5, h => cases h; exact rCf_5
  | 6, h => cases h; exact rCf_6
  | 7, h => cases h; exact rCf_7
  | 8, h => cases h; exact rCf_8
  | 9, h => cases h; exact rCf_9
  | 10, h => cases h; exact rCf_10
  | 11, h => cases h; exact rCf_11
  | 12, h => cases h; exact rCf_12
  | 13, h => cases h; exact rCf_13
  | 14, h => cases h; exact rCf_14
  | 15, h => cases h; exact rCf_15
  | 16, h => cases h; exact rCf_16
  | 17, h => cases h; exact rCf_17
  | n + 18, h =>
    have h2 : n + 18 < 18 := (List.getElem?_eq_some_iff.mp h).1
    omega
noncomputable def rMeB (a : Nat) : Bool := true && (decide ((mSt a).1.cls ≠ "java/lang/invoke/MethodHandle") && (decide ((mSt a).1.cls ≠ "java/lang/invoke/VarHandle") && (decide ((parseMethodDescriptor (mSt a).1.desc).map (fun d => d.parameters.length) = some (rPP a).2.2) && (rIsC (wW (rget cP a)) && goodWord (wW (rget cP a))))))
theorem rMeB_ok {a : Nat} (h : rMeB a = true) : rMe mSt rPP a := by
  unfold rMeB at h
  simp only [Bool.and_eq_true, decide_eq_true_eq] at h
  obtain ⟨-, h2, h3, h4, h5, h6⟩ := h
  refine ⟨trivial, h2, h3, h4, ?_⟩
  show rHd (rUn (wW (rget cP a))) ∈ gT
  rw [rUn_ok h5]
  exact gT_in (wW_in _) h6
set_option maxRecDepth 100000 in
theorem rMe_all : (List.range (rNM + 1)).all rMeB = true := by decide +kernel
theorem rMe_ok (a : Nat) (h : a ≤ rNM) : rMe mSt rPP a := rMeB_ok (List.all_eq_true.mp rMe_all a (List.mem_range.mpr (Nat.lt_succ_of_le h)))
noncomputable def kwl : List Cond → List Nat → Bool
  | [], _ => true
  | _ :: _, [] => false
  | w :: t, p :: ps => kw wW w p && kwl t ps
theorem kwl_ok : ∀ (l : List Cond) (ps : List Nat), kwl l ps = true → ∀ w ∈ l, w ∈ gT := by
  intro l
  induction l with
  | nil => intro ps _ w h; cases h
  | cons x t ih =>
    intro ps h w hw
    cases ps with
    | nil => cases h
    | cons p ps =>
      have h : (kw wW x p && kwl t ps) = true := h
      rw [Bool.and_eq_true] at h
      rcases List.mem_cons.mp hw with e | e
      · rw [e]; exact kw_ok wW_in h.1
      · exact ih ps h.2 w e
theorem rnW_ok : ∀ w ∈ rnW, w ∈ gT := kwl_ok rnW [5255, 1044, 5256, 5252, 5253, 5267, 5268, 8209, 8208, 1046, 1070, 1071, 13526, 13527, 13528, 13529] (by decide +kernel)
theorem rcl_ok : Cond.castable "[I" "java/lang/Cloneable" ∈ rnT := kn_ok wW_in (p := 13530) (by decide +kernel)
theorem rTB : rTb wW mSt rPP rKT rBL rNM := ⟨wW_in, rMe_ok, rCf, rnW_ok, rcl_ok⟩
def rXW : List Nat := [0, 1047, 1048, 1049, 1050, 1051, 1055, 1061, 1063, 1070, 1071, 4287, 4288, 4289, 4290, 4291, 4292, 4293, 4294, 4295, 4296, 4297, 4298, 4299, 4300, 4301, 4302, 4303, 4304, 4305, 4306, 4307, 4308, 4309, 4310, 4311, 4312, 4314, 4316, 4317, 4319, 4320, 4321, 4322, 4323, 4324, 4325, 4327, 4328, 4329, 4330, 4331, 4332, 4333, 4334, 4335, 5120, 5121, 5122, 5123, 5124, 5125, 5126, 5127, 5128, 5133, 5136, 5161, 5162, 5163, 5164, 5165, 5166, 5167, 5168, 5169, 5170, 5171, 5172, 5173, 5174, 8209, 8372, 8373, 8374, 8375, 8376, 8377, 8378, 8379, 8380, 8381, 8382, 8391, 8392, 8393, 8405, 8406, 8407, 8408, 8409, 8410, 8411, 8412, 8413, 8414, 8415, 8416, 8417, 8418, 9221, 9222, 9223, 9224, 9225, 9226, 9227, 9228, 9229, 9230, 9231, 9232, 9233, 9234, 10258, 10259, 10260, 10261, 10262, 10263, 10264, 10265, 10266, 10267, 10268, 10269, 10270, 10276, 10277, 10278, 10279, 10352, 10367, 10369, 10370, 10371, 10375, 10376, 12477, 13527, 13528, 15477, 15478, 15480, 15482, 15483, 15484, 15488]
noncomputable def rXB (own : String) (ic b : Nat) : Bool := Bundle.fit (rxn b) && ((rXN b).all Bundle.fit && (vx_at0 own ic (rxn b) (rXN b)).all (fun w => rXW.any (fun p => kw wW w p || (kn wW w p && w.onTables))))
theorem rXB_ok {own : String} {ic b : Nat} (h : rXB own ic b = true) : Bundle.fit (rxn b) = true ∧ (∀ n ∈ rXN b, Bundle.fit n = true) ∧ ∃ (own : String) (ic : Nat), ∀ w ∈ vx_at0 own ic (rxn b) (rXN b), w ∈ gT ∨ (w ∈ rnT ∧ w.onTables = true) := by
  unfold rXB at h
  rw [Bool.and_eq_true, Bool.and_eq_true] at h
  refine ⟨h.1, fun n hn => List.all_eq_true.mp h.2.1 n hn, own, ic, fun w hw => ?_⟩
  obtain ⟨p, -, hp⟩ := List.any_eq_true.mp (List.all_eq_true.mp h.2.2 w hw)
  rw [Bool.or_eq_true] at hp
  rcases hp with hp | hp
  · exact Or.inl (kw_ok wW_in hp)
  · rw [Bool.and_eq_true] at hp
    exact Or.inr ⟨kn_ok wW_in hp.1, hp.2⟩
set_option maxRecDepth 100000 in
theorem rXB_1 : rXB "Orbithouse" 95 1 = true := by decide +kernel
set_option maxRecDepth 100000 in
theorem rXB_2 : rXB "Orbithouse" 126 2 = true := by decide +kernel
set_option maxRecDepth 100000 in
theorem rXB_3 : rXB "Orbithouse" 301 3 = true := by decide +kernel
set_option maxRecDepth 100000 in
theorem rXB_4 : rXB "Orbithouse" 308 4 = true := by decide +kernel
set_option maxRecDepth 100000 in
theorem rXB_5 : rXB "Orbithouse" 542 5 = true := by decide +kernel
theorem rXT_ok : rXt rxn rXN := by
  intro b h1 h2
  match b, h1, h2 with
  | 1, _, _ => exact rXB_ok rXB_1
  | 2, _, _ => exact rXB_ok rXB_2
  | 3, _, _ => exact rXB_ok rXB_3
  | 4, _, _ => exact rXB_ok rXB_4
  | 5, _, _ => exact rXB_ok rXB_5
  | n + 6, _, h => omega

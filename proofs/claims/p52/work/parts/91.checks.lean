/-! EVERY METHOD IS WELL, BY THE KERNEL -/
noncomputable def rSwB (cc : ByteArray) (el : rEl) : Bool := match el.1 with
  | .tableswitch d lo hi os => decide (decode cc el.2.1 = .ok (.tableswitch d lo hi os, el.2.2.1)) && (decide (el.2.2.2.2 = rtab el.2.1 lo os.toList) && (rpos el.2.1 os.toList && (decide ((el.2.1 : Int) + d = (el.2.2.2.1 : Int)) && (decide (-2147483648 ≤ lo) && (decide (hi < 2147483648) && (decide (lo + os.size = hi + 1) && decide (el.2.2.2.2.Pairwise (fun a b => rbias a.1 < rbias b.1))))))))
  | .lookupswitch d ps => decide (decode cc el.2.1 = .ok (.lookupswitch d ps, el.2.2.1)) && (decide (el.2.2.2.2 = rltab el.2.1 ps.toList) && (rlpos el.2.1 ps.toList && (decide ((el.2.1 : Int) + d = (el.2.2.2.1 : Int)) && ((ps.toList.zip (ps.toList.drop 1)).all (fun (a, next) => a.1 < next.1) && (decide (el.2.2.2.2.Pairwise (fun a b => rbias a.1 < rbias b.1)) && decide (∀ q ∈ ps.toList, ∀ q2 ∈ ps.toList, q.1 = q2.1 → q.2 = q2.2))))))
  | _ => true
theorem rSwB_ok {cc : ByteArray} {el : rEl} (h : rSwB cc el = true) : rSwi cc el := by
  constructor
  · intro d lo hi os e
    unfold rSwB at h
    rw [e] at h
    simp only [Bool.and_eq_true, decide_eq_true_eq] at h
    obtain ⟨h1, h2, h3, h4, h5, h6, h7, h8⟩ := h
    exact ⟨_, h1, h2, h3, h4, h5, h6, h7, h8⟩
  · intro d ps e
    unfold rSwB at h
    rw [e] at h
    simp only [Bool.and_eq_true, decide_eq_true_eq] at h
    obtain ⟨h1, h2, h3, h4, h5, h6, h7⟩ := h
    exact ⟨_, h1, h2, h3, h4, h5, h6, h7⟩
noncomputable def rmB (a : Nat) : Bool := plainFor (mSt a).1 && (((mSt a).2.2.2.2.isEmpty || plainName (mSt a).1.cls) && (Nat.beq (mloc rMt a) (mSt a).2.2.1 && (rwalk rPb (mcode rMt a) 0 (mSt a).2.1.data.toList && ((mcode rMt a).all (rSwB (mSt a).2.1) && (mcode rMt a).all (rdE wW mSt rPP rKT rMt rNM rSS rSR rSI rNC rxn rHT rXN a)))))
set_option maxRecDepth 100000 in
theorem mk_0 : [1, 2, 3, 4, 5, 6, 7, 8, 9, 10, 11, 12].all rmB = true := by decide +kernel
set_option maxRecDepth 100000 in
theorem mk_1 : [13, 14, 15, 16, 17, 18, 19, 20, 21, 22, 23, 24].all rmB = true := by decide +kernel
set_option maxRecDepth 100000 in
theorem mk_2 : [25, 26, 27, 28, 29, 30, 31, 32, 33, 34, 35, 36].all rmB = true := by decide +kernel
set_option maxRecDepth 100000 in
theorem mk_3 : [37, 38, 39, 40, 41, 42, 43, 44, 45, 46, 47, 48].all rmB = true := by decide +kernel
set_option maxRecDepth 100000 in
theorem mk_4 : [49, 50, 51, 52, 53, 54, 55, 56, 57, 58, 59, 60].all rmB = true := by decide +kernel
set_option maxRecDepth 100000 in
theorem mk_5 : [61, 62, 63, 64, 65, 66, 67, 68, 69, 70, 71, 72].all rmB = true := by decide +kernel
set_option maxRecDepth 100000 in
theorem mk_6 : [73, 74, 75, 76, 77, 78, 79, 80, 81, 82, 83, 84].all rmB = true := by decide +kernel
set_option maxRecDepth 100000 in
theorem mk_7 : [85, 86, 87, 88, 89, 90, 91, 92, 93, 94, 95, 96].all rmB = true := by decide +kernel
set_option maxRecDepth 100000 in
theorem mk_8 : [97, 98, 99, 100, 101, 102, 103, 104, 105, 106, 107, 108].all rmB = true := by decide +kernel
set_option maxRecDepth 100000 in
theorem mk_9 : [109, 110, 111, 112, 113, 114, 115, 116, 117, 118, 119, 120].all rmB = true := by decide +kernel
set_option maxRecDepth 100000 in
theorem mk_10 : [121, 122, 123, 124, 125, 126, 127, 128, 129, 130, 131, 132].all rmB = true := by decide +kernel
set_option maxRecDepth 100000 in
theorem mk_11 : [133, 134, 135, 136, 137, 138, 139, 140, 141, 142, 143, 144].all rmB = true := by decide +kernel
set_option maxRecDepth 100000 in
theorem mk_12 : [145, 146, 147, 148, 149, 150, 151, 152, 153, 154, 155, 156].all rmB = true := by decide +kernel
set_option maxRecDepth 100000 in
theorem mk_13 : [157, 158, 159, 160, 161, 162, 163, 164, 165, 166, 167, 168].all rmB = true := by decide +kernel
set_option maxRecDepth 100000 in
theorem mk_14 : [169, 170, 171, 172, 173, 174, 175, 176, 177, 178, 179, 180].all rmB = true := by decide +kernel
set_option maxRecDepth 100000 in
theorem mk_15 : [181, 182, 183, 184, 185, 186, 187, 188, 189, 190, 191, 192].all rmB = true := by decide +kernel
set_option maxRecDepth 100000 in
theorem mk_16 : [193, 194, 195, 196, 197, 198, 199, 200, 201, 202, 203, 204].all rmB = true := by decide +kernel
set_option maxRecDepth 100000 in
theorem mk_17 : [205, 206, 207, 208, 209, 210, 211, 212, 213, 214, 215, 216].all rmB = true := by decide +kernel
set_option maxRecDepth 100000 in
theorem mk_18 : [217, 218, 219, 220, 221, 222, 223, 224, 225, 226, 227, 228].all rmB = true := by decide +kernel
set_option maxRecDepth 100000 in
theorem mk_19 : [229, 230, 231, 232, 233, 234, 235, 236, 237, 238, 239, 240].all rmB = true := by decide +kernel
set_option maxRecDepth 100000 in
theorem mk_20 : [241, 242, 243, 244, 245, 246, 247].all rmB = true := by decide +kernel
theorem mk_all (a : Nat) (h1 : 1 ≤ a) (h2 : a ≤ 247) : rmB a = true := by
  by_cases g : a ≤ 12
  · exact List.all_eq_true.mp mk_0 a (by simp only [List.mem_cons, List.not_mem_nil, or_false]; omega)
  by_cases g : a ≤ 24
  · exact List.all_eq_true.mp mk_1 a (by simp only [List.mem_cons, List.not_mem_nil, or_false]; omega)
  by_cases g : a ≤ 36
  · exact List.all_eq_true.mp mk_2 a (by simp only [List.mem_cons, List.not_mem_nil, or_false]; omega)
  by_cases g : a ≤ 48
  · exact List.all_eq_true.mp mk_3 a (by simp only [List.mem_cons, List.not_mem_nil, or_false]; omega)
  by_cases g : a ≤ 60
  · exact List.all_eq_true.mp mk_4 a (by simp only [List.mem_cons, List.not_mem_nil, or_false]; omega)
  by_cases g : a ≤ 72
  · exact List.all_eq_true.mp mk_5 a (by simp only [List.mem_cons, List.not_mem_nil, or_false]; omega)
  by_cases g : a ≤ 84
  · exact List.all_eq_true.mp mk_6 a (by simp only [List.mem_cons, List.not_mem_nil, or_false]; omega)
  by_cases g : a ≤ 96
  · exact List.all_eq_true.mp mk_7 a (by simp only [List.mem_cons, List.not_mem_nil, or_false]; omega)
  by_cases g : a ≤ 108
  · exact List.all_eq_true.mp mk_8 a (by simp only [List.mem_cons, List.not_mem_nil, or_false]; omega)
  by_cases g : a ≤ 120
  · exact List.all_eq_true.mp mk_9 a (by simp only [List.mem_cons, List.not_mem_nil, or_false]; omega)
  by_cases g : a ≤ 132
  · exact List.all_eq_true.mp mk_10 a (by simp only [List.mem_cons, List.not_mem_nil, or_false]; omega)
  by_cases g : a ≤ 144
  · exact List.all_eq_true.mp mk_11 a (by simp only [List.mem_cons, List.not_mem_nil, or_false]; omega)
  by_cases g : a ≤ 156
  · exact List.all_eq_true.mp mk_12 a (by simp only [List.mem_cons, List.not_mem_nil, or_false]; omega)
  by_cases g : a ≤ 168
  · exact List.all_eq_true.mp mk_13 a (by simp only [List.mem_cons, List.not_mem_nil, or_false]; omega)
  by_cases g : a ≤ 180
  · exact List.all_eq_true.mp mk_14 a (by simp only [List.mem_cons, List.not_mem_nil, or_false]; omega)
  by_cases g : a ≤ 192
  · exact List.all_eq_true.mp mk_15 a (by simp only [List.mem_cons, List.not_mem_nil, or_false]; omega)
  by_cases g : a ≤ 204
  · exact List.all_eq_true.mp mk_16 a (by simp only [List.mem_cons, List.not_mem_nil, or_false]; omega)
  by_cases g : a ≤ 216
  · exact List.all_eq_true.mp mk_17 a (by simp only [List.mem_cons, List.not_mem_nil, or_false]; omega)
  by_cases g : a ≤ 228
  · exact List.all_eq_true.mp mk_18 a (by simp only [List.mem_cons, List.not_mem_nil, or_false]; omega)
  by_cases g : a ≤ 240
  · exact List.all_eq_true.mp mk_19 a (by simp only [List.mem_cons, List.not_mem_nil, or_false]; omega)
  by_cases g : a ≤ 247
  · exact List.all_eq_true.mp mk_20 a (by simp only [List.mem_cons, List.not_mem_nil, or_false]; omega)
  omega

abbrev vwCl : List vw_C := [(RX0, TX0, 8), (RX1, TX1, 8), (RX2, TX2, 11), (RX3, TX3, 3), (RX4, TX4, 8), (RX5, TX5, 4), (RX6, TX6, 4), (RX7, TX7, 16), (RX8, TX8, 14)]
/-- the classes by their numbers: name, fields, types -/
def zCl (ci : Nat) : vw_C := match ci with
  | 0 => (RX0, TX0, 8)
  | 1 => (RX1, TX1, 8)
  | 2 => (RX2, TX2, 11)
  | 3 => (RX3, TX3, 3)
  | 4 => (RX4, TX4, 8)
  | 5 => (RX5, TX5, 4)
  | 6 => (RX6, TX6, 4)
  | 7 => (RX7, TX7, 16)
  | _ => (RX8, TX8, 14)
def zTy (ci : Nat) : Nat → FieldType := match ci with
  | 0 => tyX0
  | 1 => tyX1
  | 2 => tyX2
  | 3 => tyX3
  | 4 => tyX4
  | 5 => tyX5
  | 6 => tyX6
  | 7 => tyX7
  | _ => tyX8
def zNc : Nat := 9
theorem zCl_get {ci : Nat} (h : ci < zNc) : vwCl[ci]? = some (zCl ci) := by
  unfold zNc at h
  rcases (show ci = 0 ∨ ci = 1 ∨ ci = 2 ∨ ci = 3 ∨ ci = 4 ∨ ci = 5 ∨ ci = 6 ∨ ci = 7 ∨ ci = 8 by omega) with rfl | rfl | rfl | rfl | rfl | rfl | rfl | rfl | rfl <;> rfl
theorem zTy_ok {ci : Nat} (h : ci < zNc) : ∀ k, k < (zCl ci).2.2 → parseFieldDescriptor ((zCl ci).2.1 k).2.2.1 = some (zTy ci k) := by
  unfold zNc at h
  rcases (show ci = 0 ∨ ci = 1 ∨ ci = 2 ∨ ci = 3 ∨ ci = 4 ∨ ci = 5 ∨ ci = 6 ∨ ci = 7 ∨ ci = 8 by omega) with rfl | rfl | rfl | rfl | rfl | rfl | rfl | rfl | rfl
  · exact tyX0_ok
  · exact tyX1_ok
  · exact tyX2_ok
  · exact tyX3_ok
  · exact tyX4_ok
  · exact tyX5_ok
  · exact tyX6_ok
  · exact tyX7_ok
  · exact tyX8_ok
theorem zNm_ok {ci : Nat} (h : ci < zNc) : ∀ a, a < (zCl ci).2.2 → ∀ b, b < (zCl ci).2.2 → a ≠ b → ((zCl ci).2.1 a).2.1 ≠ ((zCl ci).2.1 b).2.1 := by
  unfold zNc at h
  rcases (show ci = 0 ∨ ci = 1 ∨ ci = 2 ∨ ci = 3 ∨ ci = 4 ∨ ci = 5 ∨ ci = 6 ∨ ci = 7 ∨ ci = 8 by omega) with rfl | rfl | rfl | rfl | rfl | rfl | rfl | rfl | rfl
  · exact nmX0
  · exact nmX1
  · exact nmX2
  · exact nmX3
  · exact nmX4
  · exact nmX5
  · exact nmX6
  · exact nmX7
  · exact nmX8
/-- a field's type as a number: 0 an integer, 1 a long, 2 a reference, 3 a truth value -/
def zcode : FieldType → Nat
  | .int => 0
  | .long => 1
  | .boolean => 3
  | .object _ => 2
  | .array _ => 2
  | _ => 9
def zTY (ci : Nat) : List Nat := (List.range (zCl ci).2.2).map (fun j => zcode (zTy ci j))
/-- the tables' words that stay true while the machine warms up -/
def zW : List Cond := lw_tbl.filter goodWord
theorem zW_of {w : Cond} (i : Nat) (h : lw_tbl[i]? = some w) (hg : goodWord w = true) : w ∈ zW := List.mem_filter.mpr ⟨List.mem_of_getElem? h, hg⟩
theorem zW_all (ps : List Nat) {l : List Cond} (h : l = ps.filterMap (fun i => lw_tbl[i]?)) (hg : l.all goodWord = true) : ∀ w ∈ l, w ∈ zW := by
  intro w hw
  have h1 := List.all_eq_true.mp hg w hw
  rw [h] at hw
  obtain ⟨i, -, hi⟩ := List.mem_filterMap.mp hw
  exact zW_of i hi h1
set_option maxRecDepth 20000 in
theorem zLy0 : ∀ w ∈ u_ws RX0 TX0 8, w ∈ zW := zW_all [599, 601, 603, 605, 607, 609, 611, 613] (by decide +kernel) (by decide +kernel)
set_option maxRecDepth 20000 in
theorem zLy1 : ∀ w ∈ u_ws RX1 TX1 8, w ∈ zW := zW_all [637, 639, 641, 643, 645, 647, 649, 651] (by decide +kernel) (by decide +kernel)
set_option maxRecDepth 20000 in
theorem zLy2 : ∀ w ∈ u_ws RX2 TX2 11, w ∈ zW := zW_all [529, 531, 533, 535, 537, 539, 541, 543, 545, 547, 549] (by decide +kernel) (by decide +kernel)
set_option maxRecDepth 20000 in
theorem zLy3 : ∀ w ∈ u_ws RX3 TX3 3, w ∈ zW := zW_all [702, 704, 706] (by decide +kernel) (by decide +kernel)
set_option maxRecDepth 20000 in
theorem zLy4 : ∀ w ∈ u_ws RX4 TX4 8, w ∈ zW := zW_all [670, 672, 674, 676, 678, 680, 682, 684] (by decide +kernel) (by decide +kernel)
set_option maxRecDepth 20000 in
theorem zLy5 : ∀ w ∈ u_ws RX5 TX5 4, w ∈ zW := zW_all [489, 491, 493, 495] (by decide +kernel) (by decide +kernel)
set_option maxRecDepth 20000 in
theorem zLy6 : ∀ w ∈ u_ws RX6 TX6 4, w ∈ zW := zW_all [575, 577, 579, 581] (by decide +kernel) (by decide +kernel)
set_option maxRecDepth 20000 in
theorem zLy7 : ∀ w ∈ u_ws RX7 TX7 16, w ∈ zW := zW_all [726, 728, 730, 732, 734, 736, 738, 740, 742, 744, 746, 748, 750, 752, 754, 756] (by decide +kernel) (by decide +kernel)
set_option maxRecDepth 20000 in
theorem zLy8 : ∀ w ∈ u_ws RX8 TX8 14, w ∈ zW := zW_all [776, 778, 780, 782, 784, 786, 788, 790, 792, 794, 796, 798, 800, 802] (by decide +kernel) (by decide +kernel)
set_option maxRecDepth 20000 in
theorem zLy9 : ∀ w ∈ u_ws RX9 TX9 0, w ∈ zW := zW_all [] (by decide +kernel) (by decide +kernel)
theorem zLy_ok {ci : Nat} (h : ci < zNc) : ∀ w ∈ u_ws (zCl ci).1 (zCl ci).2.1 (zCl ci).2.2, w ∈ zW := by
  unfold zNc at h
  rcases (show ci = 0 ∨ ci = 1 ∨ ci = 2 ∨ ci = 3 ∨ ci = 4 ∨ ci = 5 ∨ ci = 6 ∨ ci = 7 ∨ ci = 8 by omega) with rfl | rfl | rfl | rfl | rfl | rfl | rfl | rfl | rfl
  · exact zLy0
  · exact zLy1
  · exact zLy2
  · exact zLy3
  · exact zLy4
  · exact zLy5
  · exact zLy6
  · exact zLy7
  · exact zLy8
/-- links that one class of the nest has to another one's private members -/
def zNw : List Cond := [.methodLinkNest "Waterline$Units" (27) ⟨"Waterline", "kept", "(J)I"⟩ "Waterline", .methodLinkNest "Waterline$Faults" (64) ⟨"Waterline", "isPartIn", "(JI)Z"⟩ "Waterline", .methodLinkNest "Waterline$Order" (53) ⟨"Waterline", "isIn", "(II)Z"⟩ "Waterline", .methodLinkNest "Waterline$Solver" (86) ⟨"Waterline", "isIn", "(II)Z"⟩ "Waterline", .methodLinkNest "Waterline$Solver" (133) ⟨"Waterline", "isPartIn", "(JI)Z"⟩ "Waterline", .methodLinkNest "Waterline$Solver" (156) ⟨"Waterline", "kept", "(J)I"⟩ "Waterline", .methodLinkNest "Waterline$Parts" (53) ⟨"Waterline", "isPartIn", "(JI)Z"⟩ "Waterline", .methodLinkNest "Waterline" (18) ⟨"Waterline$Parts", "<init>", "()V"⟩ "Waterline", .methodLinkNest "Waterline" (25) ⟨"Waterline$Variables", "<init>", "()V"⟩ "Waterline", .methodLinkNest "Waterline" (59) ⟨"Waterline$Solution", "<init>", "()V"⟩ "Waterline", .methodLinkNest "WaterlineLaw$Sheet" (48) ⟨"WaterlineLaw", "cell", "([II)I"⟩ "WaterlineLaw", .methodLinkNest "WaterlineLaw$Sheet" (54) ⟨"WaterlineLaw", "below", "(II)I"⟩ "WaterlineLaw"]
theorem zNw_on : ∀ w ∈ zNw, w.onTables = true := by
  intro w hw
  simp only [zNw, List.mem_cons, List.not_mem_nil, or_false] at hw
  rcases hw with rfl | rfl | rfl | rfl | rfl | rfl | rfl | rfl | rfl | rfl | rfl | rfl <;> rfl
theorem zNw_warm {s U : State} (hW : s.WarmedH U.vm) : ∀ w ∈ zNw, va_Nw w s → va_Nw w U := by
  intro w hw h
  simp only [zNw, List.mem_cons, List.not_mem_nil, or_false] at hw
  rcases hw with rfl | rfl | rfl | rfl | rfl | rfl | rfl | rfl | rfl | rfl | rfl | rfl <;> exact va_Nw.warmM hW h
theorem zNw_tbl : ∀ w ∈ zNw, w ∈ lw_tbl := by
  intro w hw
  have h : zNw = ([184, 207, 232, 285, 299, 308, 451, 501, 555, 689, 809, 813] : List Nat).filterMap (fun i => lw_tbl[i]?) := by decide +kernel
  rw [h] at hw
  obtain ⟨i, -, hi⟩ := List.mem_filterMap.mp hw
  exact List.mem_of_getElem? hi
/-- the exceptions by their numbers: name, where the class's own file names it and its constructor -/
def zEo : String := "Waterline"
def zEx : Nat → String × Nat × Nat
  | 0 => ("java/lang/IndexOutOfBoundsException", 164, 166)
  | 1 => ("java/lang/IllegalArgumentException", 89, 91)
  | _ => ("java/lang/IllegalStateException", 97, 99)
def zEn : List String := ["java/lang/RuntimeException", "java/lang/Exception"]
/-- what a throw and a catch ask besides the good words: which casts hold, what is declared -/
def zXw : List Cond := [.castable "java/lang/IndexOutOfBoundsException" "java/lang/IndexOutOfBoundsException", .declares ⟨"java/lang/RuntimeException", "<init>", "()V"⟩, .declares ⟨"java/lang/RuntimeException", "<init>", "(Ljava/lang/String;)V"⟩, .declares ⟨"java/lang/Exception", "<init>", "()V"⟩, .declares ⟨"java/lang/Exception", "<init>", "(Ljava/lang/String;)V"⟩, .declares ⟨"java/lang/Throwable", "<init>", "()V"⟩, .declares ⟨"java/lang/Throwable", "<init>", "(Ljava/lang/String;)V"⟩, .castable "java/lang/IllegalArgumentException" "java/lang/IllegalArgumentException", .castable "java/lang/IllegalStateException" "java/lang/IllegalStateException"]
theorem zXw_on : ∀ w ∈ zXw, w.onTables = true := by
  intro w hw
  simp only [zXw, List.mem_cons, List.not_mem_nil, or_false] at hw
  rcases hw with rfl | rfl | rfl | rfl | rfl | rfl | rfl | rfl | rfl <;> rfl
theorem zXw_warm {s U : State} (hW : s.WarmedH U.vm) : ∀ w ∈ zXw, va_Nw w s → va_Nw w U := by
  intro w hw h
  simp only [zXw, List.mem_cons, List.not_mem_nil, or_false] at hw
  rcases hw with rfl | rfl | rfl | rfl | rfl | rfl | rfl | rfl | rfl <;> first | exact va_Nw.warmC hW h | exact va_Nw.warmD hW h
theorem zXw_tbl : ∀ w ∈ zXw, w ∈ lw_tbl := by
  intro w hw
  have h : zXw = ([69, 70, 71, 72, 73, 74, 75, 140, 163] : List Nat).filterMap (fun i => lw_tbl[i]?) := by decide +kernel
  rw [h] at hw
  obtain ⟨i, -, hi⟩ := List.mem_filterMap.mp hw
  exact List.mem_of_getElem? hi
/-- which casts fail -/
def zXn : List (String × String) := []
set_option maxRecDepth 20000 in
theorem zEw0 : (Cond.classLink zEo 164 "java/lang/IndexOutOfBoundsException" :: Cond.initialized "java/lang/IndexOutOfBoundsException" :: vx_at0 zEo 166 "java/lang/IndexOutOfBoundsException" zEn).all (fun w => decide (w ∈ zW) || decide (w ∈ zXw)) = true := by decide +kernel
theorem zEg0 : (Cond.classLink zEo 164 "java/lang/IndexOutOfBoundsException" :: Cond.initialized "java/lang/IndexOutOfBoundsException" :: vx_at0 zEo 166 "java/lang/IndexOutOfBoundsException" zEn).all vx_ot = true := by decide +kernel
set_option maxRecDepth 20000 in
theorem zEw1 : (Cond.classLink zEo 89 "java/lang/IllegalArgumentException" :: Cond.initialized "java/lang/IllegalArgumentException" :: vx_at0 zEo 91 "java/lang/IllegalArgumentException" zEn).all (fun w => decide (w ∈ zW) || decide (w ∈ zXw)) = true := by decide +kernel
theorem zEg1 : (Cond.classLink zEo 89 "java/lang/IllegalArgumentException" :: Cond.initialized "java/lang/IllegalArgumentException" :: vx_at0 zEo 91 "java/lang/IllegalArgumentException" zEn).all vx_ot = true := by decide +kernel
set_option maxRecDepth 20000 in
theorem zEw2 : (Cond.classLink zEo 97 "java/lang/IllegalStateException" :: Cond.initialized "java/lang/IllegalStateException" :: vx_at0 zEo 99 "java/lang/IllegalStateException" zEn).all (fun w => decide (w ∈ zW) || decide (w ∈ zXw)) = true := by decide +kernel
theorem zEg2 : (Cond.classLink zEo 97 "java/lang/IllegalStateException" :: Cond.initialized "java/lang/IllegalStateException" :: vx_at0 zEo 99 "java/lang/IllegalStateException" zEn).all vx_ot = true := by decide +kernel
theorem zEw {e : Nat} (h : e < 3) : ∀ w ∈ Cond.classLink zEo (zEx e).2.1 (zEx e).1 :: Cond.initialized (zEx e).1 :: vx_at0 zEo (zEx e).2.2 (zEx e).1 zEn, (w ∈ zW ∨ w ∈ zXw) ∧ vx_ot w = true := by
  intro w hw
  rcases (show e = 0 ∨ e = 1 ∨ e = 2 by omega) with rfl | rfl | rfl
  · exact ⟨by simpa using List.all_eq_true.mp zEw0 w hw, List.all_eq_true.mp zEg0 w hw⟩
  · exact ⟨by simpa using List.all_eq_true.mp zEw1 w hw, List.all_eq_true.mp zEg1 w hw⟩
  · exact ⟨by simpa using List.all_eq_true.mp zEw2 w hw, List.all_eq_true.mp zEg2 w hw⟩
theorem zEf {e : Nat} (h : e < 3) : Bundle.fit (zEx e).1 = true ∧ ∀ n ∈ zEn, Bundle.fit n = true := by
  refine ⟨?_, by decide⟩
  rcases (show e = 0 ∨ e = 1 ∨ e = 2 by omega) with rfl | rfl | rfl <;> decide
/-- whether the claim knows arrays of doubles -/
def zDb : Bool := false
theorem zWd (h : zDb = true) : Cond.arrayClass .double ∈ zW := nomatch h
theorem zWa : Cond.arrayClass .int ∈ zW ∧ Cond.arrayClass .long ∈ zW ∧ Cond.arrayClass .boolean ∈ zW := ⟨zW_of 498 (by decide +kernel) rfl, zW_of 552 (by decide +kernel) rfl, zW_of 654 (by decide +kernel) rfl⟩
/-- what no method's words may hold, and every state of a run keeps: the nest's links, the arrays of arrays -/
def zNOk (U : State) : Prop := (∀ w ∈ zNw, va_Nw w U) ∧ va_AOA .int U ∧ (∀ w ∈ zXw, va_Nw w U) ∧ ∀ q ∈ zXn, va_Nc q.1 q.2 U
theorem zNOk.same {u U : State} (h : u.vm = U.vm) (q : zNOk u) : zNOk U := ⟨fun w hw => va_Nw.same (u := u) (zNw_on w hw) h (q.1 w hw), va_AOA.moved (by rw [h]; exact Vm.Alike.refl _) q.2.1, fun w hw => va_Nw.same (u := u) (zXw_on w hw) h (q.2.2.1 w hw), fun w hw => va_Nc.moved (by rw [h]; exact Vm.Alike.refl _) (q.2.2.2 w hw)⟩
theorem zNOk.warm {s U : State} (hW : s.WarmedH U.vm) (q : zNOk s) : zNOk U := ⟨fun w hw => zNw_warm hW w hw (q.1 w hw), va_AOA.moved hW.alike q.2.1, fun w hw => zXw_warm hW w hw (q.2.2.1 w hw), fun w hw => va_Nc.moved hW.alike (q.2.2.2 w hw)⟩
theorem zAO_tbl : Cond.arrayOver (.array .int) ∈ lw_tbl := List.mem_of_getElem? (i := 482) (by decide +kernel)

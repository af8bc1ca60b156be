/-! ===== the law's own walk: what holds at its entry ===== -/
theorem zInst : ∀ ci, ci < 9 → Cond.instantiable (zCl ci).1 (zCl ci).2.2 ∈ lw_tbl := by
  intro ci h
  rcases (show ci = 0 ∨ ci = 1 ∨ ci = 2 ∨ ci = 3 ∨ ci = 4 ∨ ci = 5 ∨ ci = 6 ∨ ci = 7 ∨ ci = 8 by omega) with rfl | rfl | rfl | rfl | rfl | rfl | rfl | rfl | rfl
  · exact List.mem_of_getElem? (i := 204) (by decide +kernel)
  · exact List.mem_of_getElem? (i := 237) (by decide +kernel)
  · exact List.mem_of_getElem? (i := 119) (by decide +kernel)
  · exact List.mem_of_getElem? (i := 310) (by decide +kernel)
  · exact List.mem_of_getElem? (i := 277) (by decide +kernel)
  · exact List.mem_of_getElem? (i := 95) (by decide +kernel)
  · exact List.mem_of_getElem? (i := 173) (by decide +kernel)
  · exact List.mem_of_getElem? (i := 87) (by decide +kernel)
  · exact List.mem_of_getElem? (i := 993) (by decide +kernel)
theorem zlaw_K {args : Array Value} {s : State} (hts : ∀ w ∈ lw_tbl, w.before args s = true) : ∃ (D : va_G) (cA : Nat → ClassId), va_K D vwCl (ztys cA) s := by
  have hc : ∀ k, k < 9 → ∃ (cC : ClassId) (iS : Nat → Nat), u_Kn s (zCl k).1 (zCl k).2.1 (zCl k).2.2 cC iS := fun k hk =>
    u_known (n := (zCl k).2.2) hts (fun w hw => (List.mem_filter.mp (zLy_ok hk w hw)).1) (hts _ (zInst k hk))
  have hz : ∀ w ∈ zW, w.before args s = true := fun w hw => hts w (List.mem_filter.mp hw).1
  obtain ⟨c0, k0, m0, a1, a2, a3⟩ := Cond.arrayClass_spec (hz _ zWa.1)
  obtain ⟨c1, k1, m1, b1, b2, b3⟩ := Cond.arrayClass_spec (hz _ zWa.2.1)
  obtain ⟨c2, k2, m2, d1, d2, d3⟩ := Cond.arrayClass_spec (hz _ zWa.2.2)
  obtain ⟨c3, k3, m3, e1, e2, e3⟩ := Cond.arrayClass_spec (hz _ (zWd rfl))
  obtain ⟨m4, c4, k4, -, -, f1, f2, f3⟩ := arrayOverA_spec (hts _ zAO_tbl)
  refine ⟨(fun k => if h : k < 9 then (hc k h).choose else c0, fun k => if h : k < 9 then (hc k h).choose_spec.choose else fun _ => 0), fun k => if k = 100 then c0 else if k = 101 then c1 else if k = 102 then c2 else if k = 103 then c3 else c4, fun k q hq => ?_, fun k q hq => ?_⟩
  · have hk : k < 9 := (List.getElem?_eq_some_iff.mp hq).1
    rw [zCl_get hk] at hq
    cases hq
    dsimp only
    rw [dif_pos hk, dif_pos hk]
    exact (hc k hk).choose_spec.choose_spec
  · match k, hq with
    | 0, hq => cases hq; exact ⟨fun n z => ⟨fun k h => (by cases h), k0, a2, m0, a3⟩, a1⟩
    | 1, hq => cases hq; exact ⟨fun n z => ⟨fun k h => (by cases h), k1, b2, m1, b3⟩, b1⟩
    | 2, hq => cases hq; exact ⟨fun n z => ⟨fun k h => (by cases h), k2, d2, m2, d3⟩, d1⟩
    | 3, hq => cases hq; exact ⟨fun n z => ⟨fun k h => (by cases h), k4, f1, m4, f2⟩, f3⟩
    | 4, hq => cases hq; exact ⟨fun n z => ⟨fun k h => (by cases h), k3, e2, m3, e3⟩, e1⟩
    | k + 5, hq => cases hq
theorem zlaw_N {args : Array Value} {s : State} (hts : ∀ w ∈ lw_tbl, w.before args s = true) (hgv : (Jvm.Cond.and given_1 narrow_1).before args s = true) : zNOk s := by
  refine ⟨fun w hw => va_Nw.of (zNw_on w hw) (hts w (zNw_tbl w hw)), va_AOA.of (hts _ zAO_tbl), fun w hw => va_Nw.of (zXw_on w hw) (hts w (zXw_tbl w hw)), fun q hq => ?_⟩
  simp only [zXn, List.mem_cons, List.not_mem_nil, or_false] at hq
  rcases hq with rfl | rfl | rfl | rfl | rfl | rfl <;> exact va_Nc.of (flat_of_before _ hgv _ (by decide +kernel))
theorem zlaw_Th {args : Array Value} {s : State} (hts : ∀ w ∈ lw_tbl, w.before args s = true) (hgv : (Jvm.Cond.and given_1 narrow_1).before args s = true) : zTh (fun q => s.heap.size ≤ q) s s.heap :=
  ⟨vx_Zqof (hts _ (List.mem_of_getElem? (i := 638) (by decide +kernel))) (hts _ (List.mem_of_getElem? (i := 77) (by decide +kernel))) (flat_of_before _ hgv _ (by decide +kernel)) (fun a h => Nat.not_le.mpr h),
   vx_Zqof (hts _ (List.mem_of_getElem? (i := 640) (by decide +kernel))) (hts _ (List.mem_of_getElem? (i := 77) (by decide +kernel))) (flat_of_before _ hgv _ (by decide +kernel)) (fun a h => Nat.not_le.mpr h)⟩
/-- where the law's walk stands, in the abstract machine -/
abbrev zLw (p : Program) (l : Launch) (e : Env) (s : State) (m : MethodId) (below : List Frame) (meth : Method) (c : Code) (b : Nat) (D : va_G) (cA : Nat → ClassId) : zK := zG p l e room_1 s m #[Value.ref b] below meth c 9 D cA (fun q => s.heap.size ≤ q) s.heap (fun _ => b) 0 (lw_Z below #[Value.ref b] s)
abbrev zLX (p : Program) (l : Launch) (e : Env) (s : State) (m : MethodId) (below : List Frame) (meth : Method) (c : Code) (b : Nat) (D : va_G) (cA : Nat → ClassId) : Nat → zK := zGX p l e room_1 s m #[Value.ref b] below meth c 9 D cA (fun q => s.heap.size ≤ q) s.heap (fun _ => b) 0 (lw_Z below #[Value.ref b] s)
/-- what a walk of the law knows -/
def zLf (p : Program) (s : State) (m : MethodId) (meth : Method) (c : Code) (b L : Nat) (xs : Nat → Int32) (D : va_G) (cA : Nat → ClassId) : Prop :=
  zFx p s m #[Value.ref b] c code D cA RL ∧ c.maxLocals = 9 ∧ zNOk s ∧ zHX true (fun q => s.heap.size ≤ q) s.heap (fun _ => b) s ∧ (meth.sig.returnType = ret ∧ meth.locks = false) ∧ va_X b L xs s s.heap ∧ b < s.heap.size
theorem zLf_of {p : Program} {s : State} {m : MethodId} {meth : Method} {c : Code} {b L : Nat} {xs : Nat → Int32} (hL : L ≤ 7) (C0 : lw_At p s m meth c b L xs) : ∃ D cA, zLf p s m meth c b L xs D cA := by
  obtain ⟨hx, hb, hr, hml, hown, hts, hX, hbl, hlocks, hgv⟩ := C0
  obtain ⟨D, cA, hK⟩ := zlaw_K hts
  exact ⟨D, cA, ⟨hx, hb, hown, fun w hw => hts w (List.mem_filter.mp hw).1, hK⟩, hml, zlaw_N hts hgv, ⟨fun _ => ⟨⟨L, xs, Nat.le_trans hL (by decide), hX⟩, hbl, fun k hk => absurd hk (Nat.not_lt_zero k)⟩, fun _ => Nat.not_le.mpr hbl, zlaw_Th hts hgv⟩, ⟨hr, hlocks⟩, hX, hbl⟩
/-- a table with the script's length and cells -/
def zCe (C : zC) (S : List (Nat × Int32)) : zC := (C.1, C.2.1, S ++ C.2.2.1, C.2.2.2)
theorem zlk_app {S T : List (Nat × Int32)} {n : Nat} (h : S.all (fun q => Nat.blt n q.1) = true) : zlk (S ++ T) n = zlk T n := by
  induction S with
  | nil => rfl
  | cons q S ih =>
    obtain ⟨k, v⟩ := q
    simp only [List.all_cons, Bool.and_eq_true] at h
    have hk : n < k := Nat.blt_eq.mp h.1
    show (match Nat.beq k n with | true => some v | false => zlk (S ++ T) n) = zlk T n
    have e : Nat.beq k n = false := by
      cases hb : Nat.beq k n with
      | false => rfl
      | true => exact absurd (Nat.eq_of_beq_eq_true hb) (by omega)
    rw [e]
    exact ih h.2
theorem zck_ce {own : String} {ps : List (Nat × Nat)} {cc : ByteArray} {nL : Nat} {C : zC} {S : List (Nat × Int32)} {q : Nat × (Jvm.ClassFile.Instr × Nat × List Nat)} (h : S.all (fun w => Nat.blt q.1 w.1) = true) : zck own ps cc nL (zCe C S) q = zck own ps cc nL C q := by
  have e := zlk_app (T := C.2.2.1) h
  unfold zck zCe
  dsimp only
  rw [e]
theorem zce_tab {own : String} {ps : List (Nat × Nat)} {cc : ByteArray} {nL : Nat} {C : zC} {S : List (Nat × Int32)} (h : C.1.all (zck own ps cc nL C) = true) (hS : S.all (fun w => Nat.ble 299999 w.1) = true) (hT : C.1.all (fun q => Nat.blt q.1 299999) = true) : (zCe C S).1.all (zck own ps cc nL (zCe C S)) = true := by
  refine List.all_eq_true.mpr fun q hq => ?_
  rw [zck_ce]
  · exact List.all_eq_true.mp h q hq
  · refine List.all_eq_true.mpr fun w hw => ?_
    have h1 := Nat.le_of_ble_eq_true (List.all_eq_true.mp hS w hw)
    have h2 := Nat.blt_eq.mp (List.all_eq_true.mp hT q hq)
    exact Nat.blt_eq.mpr (by omega)
theorem zlaw_step {p : Program} {l : Launch} {e : Env} {s : State} {m : MethodId} {below : List Frame} {meth : Method} {c : Code} {b L : Nat} {xs : Nat → Int32} {D : va_G} {cA : Nat → ClassId} (F9 : zLf p s m meth c b L xs D cA) (C : zC) (S : List (Nat × Int32)) (ps : List (Nat × Nat)) (cuts : List Nat) (htab : C.1.all (zck RL ps code 9 C) = true)
    (hall : C.1.all (fun q => Nat.blt q.1 299999) = true ∧ C.1.all (zpf C) = true ∧ C.2.2.1.all (fun q => Nat.blt q.1 299999) = true ∧ C.2.2.2.2.2.1.all (fun q => Nat.blt q.1 99999) = true) (hkd : C.2.2.2.2.2.2 = 2) (hS : S.all (fun w => Nat.ble 299999 w.1) = true)
    (hsc : ∀ j v, (300000 + j, v) ∈ S → j < L ∧ xs j = v) (hsl : ∀ v, (299999, v) ∈ S → Int32.ofNat L = v) (hcalls : zCalls (zLw p l e s m below meth c b D cA) (zLX p l e s m below meth c b D cA) room_1 code C.2.2.2.2.1) :
    ∀ f pc ll st κ μ, zrun (zCe C S) (room_1.cells, room_1.slots) cuts (zLw p l e s m below meth c b D cA) (fun r _ => r = some (.int 1)) (f + 1) pc ll st κ μ → zLw p l e s m below meth c b D cA pc ll st κ μ := by
  obtain ⟨F, hml, hNw, hX, ⟨hr, hlocks⟩, hva, hbl⟩ := F9
  have hA : ∀ q, s.heap.size ≤ q → (fun q => s.heap.size ≤ q) q := fun _ h => h
  have hlow : ∀ n v, 299999 ≤ n → zlk (zCe C S).2.2.1 n = some v → (n, v) ∈ S := fun n v hn h => by
    rcases List.mem_append.mp (zlk_mem h) with q | q
    · exact q
    · have := Nat.blt_eq.mp (List.all_eq_true.mp hall.2.2.1 _ q)
      omega
  intro f pc ll st κ μ h
  refine zrun_ok (C := zCe C S) (R := room_1) (cuts := cuts) (fun pc ll st κ μ2 K hz kk => zst_ok F hNw.2.1 (List.all_eq_true.mp (zce_tab htab hS hall.1)) (Or.inr hall.2.1) hA hcalls ?_ ?_ ?_ ?_ ?_ hz kk) (f + 1) pc ll st κ μ h
  · intro I r pc ll κ μ hz hd hR ad H locs ls ha hn hwf hrm hP hD hS1 hl
    subst hR
    have hz2 : zrt 2 I (some (.int 1)) := by rw [← hkd]; exact hz
    have hI : I = .ireturn := by
      unfold zrt at hz2
      split at hz2 <;> first | rfl | exact hz2.elim | (rename_i h9; cases h9)
    subst hI
    refine va_forget (fun q hq => hS1.2.2 q hq) ?_
    refine W.widen (k := 600002) (n := 7302232) hrm.1 hrm.2 ?_
    refine W.base ?_
    exact lw_ret (Drawn.sameBut.refl s.drawn lw_cs) F.1 F.2.1 hr hlocks hd
  · intro j v hj
    obtain ⟨h1, h2⟩ := hsc j v (hlow _ v (Nat.le_trans (Nat.le_of_ble_eq_true rfl) (Nat.le_add_right 300000 j)) hj)
    exact ⟨L, xs, hva, hbl, Nat.not_le.mpr hbl, h1, h2⟩
  · intro v hv
    exact ⟨L, xs, hva, hbl, Nat.not_le.mpr hbl, hsl v (hlow _ v (Nat.le_refl _) hv)⟩
  · intro b9 pc ll r κ μ3 I nx tg _ _ q
    exact (zoutR_no (C := zCe C S) hall.2.2.2 q).elim
  · intro k i e9 pc ll κ μ3 h9
    rw [show (zCe C S).2.2.2.2.2.1 = C.2.2.2.2.2.1 from rfl, zlk_no hall.2.2.2 (Nat.le_refl _)] at h9
    cases h9
/-- a contract of a method that catches, where there is a script -/
theorem zctW_X {X : Bool} {l : Launch} {D : va_G} {cA : Nat → ClassId} {y : MethodName} {bc : ByteArray} {n : Nat} {ret : Option FieldType} {hh : List (Nat × Nat × Nat × Nat)} {rm : Room} {sp : zSp} (h : zCtW false l D cA y bc n ret hh rm sp) : zCtW X l D cA y bc n ret hh rm sp :=
  ⟨h.1, fun ad μ av Ret sz hsp => zmet_conv (h.2 ad μ av Ret sz hsp) (fun a s q => ⟨q.1, ⟨q.2.1.1, q.2.1.2.1, (fun x => by cases x), q.2.1.2.2.2⟩, q.2.2⟩) (fun _ _ _ _ _ q => q) (fun _ _ _ _ q => q)⟩
def zl0 : zLc := [some (.ref zS), some (.ref 0), some (.ref 119), some (.ref 143), some (.ref 144), some (.int 0), none, none, none]
theorem zF0e : ((145, zSH, zRH, zs0, zt0) : zM) = (145, zSH, zRH, zmx zs0, zmxL zt0 0) := by rw [zmx_id zmx_0, zmxL_id zt0_0]
theorem zeq1 {u : Int32} (h : 0 ≤ u ∧ u < 1) : 0 ≤ u ∧ u ≤ 0 := ⟨h.1, by rw [zu0 h]; decide⟩
theorem zeq1n {u : Int32} (h : ¬ (0 ≤ u ∧ u < 1)) : ¬ (0 ≤ u ∧ u ≤ 0) := fun q => h ⟨q.1, Int32.lt_of_le_of_lt q.2 (by decide)⟩
theorem zeq3 {u : Int32} (h : 0 ≤ u ∧ u < 4) : 0 ≤ u ∧ u ≤ 3 := ⟨h.1, by
  have h2 := Int32.lt_iff_toInt_lt.mp h.2
  have e4 : (4 : Int32).toInt = 4 := rfl
  have e3 : (3 : Int32).toInt = 3 := rfl
  exact Int32.le_iff_toInt_le.mpr (by omega)⟩
theorem zeq3n {u : Int32} (h : ¬ (0 ≤ u ∧ u < 4)) : ¬ (0 ≤ u ∧ u ≤ 3) := fun q => h ⟨q.1, Int32.lt_of_le_of_lt q.2 (by decide)⟩

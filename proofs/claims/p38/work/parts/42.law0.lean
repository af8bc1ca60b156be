/-! ===== the law's own walk: what holds at its entry ===== -/
theorem zInst : ∀ ci, ci < 9 → Cond.instantiable (zCl ci).1 (zCl ci).2.2 ∈ lw_tbl := by
  intro ci h
  rcases (show ci = 0 ∨ ci = 1 ∨ ci = 2 ∨ ci = 3 ∨ ci = 4 ∨ ci = 5 ∨ ci = 6 ∨ ci = 7 ∨ ci = 8 by omega) with rfl | rfl | rfl | rfl | rfl | rfl | rfl | rfl | rfl
  · exact List.mem_of_getElem? (i := 205) (by decide +kernel)
  · exact List.mem_of_getElem? (i := 229) (by decide +kernel)
  · exact List.mem_of_getElem? (i := 500) (by decide +kernel)
  · exact List.mem_of_getElem? (i := 688) (by decide +kernel)
  · exact List.mem_of_getElem? (i := 283) (by decide +kernel)
  · exact List.mem_of_getElem? (i := 476) (by decide +kernel)
  · exact List.mem_of_getElem? (i := 554) (by decide +kernel)
  · exact List.mem_of_getElem? (i := 61) (by decide +kernel)
  · exact List.mem_of_getElem? (i := 465) (by decide +kernel)
theorem zlaw_K {args : Array Value} {s : State} (hts : ∀ w ∈ lw_tbl, w.before args s = true) : ∃ (D : va_G) (cA : Nat → ClassId), va_K D vwCl (ztys cA) s := by
  have hc : ∀ k, k < 9 → ∃ (cC : ClassId) (iS : Nat → Nat), u_Kn s (zCl k).1 (zCl k).2.1 (zCl k).2.2 cC iS := fun k hk =>
    u_known (n := (zCl k).2.2) hts (fun w hw => (List.mem_filter.mp (zLy_ok hk w hw)).1) (hts _ (zInst k hk))
  have hz : ∀ w ∈ zW, w.before args s = true := fun w hw => hts w (List.mem_filter.mp hw).1
  obtain ⟨c0, k0, m0, a1, a2, a3⟩ := Cond.arrayClass_spec (hz _ zWa.1)
  obtain ⟨c1, k1, m1, b1, b2, b3⟩ := Cond.arrayClass_spec (hz _ zWa.2.1)
  obtain ⟨c2, k2, m2, d1, d2, d3⟩ := Cond.arrayClass_spec (hz _ zWa.2.2)
  obtain ⟨m4, c4, k4, -, -, f1, f2, f3⟩ := arrayOverA_spec (hts _ zAO_tbl)
  refine ⟨(fun k => if h : k < 9 then (hc k h).choose else c0, fun k => if h : k < 9 then (hc k h).choose_spec.choose else fun _ => 0), fun k => if k = 100 then c0 else if k = 101 then c1 else if k = 102 then c2 else c4, fun k q hq => ?_, fun k q hq => ?_⟩
  · have hk : k < 9 := (List.getElem?_eq_some_iff.mp hq).1
    rw [zCl_get hk] at hq
    cases hq
    dsimp only
    rw [dif_pos hk, dif_pos hk]
    exact (hc k hk).choose_spec.choose_spec
  · match k, hq with
    | 0, hq => cases hq; exact ⟨fun n z => ⟨fun k h => (by cases h), k0, a2, m0, a3⟩, a1⟩
    | 1, hq => cases hq; exact ⟨fun n z => ⟨fun k h => (by cases h), k1, b2, m1, b3⟩, b1⟩
    | 2, hq => cases hq; exact ⟨fun n z => ⟨fun k h => (by cases h), k2, d2, m2, d3⟩, d1⟩
    | 3, hq => cases hq; exact ⟨fun n z => ⟨fun k h => (by cases h), k4, f1, m4, f2⟩, f3⟩
    | k + 4, hq => cases hq
theorem zlaw_N {args : Array Value} {s : State} (hts : ∀ w ∈ lw_tbl, w.before args s = true) : zNOk s :=
  ⟨fun w hw => va_Nw.of (zNw_on w hw) (hts w (zNw_tbl w hw)), va_AOA.of (hts _ zAO_tbl), fun w hw => va_Nw.of (zXw_on w hw) (hts w (zXw_tbl w hw)), fun q hq => absurd hq List.not_mem_nil⟩
theorem zlaw_Th {args : Array Value} {s : State} (hts : ∀ w ∈ lw_tbl, w.before args s = true) (hgv : (Jvm.Cond.and given_1 narrow_1).before args s = true) : zTh (fun q => s.heap.size ≤ q) s s.heap :=
  ⟨vx_Zqof (hts _ (List.mem_of_getElem? (i := 96) (by decide +kernel))) (hts _ (List.mem_of_getElem? (i := 46) (by decide +kernel))) (flat_of_before _ hgv _ (by decide +kernel)) (fun a h => Nat.not_le.mpr h),
   vx_Zqof (hts _ (List.mem_of_getElem? (i := 98) (by decide +kernel))) (hts _ (List.mem_of_getElem? (i := 46) (by decide +kernel))) (flat_of_before _ hgv _ (by decide +kernel)) (fun a h => Nat.not_le.mpr h)⟩
/-- where the law's walk stands, in the abstract machine -/
abbrev zLw (p : Program) (l : Launch) (e : Env) (s : State) (m : MethodId) (below : List Frame) (meth : Method) (c : Code) (b : Nat) (D : va_G) (cA : Nat → ClassId) : zK := zG p l e room_1 s m #[Value.ref b] below meth c 18 D cA (fun q => s.heap.size ≤ q) s.heap (fun _ => b) 0 (lw_Z below #[Value.ref b] s)
abbrev zLX (p : Program) (l : Launch) (e : Env) (s : State) (m : MethodId) (below : List Frame) (meth : Method) (c : Code) (b : Nat) (D : va_G) (cA : Nat → ClassId) : Nat → zK := zGX p l e room_1 s m #[Value.ref b] below meth c 18 D cA (fun q => s.heap.size ≤ q) s.heap (fun _ => b) 0 (lw_Z below #[Value.ref b] s)
/-- what a walk of the law knows -/
def zLf (p : Program) (s : State) (m : MethodId) (meth : Method) (c : Code) (b L : Nat) (xs : Nat → Int32) (D : va_G) (cA : Nat → ClassId) : Prop :=
  zFx p s m #[Value.ref b] c code D cA RL ∧ c.maxLocals = 18 ∧ zNOk s ∧ zHX true (fun q => s.heap.size ≤ q) s.heap (fun _ => b) s ∧ (meth.sig.returnType = ret ∧ meth.locks = false) ∧ va_X b L xs s s.heap ∧ b < s.heap.size
theorem zLf_of {p : Program} {s : State} {m : MethodId} {meth : Method} {c : Code} {b L : Nat} {xs : Nat → Int32} (hL : L ≤ 260) (C0 : lw_At p s m meth c b L xs) : ∃ D cA, zLf p s m meth c b L xs D cA := by
  obtain ⟨hx, hb, hr, hml, hown, hts, hX, hbl, hlocks, hgv⟩ := C0
  obtain ⟨D, cA, hK⟩ := zlaw_K hts
  exact ⟨D, cA, ⟨hx, hb, hown, fun w hw => hts w (List.mem_filter.mp hw).1, hK⟩, hml, zlaw_N hts, ⟨fun _ => ⟨⟨L, xs, Nat.le_trans hL (by decide), hX⟩, hbl, fun k hk => absurd hk (Nat.not_lt_zero k)⟩, fun _ => Nat.not_le.mpr hbl, zlaw_Th hts hgv⟩, ⟨hr, hlocks⟩, hX, hbl⟩
theorem zlaw_step {p : Program} {l : Launch} {e : Env} {s : State} {m : MethodId} {below : List Frame} {meth : Method} {c : Code} {b L : Nat} {xs : Nat → Int32} {D : va_G} {cA : Nat → ClassId} (F9 : zLf p s m meth c b L xs D cA) (C : zC) (ps : List (Nat × Nat)) (cuts : List Nat) (htab : C.1.all (zck RL ps code 18 C) = true)
    (hall : C.1.all (zpf C) = true ∧ C.2.2.1.all (fun q => Nat.blt q.1 299999) = true ∧ C.2.2.2.2.2.1.all (fun q => Nat.blt q.1 99999) = true) (hkd : C.2.2.2.2.2.2 = 2) (hcalls : zCalls (zLw p l e s m below meth c b D cA) (zLX p l e s m below meth c b D cA) room_1 code C.2.2.2.2.1) :
    ∀ f pc ll st κ μ, zrun C (room_1.cells, room_1.slots) cuts (zLw p l e s m below meth c b D cA) (fun r _ => r = some (.int 1)) (f + 1) pc ll st κ μ → zLw p l e s m below meth c b D cA pc ll st κ μ := by
  obtain ⟨F, hml, hNw, hX, ⟨hr, hlocks⟩, hva, hbl⟩ := F9
  have hA : ∀ q, s.heap.size ≤ q → (fun q => s.heap.size ≤ q) q := fun _ h => h
  intro f pc ll st κ μ h
  refine zrun_ok (C := C) (R := room_1) (cuts := cuts) (fun pc ll st κ μ2 K hz kk => zst_ok F hNw.2.1 (List.all_eq_true.mp htab) (Or.inr hall.1) hA hcalls ?_ ?_ ?_ ?_ ?_ hz kk) (f + 1) pc ll st κ μ h
  · intro I r pc ll κ μ hz hd hR ad H locs ls ha hn hwf hrm hP hD hS1 hl
    subst hR
    have hz2 : zrt 2 I (some (.int 1)) := by rw [← hkd]; exact hz
    have hI : I = .ireturn := by
      unfold zrt at hz2
      split at hz2 <;> first | rfl | exact hz2.elim | (rename_i h9; cases h9)
    subst hI
    refine va_forget (fun q hq => hS1.2.2 q hq) ?_
    refine W.widen (k := 600074) (n := 7301550) hrm.1 hrm.2 ?_
    refine W.base ?_
    exact lw_ret (Drawn.sameBut.refl s.drawn lw_cs) F.1 F.2.1 hr hlocks hd
  · intro j v hj
    rw [zlk_no hall.2.1 (Nat.le_trans (Nat.le_of_ble_eq_true rfl) (Nat.le_add_right 300000 j))] at hj
    cases hj
  · intro v hv
    rw [zlk_no hall.2.1 (Nat.le_refl _)] at hv
    cases hv
  · intro b9 pc ll r κ μ3 I nx tg _ _ q
    exact (zoutR_no hall.2.2 q).elim
  · intro k i e9 pc ll κ μ3 h9
    rw [zlk_no hall.2.2 (Nat.le_refl _)] at h9
    cases h9
/-- what is not looked at any more: names from some number on, and locals -/
theorem zLw_fg {p : Program} {l : Launch} {e : Env} {s : State} {m : MethodId} {below : List Frame} {meth : Method} {c : Code} {b : Nat} {D : va_G} {cA : Nat → ClassId} {pc : Nat} {ll ll1 : zLc} {κ : Nat × Nat} {μ : zM} (n1 : Nat) (hn : n1 ≤ μ.1) (hrw : ∀ r j x, r < n1 → μ.2.2.1 r j = some x → x < n1 ∨ x = zS) (hll : ∀ i v, znth ll1 i = some v → znth ll i = some v ∧ zwV n1 v)
    (k : zLw p l e s m below meth c b D cA pc ll1 [] κ (n1, μ.2)) : zLw p l e s m below meth c b D cA pc ll [] κ μ := by
  intro ad H locs ls ha hn0 hwf hr hP hD hS hl
  have hget : ∀ (k : Nat) (q : Nat × va_E), (zw cA ad (n1, μ.2))[k]? = some q → (zw cA ad μ)[k]? = some q := fun k q h => by
    have hk : k < n1 := by simpa [zw] using (List.getElem?_eq_some_iff.mp h).1
    rw [zw_get (μ := (n1, μ.2)) hk] at h
    rw [zw_get (Nat.lt_of_lt_of_le hk hn), ← h]
    exact congrArg (fun x => some (ad k, x)) (zcell_ext rfl rfl rfl rfl (fun _ _ _ => rfl))
  refine k ad H locs ls ⟨ha.1, ha.2.1, Nat.le_trans hn ha.2.2.1, ha.2.2.2.1, ha.2.2.2.2⟩ (Nat.zero_le _) ⟨fun v hv => (List.not_mem_nil hv).elim, fun i v hv => (hll i v hv).2, fun r j x hr hx => hrw r j x hr hx⟩ hr (fun k q h => hP k q (hget k q h)) ⟨fun i j x y hx hy hxy => hD.1 i j x y (hget i x hx) (hget j y hy) hxy, fun k q h => hD.2 k q (hget k q h)⟩ hS ⟨hl.1, hl.2.1, fun i v hv => hl.2.2 i v (hll i v hv).1⟩

/-! ===== contracts over the abstract machine, and their use at calls ===== -/
def zrw (μ : zM) : Prop := ∀ r j b, r < μ.1 → μ.2.2.1 r j = some b → b < μ.1 ∨ b = zS
/-- which cells a method may change: its world's, and those that it makes -/
def zAr (cA : Nat → ClassId) (ad : Nat → Nat) (μ : zM) (sz : Nat) : Nat → Prop := va_A (zw cA ad μ) sz
/-- the script's array, where there is one -/
def zScr (X : Bool) (ad : Nat → Nat) (μ : zM) (U : State) (H : Heap) : Prop := X = true → (∃ (L : Nat) (xs : Nat → Int32), L ≤ 100000 ∧ va_X (ad zS) L xs U H) ∧ ad zS < H.size ∧ ∀ k, k < μ.1 → ad k ≠ ad zS
/-- what a throw reads: two statics of Throwable's, in no cell that the method may change -/
def zTh (A : Nat → Prop) (U : State) (H : Heap) : Prop := vx_Zq Bundle.tN "UNASSIGNED_STACK" Bundle.steD A U H ∧ vx_Zq Bundle.tN "SUPPRESSED_SENTINEL" Bundle.listD A U H
theorem zTh.moved {A : Nat → Prop} {u U : State} {H : Heap} (h : u.vm.Alike U.vm) (q : zTh A u H) : zTh A U H := ⟨vx_Zq.moved h q.1, vx_Zq.moved h q.2⟩
theorem zTh.narrow {A B : Nat → Prop} {U : State} {H : Heap} (h : ∀ q, B q → A q) (q : zTh A U H) : zTh B U H := ⟨vx_Zq.narrow q.1 h, vx_Zq.narrow q.2 h⟩
theorem zTh.kept {A : Nat → Prop} {U : State} {H H1 : Heap} (h : ∀ a : Nat, a < H.size → ¬ A a → H1[a]? = H[a]?) (q : zTh A U H) : zTh A U H1 := ⟨vx_Zq.kept q.1 h, vx_Zq.kept q.2 h⟩
/-- what a walk knows of the script: it is there at the start, and no cell that the method may change -/
def zHX (X : Bool) (A : Nat → Prop) (H0 : Heap) (ad0 : Nat → Nat) (s : State) : Prop := zScr X ad0 (0, (fun _ => (0, 0)), (fun _ _ => none), (fun _ _ => 0), fun _ _ => 0) s H0 ∧ (X = true → ¬ A (ad0 zS)) ∧ zTh A s H0
def zPre (X : Bool) (rm : Room) (D : va_G) (cA : Nat → ClassId) (ad : Nat → Nat) (μ : zM) (av : List Value) (sz : Nat) : State → Prop := fun U =>
  (μ.1 + rm.cells < zS ∧ (μ.2.1 zS).1 = 999 ∧ zScr X ad μ U U.heap ∧ zTh (zAr cA ad μ sz) U U.heap) ∧ U.heap.size = sz ∧ (∀ v ∈ av, zwV μ.1 v) ∧ zrw μ ∧ va_P D vwCl (zw cA ad μ) U.heap ∧ va_K D vwCl (ztys cA) U ∧ va_D (fun _ => True) (zw cA ad μ) ∧ zNOk U
def zPost (rm : Room) (D : va_G) (cA : Nat → ClassId) (ad : Nat → Nat) (μ : zM) (Ret : Option Value → zM → Prop) (sz : Nat) : Array Value → State → Outcome → State → Prop := fun _ st o t =>
  (∃ (r : Option Value) (μ1 : zM) (ad1 : Nat → Nat), o = .returned (r.map (zc ad1)) ∧ (Ret r μ1 ∧ ∀ b, r ≠ some (.float b)) ∧ μ.1 ≤ μ1.1 ∧ (∀ k, k < μ.1 → ad1 k = ad k) ∧ (ad1 zS = ad zS ∧ μ1.1 ≤ μ.1 + rm.cells ∧ (μ1.2.1 zS).1 = 999) ∧ (∀ v, r = some v → zwV μ1.1 v) ∧ zrw μ1 ∧ va_P D vwCl (zw cA ad1 μ1) t.heap ∧ va_D (zAr cA ad μ sz) (zw cA ad1 μ1)) ∧ va_F (zAr cA ad μ sz) st t
/-- where it throws: which exception, and what is left -/
def zXC (rm : Room) (D : va_G) (cA : Nat → ClassId) (ad : Nat → Nat) (μ : zM) (Ret : Option Value → zM → Prop) (sz : Nat) : String → State → State → Prop := fun E st t =>
  ∃ (b : UInt32) (μ1 : zM) (ad1 : Nat → Nat), E = (zEx b.toNat).1 ∧ Ret (some (.float b)) μ1 ∧ μ.1 ≤ μ1.1 ∧ (∀ k, k < μ.1 → ad1 k = ad k) ∧ (ad1 zS = ad zS ∧ μ1.1 ≤ μ.1 + rm.cells ∧ (μ1.2.1 zS).1 = 999) ∧ zrw μ1 ∧ va_P D vwCl (zw cA ad1 μ1) t.heap ∧ va_D (zAr cA ad μ sz) (zw cA ad1 μ1) ∧ va_F (zAr cA ad μ sz) st t
/-- a method's contract: what sp asks ahead of it gives what sp says behind it -/
def zCt (X : Bool) (l : Launch) (D : va_G) (cA : Nat → ClassId) (y : MethodName) (b : ByteArray) (n : Nat) (ret : Option FieldType) (rm : Room) (sp : zSp) : Prop :=
  zmono sp ∧ ∀ (ad : Nat → Nat) (μ : zM) (av : List Value) (Ret : Option Value → zM → Prop) (sz : Nat), sp av μ Ret → Met l y (Cond.code y b n ret :: zW) rm (va_Pc (av.map (zc ad)) (zPre X rm D cA ad μ av sz)) (zPost rm D cA ad μ Ret sz) rm.cells rm.slots (zAr cA ad μ sz)
/-- the same of a method that may throw -/
def zCtX (X : Bool) (l : Launch) (D : va_G) (cA : Nat → ClassId) (y : MethodName) (b : ByteArray) (n : Nat) (ret : Option FieldType) (rm : Room) (sp : zSp) : Prop :=
  zmono sp ∧ ∀ (ad : Nat → Nat) (μ : zM) (av : List Value) (Ret : Option Value → zM → Prop) (sz : Nat), sp av μ Ret → vx_Met l y (Cond.code y b n ret :: zW) rm (va_Pc (av.map (zc ad)) (zPre X rm D cA ad μ av sz)) (zPost rm D cA ad μ Ret sz) (zXC rm D cA ad μ Ret sz) rm.cells rm.slots (zAr cA ad μ sz)
theorem zwV_mono {n n' : Nat} (h : n ≤ n') {v : Value} (hv : zwV n v) : zwV n' v := by
  cases v <;> first | trivial | exact Or.imp_left (fun q => Nat.lt_of_lt_of_le q h) hv
theorem zc_same {ad ad1 : Nat → Nat} {n : Nat} (h : ∀ k, k < n → ad1 k = ad k) (hs : ad1 zS = ad zS) {v : Value} (hv : zwV n v) : zc ad1 v = zc ad v := by
  cases v <;> first | rfl | exact congrArg Value.ref (Or.elim hv (fun q => h _ q) (fun q => by rw [q]; exact hs))
theorem zpre_blind {X : Bool} {rm : Room} {D : va_G} {cA : Nat → ClassId} {ad : Nat → Nat} {μ : zM} {av : List Value} {sz : Nat} : FrameBlind (va_Pc (av.map (zc ad)) (zPre X rm D cA ad μ av sz)) := by
  intro a U g mk q
  obtain ⟨h1, h0, h2, h3, h4, h5, h6, h7, h8⟩ := q
  exact ⟨h1, ⟨h0.1, h0.2.1, fun x => ⟨let ⟨L, xs, a1, a2⟩ := (h0.2.2.1 x).1; ⟨L, xs, a1, va_X.moved (u := U) (U := U.calling g mk a) (Vm.Alike.refl U.vm) a2⟩, (h0.2.2.1 x).2⟩, zTh.moved (u := U) (U := U.calling g mk a) (Vm.Alike.refl U.vm) h0.2.2.2⟩, h2, h3, h4, h5, va_K.moved (u := U) (U := U.calling g mk a) (Vm.Alike.refl U.vm) h6, h7, zNOk.same (u := U) rfl h8⟩
section ZC
variable {p : Program} {l : Launch} {e : Env} {R : Room} {s : State} {m : MethodId} {args : Array Value} {below : List Frame} {meth : Method} {c : Code}
variable {cc : ByteArray} {nL : Nat} {D : va_G} {cA : Nat → ClassId} {A : Nat → Prop} {H0 : Heap} {ad0 : Nat → Nat} {n0 : Nat} {Q : State → Prop}
theorem zpre_at {X : Bool} {rm : Room} {ad : Nat → Nat} {μ : zM} {av : List Value} {H : Heap} (hav : ∀ v ∈ av, zwV μ.1 v) (hrw : zrw μ) (hP : va_P D vwCl (zw cA ad μ) H) (hK : va_K D vwCl (ztys cA) s) (hD : va_D A (zw cA ad μ)) (hNw : zNOk s) (h0 : μ.1 + rm.cells < zS ∧ (μ.2.1 zS).1 = 999 ∧ zScr X ad μ s H ∧ zTh (zAr cA ad μ H.size) s H) (U : State) (hU : U.heap = H) (hW : s.WarmedH U.vm) :
    va_Pc (av.map (zc ad)) (zPre X rm D cA ad μ av H.size) (av.map (zc ad)).toArray U :=
  ⟨rfl, ⟨h0.1, h0.2.1, fun x => by rw [hU]; exact ⟨let ⟨L, xs, a1, a2⟩ := (h0.2.2.1 x).1; ⟨L, xs, a1, va_X.moved hW.alike a2⟩, (h0.2.2.1 x).2⟩, by rw [hU]; exact zTh.moved hW.alike h0.2.2.2⟩, by rw [hU], hav, hrw, by rw [hU]; exact hP, va_K.moved hW.alike hK, hD.weaken (fun _ _ _ _ => trivial), hNw.warm hW⟩
/-- from a run of the callee to a call in the abstract machine -/
theorem zco_gen2 {X : Bool} {rm : Room} {I : Jvm.ClassFile.Instr} {n : Nat} {sp : zSp} {ms : Nat} (hX : zHX X A H0 ad0 s) (hA : ∀ q, H0.size ≤ q → A q) (hm : zmono sp)
    (hrun : ∀ (ad : Nat → Nat) (H : Heap) (locs : List Loc) (ls : Array Slot) (pc : Nat) (av r : List Value) (κ : Nat × Nat) (μ : zM) (Ret : Option Value → zM → Prop), decode cc pc = .ok (I, 3) → av.length = n → zcats r ≤ 8 → (κ.1 + rm.cells ≤ R.cells ∧ κ.2 + ms ≤ R.slots) → sp av μ Ret → (∀ v ∈ av, zwV μ.1 v) → zrw μ → va_P D vwCl (zw cA ad μ) H → va_D A (zw cA ad μ) → ls.size = nL → (μ.1 + rm.cells < zS ∧ (μ.2.1 zS).1 = 999 ∧ zScr X ad μ s H ∧ zTh (zAr cA ad μ H.size) s H) →
      vx_Run p l e R s m args below meth c H locs κ.1 κ.2 rm.cells ms (F0 m pc ls ((av.reverse ++ r).map (zc ad))) (r.map (zc ad)) (zPost rm D cA ad μ Ret H.size (av.map (zc ad)).toArray) (zXC rm D cA ad μ Ret H.size) (zAr cA ad μ H.size)) :
    zCO (zG p l e R s m args below meth c nL D cA A H0 ad0 n0 Q) (zGX p l e R s m args below meth c nL D cA A H0 ad0 n0 Q) R cc I n sp rm.cells ms := by
  refine ⟨hm, fun pc ll av r κ μ hd hlen hcat hbd hsp ad H locs ls ha hn hwf hr hP hD hS hl => ?_⟩
  have hav : ∀ v ∈ av, zwV μ.1 v := fun v hv => hwf.1 v (List.mem_append_left _ (List.mem_reverse.mpr hv))
  have hrs : ∀ v ∈ r, zwV μ.1 v := fun v hv => hwf.1 v (List.mem_append_right _ hv)
  have hF : ∀ q, zAr cA ad μ H.size q → A q := by
    intro q hq
    rcases hq with ⟨k, e, hk⟩ | hq
    · exact hD.2 k _ hk
    · exact hA q (Nat.le_trans hS.1 hq)
  obtain ⟨ha1, ha2, ha3, ha4, ha5⟩ := ha
  have hscr : zScr X ad μ s H := fun x => by
    obtain ⟨⟨L, xs, x1, x2⟩, x3, -⟩ := hX.1 x
    have x4 := hX.2.1 x
    rw [← ha2] at x2 x3 x4
    exact ⟨⟨L, xs, x1, x2.kept (hS.2.1 _ x3 x4)⟩, Nat.lt_of_lt_of_le x3 hS.1, fun k hk e => x4 (by rw [← e]; exact hD.2 k _ (zw_get hk))⟩
  have hth : zTh (zAr cA ad μ H.size) s H := (hX.2.2.kept hS.2.1).narrow hF
  intro T hT X9
  rcases hrun ad H locs ls pc av r κ μ _ hd hlen hcat hbd hsp hav hwf.2.2 hP hD hl.1 ⟨by omega, ha4, hscr, hth⟩ T hT X9 with ⟨v, st₀, t, T', L, g0, X', hL, e1, e2, ⟨⟨rv, μ1, ad1, o1, ⟨o2, o2b⟩, o3, o4, ⟨p1, p2, p3⟩, o5, o6, o7, o8⟩, hz, hk⟩, st⟩ | ⟨q9, st₀, t, T', L, E, ce, g0, X', hL, e1, e2, ⟨b9, μ1, ad1, rfl, o2, o3, o4, ⟨p1, p2, p3⟩, o6, o7, o8, hz, hk⟩, hce, hcv, hcl, st⟩
  · cases o1
    rw [g0] at hz hk
    have hstk : (rv.map (zc ad1)).toList ++ r.map (zc ad) = (zpush rv r).map (zc ad1) := by
      have hr1 : r.map (zc ad1) = r.map (zc ad) := List.map_congr_left fun v hv => zc_same o4 p1 (hrs v hv)
      cases rv with
      | none => exact hr1.symm
      | some v => simp only [Option.map_some, Option.toList_some, List.cons_append, List.nil_append, zpush, List.map_cons, hr1]
    rw [hstk] at st
    have hS1 : va_S A H0 T'.heap (locs ++ L) := ⟨Nat.le_trans hS.1 (by rw [e1]; exact hz), fun q h1 h2 => by rw [e1, hk q (Nat.lt_of_lt_of_le h1 hS.1) (fun z => h2 (hF q z))]; exact hS.2.1 q h1 h2, fun q hq => (List.mem_append.mp hq).elim (hS.2.2 q) (fun h => hF _ (hL q h))⟩
    obtain ⟨t2, a1, b1⟩ := zoG_nf o2b o2 ad1 T'.heap (locs ++ L) ls ⟨fun k hk => (o4 k (Nat.lt_of_lt_of_le hk hn)).trans (ha1 k hk), p1.trans ha2, by show μ1.1 ≤ n0 + (κ.1 + rm.cells); omega, p3, ha5⟩ (Nat.le_trans hn o3) ⟨fun v hv => by
        cases rv with
        | none => exact zwV_mono o3 (hrs v hv)
        | some w => exact (List.mem_cons.mp hv).elim (fun q => q ▸ o5 w rfl) (fun q => zwV_mono o3 (hrs v q)), fun i v hv => zwV_mono o3 (hwf.2.1 i v hv), o6⟩ hbd (by rw [e1]; exact o7) (o8.weaken (fun _ _ _ h => hF _ h)) hS1 ⟨hl.1, hl.2.1, fun i v hv => by rw [zc_same o4 p1 (hwf.2.1 i v hv)]; exact hl.2.2 i v hv⟩ T' rfl X'
    exact ⟨t2, st t2 a1, b1⟩
  · rw [g0] at hz hk
    have hr1 : r.map (zc ad1) = r.map (zc ad) := List.map_congr_left fun v hv => zc_same o4 p1 (hrs v hv)
    have hS1 : va_S A H0 T'.heap (locs ++ L) := ⟨Nat.le_trans hS.1 (by rw [e1]; exact hz), fun q h1 h2 => by rw [e1, hk q (Nat.lt_of_lt_of_le h1 hS.1) (fun z => h2 (hF q z))]; exact hS.2.1 q h1 h2, fun q hq => (List.mem_append.mp hq).elim (hS.2.2 q) (fun h => hF _ (hL q h))⟩
    have o2' : zGX p l e R s m args below meth c nL D cA A H0 ad0 n0 Q b9.toNat pc ll r (κ.1 + rm.cells, κ.2 + ms) μ1 := o2
    obtain ⟨t2, a1, b1⟩ := o2' ad1 T'.heap (locs ++ L) ls ⟨fun k hk => (o4 k (Nat.lt_of_lt_of_le hk hn)).trans (ha1 k hk), p1.trans ha2, by show μ1.1 ≤ n0 + (κ.1 + rm.cells); omega, p3, ha5⟩ (Nat.le_trans hn o3) ⟨fun v hv => zwV_mono o3 (hrs v hv), fun i v hv => zwV_mono o3 (hwf.2.1 i v hv), o6⟩ hbd (by rw [e1]; exact o7) (o8.weaken (fun _ _ _ h => hF _ h)) hS1 ⟨hl.1, hl.2.1, fun i v hv => by rw [zc_same o4 p1 (hwf.2.1 i v hv)]; exact hl.2.2 i v hv⟩ q9 ce (by rw [e1]; exact hce) hcv hcl T' rfl X'
    rw [hr1] at a1
    exact ⟨t2, st.trans a1, b1⟩
theorem zco_gen {X : Bool} {rm : Room} {I : Jvm.ClassFile.Instr} {n : Nat} {sp : zSp} {ms : Nat} (hX : zHX X A H0 ad0 s) (hA : ∀ q, H0.size ≤ q → A q) (hm : zmono sp)
    (hrun : ∀ (ad : Nat → Nat) (H : Heap) (locs : List Loc) (ls : Array Slot) (pc : Nat) (av r : List Value) (κ : Nat × Nat) (μ : zM) (Ret : Option Value → zM → Prop), decode cc pc = .ok (I, 3) → av.length = n → zcats r ≤ 8 → (κ.1 + rm.cells ≤ R.cells ∧ κ.2 + ms ≤ R.slots) → sp av μ Ret → (∀ v ∈ av, zwV μ.1 v) → zrw μ → va_P D vwCl (zw cA ad μ) H → va_D A (zw cA ad μ) → ls.size = nL → (μ.1 + rm.cells < zS ∧ (μ.2.1 zS).1 = 999 ∧ zScr X ad μ s H ∧ zTh (zAr cA ad μ H.size) s H) →
      va_Run p l e R s m args below meth c H locs κ.1 κ.2 rm.cells ms (F0 m pc ls ((av.reverse ++ r).map (zc ad))) (r.map (zc ad)) (zPost rm D cA ad μ Ret H.size (av.map (zc ad)).toArray) (zAr cA ad μ H.size)) :
    zCO (zG p l e R s m args below meth c nL D cA A H0 ad0 n0 Q) (zGX p l e R s m args below meth c nL D cA A H0 ad0 n0 Q) R cc I n sp rm.cells ms :=
  zco_gen2 hX hA hm (fun ad H locs ls pc av r κ μ Ret h1 h2 h3 h4 h5 h6 h7 h8 h9 h10 h11 T hT X9 => Or.inl (hrun ad H locs ls pc av r κ μ Ret h1 h2 h3 h4 h5 h6 h7 h8 h9 h10 h11 T hT X9))
/-- the words of a method's own code go with the tables' -/
theorem zgood (y : MethodName) (b : ByteArray) (n : Nat) (ret : Option FieldType) (hc : Cond.code y b n ret ∈ zW) : GoodIn zW (Cond.code y b n ret :: zW) := by
  intro w hw
  have hw1 : w ∈ zW := (List.mem_cons.mp hw).elim (fun q => q ▸ hc) id
  exact ⟨hw1, good_of_word ((List.mem_filter.mp hw1).2)⟩
theorem zco_V {y : MethodName} {b : ByteArray} {n nA k : Nat} {ret : Option FieldType} {rm : Room} {sp : zSp} {own : String} {ci : Nat} {X : Bool} (hX : zHX X A H0 ad0 s) (hA : ∀ q, H0.size ≤ q → A q) (F : zFx p s m args c cc D cA own) (hml : c.maxLocals = nL) (hNw : zNOk s) (hct : zCt X l D cA y b n ret rm sp)
    (hw : (Cond.methodLink own k y ∈ zW ∧ Cond.instanceMethod y ∈ zW ∧ Cond.selects y.cls y y ∈ zW) ∧ Cond.initialized y.cls ∈ zW ∧ Cond.code y b n ret ∈ zW) (hd : y.cls ≠ "java/lang/invoke/MethodHandle" ∧ y.cls ≠ "java/lang/invoke/VarHandle" ∧ (parseMethodDescriptor y.desc).map (fun d => d.parameters.length) = some nA) (hR : rm.frames + 1 ≤ R.frames ∧ 8 + (n + 11) + rm.locals ≤ R.locals)
    (hci : ci < zNc) (hcl : (zCl ci).1 = y.cls) (hrecv : ∀ av μ K, sp av μ K → ∃ r As, av = .ref r :: As ∧ (μ.2.1 r).1 = ci) : zCO (zG p l e R s m args below meth c nL D cA A H0 ad0 n0 Q) (zGX p l e R s m args below meth c nL D cA A H0 ad0 n0 Q) R cc (.invokevirtual k) (nA + 1) sp rm.cells rm.slots := by
  obtain ⟨hx, hb, hown, hts, hK⟩ := F
  refine zco_gen hX hA hct.1 (fun ad H locs ls pc av r κ μ Ret h1 h2 h3 h4 h5 h6 h7 h8 h9 h10 h11 => ?_)
  obtain ⟨r0, As, rfl, hr0⟩ := hrecv _ _ _ h5
  have hr1 : r0 < μ.1 := (h6 (.ref r0) List.mem_cons_self : r0 < μ.1 ∨ r0 = zS).resolve_right fun q => by have := h11.2.1; rw [← q, hr0] at this; exact absurd this (Nat.ne_of_lt (Nat.lt_of_lt_of_le hci (by decide)))
  have hcb : CallW R s args own y.cls k y b n ret (Cond.code y b n ret :: zW) rm rm.cells rm.slots nA := ⟨callB_of nA hts (zgood y b n ret hw.2.2) rfl rfl rfl (hts _ hw.2.1) (hts _ hw.1.1) hd hR, hts _ hw.1.2.1, hts _ hw.1.2.2⟩
  have hp : PreV s H y.cls (ad r0) (va_Pc ((Value.ref r0 :: As).map (zc ad)) (zPre X rm D cA ad μ (.ref r0 :: As) H.size)) (As.map (zc ad)) := ⟨zpre_blind, by
    rw [← hcl]
    exact va_recv hK h8 (ci := ci) (q0 := r0) (zCl_get hci) (by rw [zw_get hr1, zcell_obj hr0 hci]), zpre_at h6 h7 h8 hK h9 hNw h11⟩
  have hst : ((Value.ref r0 :: As).reverse ++ r).map (zc ad) = (As.map (zc ad)).reverse ++ .ref (ad r0) :: r.map (zc ad) := by simp [zc]
  rw [hst]
  exact va_runV ⟨hx, hb, hml, hown, hts⟩ (hct.2 ad μ (.ref r0 :: As) Ret H.size h5) hcb hp rfl (by simpa using h2) h10 rfl (lv_room (by rw [zcats_eq]; exact h3)) h1 h4
theorem zco_VX {y : MethodName} {b : ByteArray} {n nA k : Nat} {ret : Option FieldType} {rm : Room} {sp : zSp} {own : String} {ci : Nat} {X : Bool} (hX : zHX X A H0 ad0 s) (hA : ∀ q, H0.size ≤ q → A q) (F : zFx p s m args c cc D cA own) (hml : c.maxLocals = nL) (hNw : zNOk s) (hct : zCtX X l D cA y b n ret rm sp)
    (hw : (Cond.methodLink own k y ∈ zW ∧ Cond.instanceMethod y ∈ zW ∧ Cond.selects y.cls y y ∈ zW) ∧ Cond.initialized y.cls ∈ zW ∧ Cond.code y b n ret ∈ zW) (hd : y.cls ≠ "java/lang/invoke/MethodHandle" ∧ y.cls ≠ "java/lang/invoke/VarHandle" ∧ (parseMethodDescriptor y.desc).map (fun d => d.parameters.length) = some nA) (hR : rm.frames + 1 ≤ R.frames ∧ 8 + (n + 11) + rm.locals ≤ R.locals)
    (hci : ci < zNc) (hcl : (zCl ci).1 = y.cls) (hrecv : ∀ av μ K, sp av μ K → ∃ r As, av = .ref r :: As ∧ (μ.2.1 r).1 = ci) : zCO (zG p l e R s m args below meth c nL D cA A H0 ad0 n0 Q) (zGX p l e R s m args below meth c nL D cA A H0 ad0 n0 Q) R cc (.invokevirtual k) (nA + 1) sp rm.cells rm.slots := by
  obtain ⟨hx, hb, hown, hts, hK⟩ := F
  refine zco_gen2 hX hA hct.1 (fun ad H locs ls pc av r κ μ Ret h1 h2 h3 h4 h5 h6 h7 h8 h9 h10 h11 => ?_)
  obtain ⟨r0, As, rfl, hr0⟩ := hrecv _ _ _ h5
  have hr1 : r0 < μ.1 := (h6 (.ref r0) List.mem_cons_self : r0 < μ.1 ∨ r0 = zS).resolve_right fun q => by have := h11.2.1; rw [← q, hr0] at this; exact absurd this (Nat.ne_of_lt (Nat.lt_of_lt_of_le hci (by decide)))
  have hcb : CallW R s args own y.cls k y b n ret (Cond.code y b n ret :: zW) rm rm.cells rm.slots nA := ⟨callB_of nA hts (zgood y b n ret hw.2.2) rfl rfl rfl (hts _ hw.2.1) (hts _ hw.1.1) hd hR, hts _ hw.1.2.1, hts _ hw.1.2.2⟩
  have hp : PreV s H y.cls (ad r0) (va_Pc ((Value.ref r0 :: As).map (zc ad)) (zPre X rm D cA ad μ (.ref r0 :: As) H.size)) (As.map (zc ad)) := ⟨zpre_blind, by
    rw [← hcl]
    exact va_recv hK h8 (ci := ci) (q0 := r0) (zCl_get hci) (by rw [zw_get hr1, zcell_obj hr0 hci]), zpre_at h6 h7 h8 hK h9 hNw h11⟩
  have hst : ((Value.ref r0 :: As).reverse ++ r).map (zc ad) = (As.map (zc ad)).reverse ++ .ref (ad r0) :: r.map (zc ad) := by simp [zc]
  rw [hst]
  exact vx_runV ⟨hx, hb, hml, hown, hts⟩ (hct.2 ad μ (.ref r0 :: As) Ret H.size h5) hcb hp rfl (by simpa using h2) h10 rfl (lv_room (by rw [zcats_eq]; exact h3)) h1 h4
/-- a static call of the own class, of a nest mate; a constructor's, own and a nest mate's -/
theorem zco_S {y : MethodName} {b : ByteArray} {n nA k : Nat} {ret : Option FieldType} {rm : Room} {sp : zSp} {own : String} {X : Bool} (hX : zHX X A H0 ad0 s) (hA : ∀ q, H0.size ≤ q → A q) (F : zFx p s m args c cc D cA own) (hml : c.maxLocals = nL) (hNw : zNOk s) (hct : zCt X l D cA y b n ret rm sp)
    (hw : (Cond.methodLink own k y ∈ zW ∧ Cond.static y ∈ zW) ∧ Cond.initialized y.cls ∈ zW ∧ Cond.code y b n ret ∈ zW) (hd : y.cls ≠ "java/lang/invoke/MethodHandle" ∧ y.cls ≠ "java/lang/invoke/VarHandle" ∧ (parseMethodDescriptor y.desc).map (fun d => d.parameters.length) = some nA) (hR : rm.frames + 1 ≤ R.frames ∧ 8 + (n + 11) + rm.locals ≤ R.locals) : zCO (zG p l e R s m args below meth c nL D cA A H0 ad0 n0 Q) (zGX p l e R s m args below meth c nL D cA A H0 ad0 n0 Q) R cc (.invokestatic k) nA sp rm.cells rm.slots := by
  obtain ⟨hx, hb, hown, hts, hK⟩ := F
  refine zco_gen hX hA hct.1 (fun ad H locs ls pc av r κ μ Ret h1 h2 h3 h4 h5 h6 h7 h8 h9 h10 h11 => ?_)
  have hcb : CallB R s args own k y b n ret (Cond.code y b n ret :: zW) rm rm.cells rm.slots nA ∧ (Cond.static y).before args s = true := ⟨callB_of nA hts (zgood y b n ret hw.2.2) rfl rfl rfl (hts _ hw.2.1) (hts _ hw.1.1) hd hR, hts _ hw.1.2⟩
  rw [List.map_append, List.map_reverse]
  exact va_runS ⟨hx, hb, hml, hown, hts⟩ (hct.2 ad μ av Ret H.size h5) hcb ⟨zpre_blind, zpre_at h6 h7 h8 hK h9 hNw h11⟩ rfl (by simpa using h2) h10 rfl (lv_room (by rw [zcats_eq]; exact h3)) h1 h4
theorem zco_SN {y : MethodName} {b : ByteArray} {n nA k : Nat} {ret : Option FieldType} {rm : Room} {sp : zSp} {own host : String} {X : Bool} (hX : zHX X A H0 ad0 s) (hA : ∀ q, H0.size ≤ q → A q) (F : zFx p s m args c cc D cA own) (hml : c.maxLocals = nL) (hNw : zNOk s) (hct : zCt X l D cA y b n ret rm sp)
    (hw : (Cond.methodLinkNest own k y host ∈ zNw ∧ Cond.static y ∈ zW) ∧ Cond.initialized y.cls ∈ zW ∧ Cond.code y b n ret ∈ zW) (hd : y.cls ≠ "java/lang/invoke/MethodHandle" ∧ y.cls ≠ "java/lang/invoke/VarHandle" ∧ (parseMethodDescriptor y.desc).map (fun d => d.parameters.length) = some nA) (hR : rm.frames + 1 ≤ R.frames ∧ 8 + (n + 11) + rm.locals ≤ R.locals) : zCO (zG p l e R s m args below meth c nL D cA A H0 ad0 n0 Q) (zGX p l e R s m args below meth c nL D cA A H0 ad0 n0 Q) R cc (.invokestatic k) nA sp rm.cells rm.slots := by
  obtain ⟨hx, hb, hown, hts, hK⟩ := F
  refine zco_gen hX hA hct.1 (fun ad H locs ls pc av r κ μ Ret h1 h2 h3 h4 h5 h6 h7 h8 h9 h10 h11 => ?_)
  have hcb := va_cnB (R := R) (s := s) (args := args) nA hts (zgood y b n ret hw.2.2) rfl rfl rfl (hNw.1 _ hw.1.1) (hts _ hw.2.1) hd hR
  rw [List.map_append, List.map_reverse]
  exact va_runSN ⟨hx, hb, hml, hown, hts⟩ (hct.2 ad μ av Ret H.size h5) ⟨hcb, hts _ hw.1.2, trivial⟩ ⟨zpre_blind, zpre_at h6 h7 h8 hK h9 hNw h11⟩ rfl (by simpa using h2) h10 rfl (lv_room (by rw [zcats_eq]; exact h3)) h1 h4
theorem zco_I {y : MethodName} {b : ByteArray} {n nA k : Nat} {rm : Room} {sp : zSp} {own : String} {X : Bool} (hX : zHX X A H0 ad0 s) (hA : ∀ q, H0.size ≤ q → A q) (F : zFx p s m args c cc D cA own) (hml : c.maxLocals = nL) (hNw : zNOk s) (hct : zCt X l D cA y b n none rm sp)
    (hw : (Cond.methodLink own k y ∈ zW ∧ Cond.instanceMethod y ∈ zW ∧ y.name = "<init>") ∧ Cond.initialized y.cls ∈ zW ∧ Cond.code y b n none ∈ zW) (hd : y.cls ≠ "java/lang/invoke/MethodHandle" ∧ y.cls ≠ "java/lang/invoke/VarHandle" ∧ (parseMethodDescriptor y.desc).map (fun d => d.parameters.length) = some nA) (hR : rm.frames + 1 ≤ R.frames ∧ 8 + (n + 11) + rm.locals ≤ R.locals)
    (hrecv : ∀ av μ K, sp av μ K → ∃ r As, av = .ref r :: As) : zCO (zG p l e R s m args below meth c nL D cA A H0 ad0 n0 Q) (zGX p l e R s m args below meth c nL D cA A H0 ad0 n0 Q) R cc (.invokespecial k) (nA + 1) sp rm.cells rm.slots := by
  obtain ⟨hx, hb, hown, hts, hK⟩ := F
  refine zco_gen hX hA hct.1 (fun ad H locs ls pc av r κ μ Ret h1 h2 h3 h4 h5 h6 h7 h8 h9 h10 h11 => ?_)
  obtain ⟨r0, As, rfl⟩ := hrecv _ _ _ h5
  have hcb := cwI (R := R) (s := s) (args := args) nA hts (zgood y b n none hw.2.2) rfl rfl rfl (hts _ hw.2.1) (hts _ hw.1.1) (hts _ hw.1.2.1) hw.1.2.2 hd hR
  have hst : ((Value.ref r0 :: As).reverse ++ r).map (zc ad) = (As.map (zc ad)).reverse ++ .ref (ad r0) :: r.map (zc ad) := by simp [zc]
  rw [hst]
  exact va_runI ⟨hx, hb, hml, hown, hts⟩ (hct.2 ad μ (.ref r0 :: As) Ret H.size h5) hcb ⟨zpre_blind, zpre_at h6 h7 h8 hK h9 hNw h11⟩ rfl (by simpa using h2) h10 rfl (lv_room (by rw [zcats_eq]; exact h3)) h1 h4
theorem zco_IN {y : MethodName} {b : ByteArray} {n nA k : Nat} {rm : Room} {sp : zSp} {own host : String} {X : Bool} (hX : zHX X A H0 ad0 s) (hA : ∀ q, H0.size ≤ q → A q) (F : zFx p s m args c cc D cA own) (hml : c.maxLocals = nL) (hNw : zNOk s) (hct : zCt X l D cA y b n none rm sp)
    (hw : (Cond.methodLinkNest own k y host ∈ zNw ∧ Cond.instanceMethod y ∈ zW ∧ y.name = "<init>") ∧ Cond.initialized y.cls ∈ zW ∧ Cond.code y b n none ∈ zW) (hd : y.cls ≠ "java/lang/invoke/MethodHandle" ∧ y.cls ≠ "java/lang/invoke/VarHandle" ∧ (parseMethodDescriptor y.desc).map (fun d => d.parameters.length) = some nA) (hR : rm.frames + 1 ≤ R.frames ∧ 8 + (n + 11) + rm.locals ≤ R.locals)
    (hrecv : ∀ av μ K, sp av μ K → ∃ r As, av = .ref r :: As) : zCO (zG p l e R s m args below meth c nL D cA A H0 ad0 n0 Q) (zGX p l e R s m args below meth c nL D cA A H0 ad0 n0 Q) R cc (.invokespecial k) (nA + 1) sp rm.cells rm.slots := by
  obtain ⟨hx, hb, hown, hts, hK⟩ := F
  refine zco_gen hX hA hct.1 (fun ad H locs ls pc av r κ μ Ret h1 h2 h3 h4 h5 h6 h7 h8 h9 h10 h11 => ?_)
  obtain ⟨r0, As, rfl⟩ := hrecv _ _ _ h5
  have hcb := va_cnB (R := R) (s := s) (args := args) nA hts (zgood y b n none hw.2.2) rfl rfl rfl (hNw.1 _ hw.1.1) (hts _ hw.2.1) hd hR
  have hst : ((Value.ref r0 :: As).reverse ++ r).map (zc ad) = (As.map (zc ad)).reverse ++ .ref (ad r0) :: r.map (zc ad) := by simp [zc]
  rw [hst]
  exact va_runIN ⟨hx, hb, hml, hown, hts⟩ (hct.2 ad μ (.ref r0 :: As) Ret H.size h5) ⟨hcb, hw.1.2.2, hts _ hw.1.2.1⟩ ⟨zpre_blind, zpre_at h6 h7 h8 hK h9 hNw h11⟩ rfl (by simpa using h2) h10 rfl (lv_room (by rw [zcats_eq]; exact h3)) h1 h4
/-! the library's own -/
theorem zval_sub {ad : Nat → Nat} {st : List Value} : (st.map fun v => v.category).sum = zcats st := by
  induction st with
  | nil => rfl
  | cons v st ih => simp only [List.map_cons, List.sum_cons, zcats, ih]
def spMax : zSp := fun av μ K => ∃ x y, av = [.int x, .int y] ∧ K (some (.int (if x < y then y else x))) μ
def spMin : zSp := fun av μ K => ∃ x y, av = [.int x, .int y] ∧ K (some (.int (if y < x then y else x))) μ
def spAbs : zSp := fun av μ K => ∃ x, av = [.int x] ∧ K (some (.int (if 0 ≤ x then x else 0 - x))) μ
theorem zco_max {own : String} {k : Nat} (F : zFx p s m args c cc D cA own) (hml : c.maxLocals = nL) (hw : Cond.methodLink own k Lib.Math.max.name ∈ zW ∧ Cond.static Lib.Math.max.name ∈ zW ∧ Cond.initialized "java/lang/Math" ∈ zW ∧ Cond.code Lib.Math.max.name Lib.Math.max.code 2 (some .int) ∈ zW) (hR : 1 ≤ R.frames ∧ 21 ≤ R.locals) : zCO (zG p l e R s m args below meth c nL D cA A H0 ad0 n0 Q) (zGX p l e R s m args below meth c nL D cA A H0 ad0 n0 Q) R cc (.invokestatic k) 2 spMax 0 0 := by
  obtain ⟨hx, hb, hown, hts, hK⟩ := F
  refine ⟨fun av μ K K' h => by rintro ⟨x, y, h1, h2⟩; exact ⟨x, y, h1, h _ _ h2⟩, ?_⟩
  rintro pc ll av r κ μ hd hlen hcat hbd ⟨x, y, rfl, h2⟩ ad H locs ls ha hn hwf hr hP hD hS hl
  refine va_mmax hx hb (by rw [hml, hl.1]) hown (hts _ hw.1) (hts _ hw.2.1) (hts _ hw.2.2.1) (hts _ hw.2.2.2) hR.1 (by rw [zcats_eq]; show zcats r + 13 ≤ _; omega) hr.1 hr.2 hd ?_
  exact h2 ad H locs ls ha hn ⟨fun v hv => (List.mem_cons.mp hv).elim (fun q => q ▸ trivial) (fun q => hwf.1 v (List.mem_append_right _ q)), hwf.2⟩ hr hP hD hS hl
theorem zco_min {own : String} {k : Nat} (F : zFx p s m args c cc D cA own) (hml : c.maxLocals = nL) (hw : Cond.methodLink own k Lib.Math.min.name ∈ zW ∧ Cond.static Lib.Math.min.name ∈ zW ∧ Cond.initialized "java/lang/Math" ∈ zW ∧ Cond.code Lib.Math.min.name Lib.Math.min.code 2 (some .int) ∈ zW) (hR : 1 ≤ R.frames ∧ 21 ≤ R.locals) : zCO (zG p l e R s m args below meth c nL D cA A H0 ad0 n0 Q) (zGX p l e R s m args below meth c nL D cA A H0 ad0 n0 Q) R cc (.invokestatic k) 2 spMin 0 0 := by
  obtain ⟨hx, hb, hown, hts, hK⟩ := F
  refine ⟨fun av μ K K' h => by rintro ⟨x, y, h1, h2⟩; exact ⟨x, y, h1, h _ _ h2⟩, ?_⟩
  rintro pc ll av r κ μ hd hlen hcat hbd ⟨x, y, rfl, h2⟩ ad H locs ls ha hn hwf hr hP hD hS hl
  refine va_mmin hx hb (by rw [hml, hl.1]) hown (hts _ hw.1) (hts _ hw.2.1) (hts _ hw.2.2.1) (hts _ hw.2.2.2) hR.1 (by rw [zcats_eq]; show zcats r + 13 ≤ _; omega) hr.1 hr.2 hd ?_
  exact h2 ad H locs ls ha hn ⟨fun v hv => (List.mem_cons.mp hv).elim (fun q => q ▸ trivial) (fun q => hwf.1 v (List.mem_append_right _ q)), hwf.2⟩ hr hP hD hS hl
theorem zco_abs {own : String} {k : Nat} (F : zFx p s m args c cc D cA own) (hml : c.maxLocals = nL) (hw : Cond.methodLink own k Lib.Math.abs.name ∈ zW ∧ Cond.static Lib.Math.abs.name ∈ zW ∧ Cond.initialized "java/lang/Math" ∈ zW ∧ Cond.code Lib.Math.abs.name Lib.Math.abs.code 1 (some .int) ∈ zW) (hR : 1 ≤ R.frames ∧ 21 ≤ R.locals) : zCO (zG p l e R s m args below meth c nL D cA A H0 ad0 n0 Q) (zGX p l e R s m args below meth c nL D cA A H0 ad0 n0 Q) R cc (.invokestatic k) 1 spAbs 0 0 := by
  obtain ⟨hx, hb, hown, hts, hK⟩ := F
  refine ⟨fun av μ K K' h => by rintro ⟨x, h1, h2⟩; exact ⟨x, h1, h _ _ h2⟩, ?_⟩
  rintro pc ll av r κ μ hd hlen hcat hbd ⟨x, rfl, h2⟩ ad H locs ls ha hn hwf hr hP hD hS hl
  refine va_mabs hx hb (by rw [hml, hl.1]) hown (hts _ hw.1) (hts _ hw.2.1) (hts _ hw.2.2.1) (hts _ hw.2.2.2) hR.1 (by rw [zcats_eq]; show zcats r + 13 ≤ _; omega) hr.1 hr.2 hd ?_
  exact h2 ad H locs ls ha hn ⟨fun v hv => (List.mem_cons.mp hv).elim (fun q => q ▸ trivial) (fun q => hwf.1 v (List.mem_append_right _ q)), hwf.2⟩ hr hP hD hS hl
theorem zrow_ne {σ : zIn} {r r' : Nat} {f : Nat → Int32} (h : r' ≠ r) : zrow σ r f r' = σ r' := by simp [zrow, h]
theorem zrow_self {σ : zIn} {r : Nat} {f : Nat → Int32} : zrow σ r f r = f := by simp [zrow]
theorem zcell_zrow {cA : Nat → ClassId} {ad : Nat → Nat} {μ : zM} {r : Nat} {f : Nat → Int32} {k : Nat} (h : k ≠ r) : zcell cA ad (μ.1, μ.2.1, μ.2.2.1, zrow μ.2.2.2.1 r f, μ.2.2.2.2) k = zcell cA ad μ k := by
  have hr : zrow μ.2.2.2.1 r f k = μ.2.2.2.1 k := zrow_ne h
  have hf : ∀ (ts : List Nat) (i : Nat), zfs ad (μ.1, μ.2.1, μ.2.2.1, zrow μ.2.2.2.1 r f, μ.2.2.2.2) k ts i = zfs ad μ k ts i := by
    intro ts
    induction ts with
    | nil => intro i; rfl
    | cons t ts ih =>
      intro i
      simp only [zfs, ih]
      refine congrArg (· :: _) ?_
      unfold zfv
      split <;> first | rfl | (dsimp only; rw [hr])
  unfold zcell
  simp only [hf]
  split
  · rfl
  · refine congrArg (fun q => Sum.inl (cA _, q)) ?_
    unfold zar
    split <;> first | rfl | (dsimp only; rw [hr])
/-- System.arraycopy of integers -/
def spCopy : zSp := fun av μ K => ∃ a sp b dp n na nb, av = [.ref a, .int sp, .ref b, .int dp, .int n] ∧ μ.2.1 a = (100, na) ∧ μ.2.1 b = (100, nb) ∧ (¬ sp < 0 ∧ ¬ dp < 0 ∧ ¬ n < 0 ∧ sp.toNatClampNeg + n.toNatClampNeg ≤ na ∧ dp.toNatClampNeg + n.toNatClampNeg ≤ nb) ∧
  K none (μ.1, μ.2.1, μ.2.2.1, zrow μ.2.2.2.1 b (va_cpy (μ.2.2.2.1 a) (μ.2.2.2.1 b) sp.toNatClampNeg dp.toNatClampNeg n.toNatClampNeg), μ.2.2.2.2)
theorem zco_copy {own : String} {k : Nat} (F : zFx p s m args c cc D cA own) (hml : c.maxLocals = nL) (hw : Cond.methodLink own k arraycopyName ∈ zW ∧ Cond.native arraycopyName ∈ zW ∧ Cond.static arraycopyName ∈ zW ∧ Cond.initialized "java/lang/System" ∈ zW) (hR : 1 ≤ R.frames ∧ 8 + (nativeFrameWords "java/lang/System" "arraycopy" 5 + 11) ≤ R.locals) : zCO (zG p l e R s m args below meth c nL D cA A H0 ad0 n0 Q) (zGX p l e R s m args below meth c nL D cA A H0 ad0 n0 Q) R cc (.invokestatic k) 5 spCopy 0 0 := by
  obtain ⟨hx, hb, hown, hts, hK⟩ := F
  refine ⟨fun av μ K K' h => by rintro ⟨a, sp, b, dp, n, na, nb, h1, h2, h3, h4, h5⟩; exact ⟨a, sp, b, dp, n, na, nb, h1, h2, h3, h4, h _ _ h5⟩, ?_⟩
  rintro pc ll av r κ μ hd hlen hcat hbd ⟨a, sp, b, dp, n, na, nb, rfl, h2, h3, ⟨c1, c2, c3, c4, c5⟩, h5⟩
  intro ad H locs ls ha hn hwf hr hP hD hS hl
  have hst : ∀ v ∈ ([.ref a, .int sp, .ref b, .int dp, .int n] : List Value), zwV μ.1 v := fun v hv => hwf.1 v (List.mem_append_left _ (List.mem_reverse.mpr hv))
  have ha1 : a < μ.1 := (hst (.ref a) (by simp) : a < μ.1 ∨ a = zS).resolve_right fun q => by have := ha.2.2.2.1; rw [← q, h2] at this; cases this
  have hb1 : b < μ.1 := (hst (.ref b) (by simp) : b < μ.1 ∨ b = zS).resolve_right fun q => by have := ha.2.2.2.1; rw [← q, h3] at this; cases this
  refine va_copyi hx hb (by rw [hml, hl.1]) hown (hts _ hw.1) (hts _ hw.2.1) (hts _ hw.2.2.1) (hts _ hw.2.2.2) hK hP hD hS a b 0 0 (by rw [zw_get ha1, zcell_arr h2 (by decide)]; rfl) (by rw [zw_get hb1, zcell_arr h3 (by decide)]; rfl) rfl rfl rfl c1 c2 c3 c4 c5 (fun _ _ => rfl) hR.1 (by rw [zcats_eq]; show zcats r + _ ≤ _; omega) hd (fun H1 locs1 p1 d1 s1 => ?_)
  have hset : zw cA ad (μ.1, μ.2.1, μ.2.2.1, zrow μ.2.2.2.1 b (va_cpy (μ.2.2.2.1 a) (μ.2.2.2.1 b) sp.toNatClampNeg dp.toNatClampNeg n.toNatClampNeg), μ.2.2.2.2) = (zw cA ad μ).set b (ad b, .inl (cA 100, nb, .inl (va_cpy (μ.2.2.2.1 a) (μ.2.2.2.1 b) sp.toNatClampNeg dp.toNatClampNeg n.toNatClampNeg))) := by
    refine zw_set rfl hb1 (fun k hk => zcell_zrow hk) ?_
    rw [zcell_arr (μ := (μ.1, μ.2.1, μ.2.2.1, zrow μ.2.2.2.1 b (va_cpy (μ.2.2.2.1 a) (μ.2.2.2.1 b) sp.toNatClampNeg dp.toNatClampNeg n.toNatClampNeg), μ.2.2.2.2)) (n := nb) (k := 100) h3 (by decide)]
    unfold zar
    dsimp only
    rw [zrow_self]
    rfl
  rw [← hset] at p1 d1
  exact h5 ad H1 locs1 ls ha hn ⟨fun v hv => hwf.1 v (List.mem_append_right _ hv), hwf.2⟩ hr p1 d1 s1 hl
/-- Object's constructor -/
def spObj : zSp := fun av μ K => ∃ r, av = [.ref r] ∧ K none μ
theorem zco_obj {own : String} {k : Nat} (F : zFx p s m args c cc D cA own) (hml : c.maxLocals = nL) (hw : Cond.methodLink own k Lib.objectInit ∈ zW ∧ Cond.instanceMethod Lib.objectInit ∈ zW ∧ Cond.code Lib.objectInit ⟨#[0xb1]⟩ 1 none ∈ zW) (hR : 1 ≤ R.frames ∧ 20 ≤ R.locals) : zCO (zG p l e R s m args below meth c nL D cA A H0 ad0 n0 Q) (zGX p l e R s m args below meth c nL D cA A H0 ad0 n0 Q) R cc (.invokespecial k) 1 spObj 0 0 := by
  obtain ⟨hx, hb, hown, hts, hK⟩ := F
  refine ⟨fun av μ K K' h => by rintro ⟨r, h1, h2⟩; exact ⟨r, h1, h _ _ h2⟩, ?_⟩
  rintro pc ll av r κ μ hd hlen hcat hbd ⟨x, rfl, h2⟩ ad H locs ls ha hn hwf hr hP hD hS hl
  refine W.objInit hx hb hown (hts _ hw.1) (hts _ hw.2.1) (hts _ hw.2.2) rfl (by rw [hml]; exact hl.1) rfl hd hR.1 ?_ ?_
  · show 2 * (F0 m pc ls []).monitorRoom + ((r.map (zc ad)).map fun v => v.category).sum + 12 ≤ R.locals
    have := lv_room (m := m) (pc := pc) (ls := ls) (rest := []) (st := r.map (zc ad)) (by rw [zcats_eq]; exact hcat)
    omega
  · exact h2 ad H locs ls ha hn ⟨fun v hv => hwf.1 v (List.mem_append_right _ hv), hwf.2⟩ hr hP hD hS hl
end ZC

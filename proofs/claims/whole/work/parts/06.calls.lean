/-! ===== contracts over the abstract machine, and their use at calls ===== -/
def zrw (μ : zM) : Prop := ∀ r j b, r < μ.1 → μ.2.2.1 r j = some b → b < μ.1
/-- which cells a method may change: its world's, and those that it makes -/
def zAr (cA : Nat → ClassId) (ad : Nat → Nat) (μ : zM) (sz : Nat) : Nat → Prop := va_A (zw cA ad μ) sz
def zPre (D : va_G) (cA : Nat → ClassId) (ad : Nat → Nat) (μ : zM) (av : List Value) (sz : Nat) : State → Prop := fun U =>
  U.heap.size = sz ∧ (∀ v ∈ av, zwV μ.1 v) ∧ zrw μ ∧ va_P D vwCl (zw cA ad μ) U.heap ∧ va_K D vwCl (ztys cA) U ∧ va_D (fun _ => True) (zw cA ad μ) ∧ ∀ w ∈ zNw, va_Nw w U
def zPost (D : va_G) (cA : Nat → ClassId) (ad : Nat → Nat) (μ : zM) (Ret : Option Value → zM → Prop) (sz : Nat) : Array Value → State → Outcome → State → Prop := fun _ st o t =>
  (∃ (r : Option Value) (μ1 : zM) (ad1 : Nat → Nat), o = .returned (r.map (zc ad1)) ∧ Ret r μ1 ∧ μ.1 ≤ μ1.1 ∧ (∀ k, k < μ.1 → ad1 k = ad k) ∧ (∀ v, r = some v → zwV μ1.1 v) ∧ zrw μ1 ∧ va_P D vwCl (zw cA ad1 μ1) t.heap ∧ va_D (zAr cA ad μ sz) (zw cA ad1 μ1)) ∧ va_F (zAr cA ad μ sz) st t
/-- a method's contract: what sp asks ahead of it gives what sp says behind it -/
def zCt (l : Launch) (D : va_G) (cA : Nat → ClassId) (y : MethodName) (b : ByteArray) (n : Nat) (ret : Option FieldType) (rm : Room) (sp : zSp) : Prop :=
  zmono sp ∧ ∀ (ad : Nat → Nat) (μ : zM) (av : List Value) (Ret : Option Value → zM → Prop) (sz : Nat), sp av μ Ret → Met l y (Cond.code y b n ret :: zW) rm (va_Pc (av.map (zc ad)) (zPre D cA ad μ av sz)) (zPost D cA ad μ Ret sz) rm.cells rm.slots (zAr cA ad μ sz)
theorem zwV_mono {n n' : Nat} (h : n ≤ n') {v : Value} (hv : zwV n v) : zwV n' v := by
  cases v <;> first | trivial | exact Nat.lt_of_lt_of_le hv h
theorem zc_same {ad ad1 : Nat → Nat} {n : Nat} (h : ∀ k, k < n → ad1 k = ad k) {v : Value} (hv : zwV n v) : zc ad1 v = zc ad v := by
  cases v <;> first | rfl | exact congrArg Value.ref (h _ hv)
theorem zpre_blind {D : va_G} {cA : Nat → ClassId} {ad : Nat → Nat} {μ : zM} {av : List Value} {sz : Nat} : FrameBlind (va_Pc (av.map (zc ad)) (zPre D cA ad μ av sz)) := by
  intro a U g mk q
  obtain ⟨h1, h2, h3, h4, h5, h6, h7, h8⟩ := q
  exact ⟨h1, h2, h3, h4, h5, va_K.moved (u := U) (U := U.calling g mk a) (Vm.Alike.refl U.vm) h6, h7, fun w hw => va_Nw.same (u := U) (zNw_on w hw) rfl (h8 w hw)⟩
section ZC
variable {p : Program} {l : Launch} {e : Env} {R : Room} {s : State} {m : MethodId} {args : Array Value} {below : List Frame} {meth : Method} {c : Code}
variable {cc : ByteArray} {nL : Nat} {D : va_G} {cA : Nat → ClassId} {A : Nat → Prop} {H0 : Heap} {ad0 : Nat → Nat} {n0 : Nat} {Q : State → Prop}
theorem zpre_at {ad : Nat → Nat} {μ : zM} {av : List Value} {H : Heap} (hav : ∀ v ∈ av, zwV μ.1 v) (hrw : zrw μ) (hP : va_P D vwCl (zw cA ad μ) H) (hK : va_K D vwCl (ztys cA) s) (hD : va_D A (zw cA ad μ)) (hNw : ∀ w ∈ zNw, va_Nw w s) (U : State) (hU : U.heap = H) (hW : s.WarmedH U.vm) :
    va_Pc (av.map (zc ad)) (zPre D cA ad μ av H.size) (av.map (zc ad)).toArray U :=
  ⟨rfl, by rw [hU], hav, hrw, by rw [hU]; exact hP, va_K.moved hW.alike hK, hD.weaken (fun _ _ _ _ => trivial), fun w hw => zNw_warm hW w hw (hNw w hw)⟩
/-- from a run of the callee to a call in the abstract machine -/
theorem zco_gen {I : Jvm.ClassFile.Instr} {n : Nat} {sp : zSp} {mc ms : Nat} (hA : ∀ q, H0.size ≤ q → A q) (hm : zmono sp)
    (hrun : ∀ (ad : Nat → Nat) (H : Heap) (locs : List Loc) (ls : Array Slot) (pc : Nat) (av r : List Value) (κ : Nat × Nat) (μ : zM) (Ret : Option Value → zM → Prop), decode cc pc = .ok (I, 3) → av.length = n → zcats r ≤ 8 → (κ.1 + mc ≤ R.cells ∧ κ.2 + ms ≤ R.slots) → sp av μ Ret → (∀ v ∈ av, zwV μ.1 v) → zrw μ → va_P D vwCl (zw cA ad μ) H → va_D A (zw cA ad μ) → ls.size = nL →
      va_Run p l e R s m args below meth c H locs κ.1 κ.2 mc ms (F0 m pc ls ((av.reverse ++ r).map (zc ad))) (r.map (zc ad)) (zPost D cA ad μ Ret H.size (av.map (zc ad)).toArray) (zAr cA ad μ H.size)) :
    zCO (zG p l e R s m args below meth c nL D cA A H0 ad0 n0 Q) R cc I n sp mc ms := by
  refine ⟨hm, fun pc ll av r κ μ hd hlen hcat hbd hsp ad H locs ls ha hn hwf hr hP hD hS hl => ?_⟩
  have hav : ∀ v ∈ av, zwV μ.1 v := fun v hv => hwf.1 v (List.mem_append_left _ (List.mem_reverse.mpr hv))
  have hrs : ∀ v ∈ r, zwV μ.1 v := fun v hv => hwf.1 v (List.mem_append_right _ hv)
  have hF : ∀ q, zAr cA ad μ H.size q → A q := by
    intro q hq
    rcases hq with ⟨k, e, hk⟩ | hq
    · exact hD.2 k _ hk
    · exact hA q (Nat.le_trans hS.1 hq)
  intro T hT X
  obtain ⟨v, st₀, t, T', L, g0, X', hL, e1, e2, ⟨⟨rv, μ1, ad1, o1, o2, o3, o4, o5, o6, o7, o8⟩, hz, hk⟩, st⟩ := hrun ad H locs ls pc av r κ μ _ hd hlen hcat hbd hsp hav hwf.2.2 hP hD hl.1 T hT X
  cases o1
  rw [g0] at hz hk
  have hstk : (rv.map (zc ad1)).toList ++ r.map (zc ad) = (zpush rv r).map (zc ad1) := by
    have hr1 : r.map (zc ad1) = r.map (zc ad) := List.map_congr_left fun v hv => zc_same o4 (hrs v hv)
    cases rv with
    | none => exact hr1.symm
    | some v => simp only [Option.map_some, Option.toList_some, List.cons_append, List.nil_append, zpush, List.map_cons, hr1]
  rw [hstk] at st
  have hS1 : va_S A H0 T'.heap (locs ++ L) := ⟨Nat.le_trans hS.1 (by rw [e1]; exact hz), fun q h1 h2 => by rw [e1, hk q (Nat.lt_of_lt_of_le h1 hS.1) (fun z => h2 (hF q z))]; exact hS.2.1 q h1 h2, fun q hq => (List.mem_append.mp hq).elim (hS.2.2 q) (fun h => hF _ (hL q h))⟩
  obtain ⟨t2, a1, b1⟩ := o2 ad1 T'.heap (locs ++ L) ls (fun k hk => (o4 k (Nat.lt_of_lt_of_le hk hn)).trans (ha k hk)) (Nat.le_trans hn o3) ⟨fun v hv => by
      cases rv with
      | none => exact zwV_mono o3 (hrs v hv)
      | some w => exact (List.mem_cons.mp hv).elim (fun q => q ▸ o5 w rfl) (fun q => zwV_mono o3 (hrs v q)), fun i v hv => zwV_mono o3 (hwf.2.1 i v hv), o6⟩ hbd (by rw [e1]; exact o7) (o8.weaken (fun _ _ _ h => hF _ h)) hS1 ⟨hl.1, hl.2.1, fun i v hv => by rw [zc_same o4 (hwf.2.1 i v hv)]; exact hl.2.2 i v hv⟩ T' rfl X'
  exact ⟨t2, st t2 a1, b1⟩
/-- the words of a method's own code go with the tables' -/
theorem zgood (y : MethodName) (b : ByteArray) (n : Nat) (ret : Option FieldType) (hc : Cond.code y b n ret ∈ zW) : GoodIn zW (Cond.code y b n ret :: zW) := by
  intro w hw
  have hw1 : w ∈ zW := (List.mem_cons.mp hw).elim (fun q => q ▸ hc) id
  exact ⟨hw1, good_of_word ((List.mem_filter.mp hw1).2)⟩
theorem zco_V {y : MethodName} {b : ByteArray} {n nA k : Nat} {ret : Option FieldType} {rm : Room} {sp : zSp} {own : String} {ci : Nat} (hA : ∀ q, H0.size ≤ q → A q) (F : zFx p s m args c cc D cA own) (hml : c.maxLocals = nL) (hNw : ∀ w ∈ zNw, va_Nw w s) (hct : zCt l D cA y b n ret rm sp)
    (hw : (Cond.methodLink own k y ∈ zW ∧ Cond.instanceMethod y ∈ zW ∧ Cond.selects y.cls y y ∈ zW) ∧ Cond.initialized y.cls ∈ zW ∧ Cond.code y b n ret ∈ zW) (hd : y.cls ≠ "java/lang/invoke/MethodHandle" ∧ y.cls ≠ "java/lang/invoke/VarHandle" ∧ (parseMethodDescriptor y.desc).map (fun d => d.parameters.length) = some nA) (hR : rm.frames + 1 ≤ R.frames ∧ 8 + (n + 11) + rm.locals ≤ R.locals)
    (hci : ci < zNc) (hcl : (zCl ci).1 = y.cls) (hrecv : ∀ av μ K, sp av μ K → ∃ r As, av = .ref r :: As ∧ (μ.2.1 r).1 = ci) : zCO (zG p l e R s m args below meth c nL D cA A H0 ad0 n0 Q) R cc (.invokevirtual k) (nA + 1) sp rm.cells rm.slots := by
  obtain ⟨hx, hb, hown, hts, hK⟩ := F
  refine zco_gen hA hct.1 (fun ad H locs ls pc av r κ μ Ret h1 h2 h3 h4 h5 h6 h7 h8 h9 h10 => ?_)
  obtain ⟨r0, As, rfl, hr0⟩ := hrecv _ _ _ h5
  have hr1 : r0 < μ.1 := h6 (.ref r0) List.mem_cons_self
  have hcb : CallW R s args own y.cls k y b n ret (Cond.code y b n ret :: zW) rm rm.cells rm.slots nA := ⟨callB_of nA hts (zgood y b n ret hw.2.2) rfl rfl rfl (hts _ hw.2.1) (hts _ hw.1.1) hd hR, hts _ hw.1.2.1, hts _ hw.1.2.2⟩
  have hp : PreV s H y.cls (ad r0) (va_Pc ((Value.ref r0 :: As).map (zc ad)) (zPre D cA ad μ (.ref r0 :: As) H.size)) (As.map (zc ad)) := ⟨zpre_blind, by
    rw [← hcl]
    exact va_recv hK h8 (ci := ci) (q0 := r0) (zCl_get hci) (by rw [zw_get hr1, zcell_obj hr0 hci]), zpre_at h6 h7 h8 hK h9 hNw⟩
  have hst : ((Value.ref r0 :: As).reverse ++ r).map (zc ad) = (As.map (zc ad)).reverse ++ .ref (ad r0) :: r.map (zc ad) := by simp [zc]
  rw [hst]
  exact va_runV ⟨hx, hb, hml, hown, hts⟩ (hct.2 ad μ (.ref r0 :: As) Ret H.size h5) hcb hp rfl (by simpa using h2) h10 rfl (lv_room (by rw [zcats_eq]; exact h3)) h1 h4
end ZC

/-! ===== from a run of the abstract machine to a contract ===== -/
def zrep : Nat → zLc
  | 0 => []
  | n + 1 => none :: zrep n
/-- the locals at a method's entry -/
def zent : Nat → List Value → zLc
  | n, [] => zrep n
  | n, v :: vs => match v with
    | .long x => some (.long x) :: none :: zent (n - 2) vs
    | .double x => some (.double x) :: none :: zent (n - 2) vs
    | v => some v :: zent (n - 1) vs
theorem znth_rep : ∀ (n i : Nat), znth (zrep n) i = none
  | 0, _ => rfl
  | _ + 1, 0 => rfl
  | n + 1, i + 1 => znth_rep n i
theorem zent_ok (ad : Nat → Nat) : ∀ (vs : List Value) (n i b : Nat) (v : Value), znth (zent n vs) i = some v → (b + i, zc ad v) ∈ lv_args b (vs.map (zc ad))
  | [], n, i, b, v, h => by rw [zent, znth_rep] at h; cases h
  | u :: vs, n, i, b, v, h => by
    have one : ∀ (n' : Nat), u.category = 1 → znth (some u :: zent n' vs) i = some v → (b + i, zc ad v) ∈ lv_args b ((u :: vs).map (zc ad)) := by
      intro n' hc h
      simp only [List.map_cons, lv_args, zc_cat, hc]
      cases i with
      | zero => cases h; exact List.mem_cons_self
      | succ i =>
        have := zent_ok ad vs n' i (b + 1) v h
        rw [show b + (i + 1) = b + 1 + i by omega]
        exact List.mem_cons_of_mem _ this
    have two : ∀ (n' : Nat), u.category = 2 → znth (some u :: none :: zent n' vs) i = some v → (b + i, zc ad v) ∈ lv_args b ((u :: vs).map (zc ad)) := by
      intro n' hc h
      simp only [List.map_cons, lv_args, zc_cat, hc, if_true]
      match i, h with
      | 0, h => cases h; exact List.mem_cons_self
      | 1, h => cases h
      | i + 2, h =>
        have := zent_ok ad vs n' i (b + 2) v h
        rw [show b + (i + 2) = b + 2 + i by omega]
        exact List.mem_cons_of_mem _ this
    cases u <;> first | exact one _ rfl h | exact two _ rfl h
theorem zent_mem : ∀ (vs : List Value) (n i : Nat) (v : Value), znth (zent n vs) i = some v → v ∈ vs
  | [], n, i, v, h => by rw [zent, znth_rep] at h; cases h
  | u :: vs, n, i, v, h => by
    have one : ∀ (n' : Nat), znth (some u :: zent n' vs) i = some v → v ∈ u :: vs := by
      intro n' h
      cases i with
      | zero => cases h; exact List.mem_cons_self
      | succ i => exact List.mem_cons_of_mem _ (zent_mem vs n' i v h)
    have two : ∀ (n' : Nat), znth (some u :: none :: zent n' vs) i = some v → v ∈ u :: vs := by
      intro n' h
      match i, h with
      | 0, h => cases h; exact List.mem_cons_self
      | 1, h => cases h
      | i + 2, h => exact List.mem_cons_of_mem _ (zent_mem vs n' i v h)
    cases u <;> first | exact one _ h | exact two _ h
/-- the kind of a method's end and the type of its answer -/
def zkr : Nat → Option FieldType → Prop
  | 0, none => True
  | 1, some .int => True
  | 2, some .boolean => True
  | 3, some .long => True
  | 4, some .double => True
  | 5, some (.object _) => True
  | 5, some (.array _) => True
  | _, _ => False
section ZB
variable {p : Program} {l : Launch} {e : Env} {R : Room} {s : State} {m : MethodId} {args : Array Value} {below : List Frame} {meth : Method} {c : Code}
variable {cc : ByteArray} {nL : Nat} {D : va_G} {cA : Nat → ClassId}
/-- a method's end -/
theorem zret_ok {kd : Nat} {ret : Option FieldType} (hkr : zkr kd ret) (hx : p.tables.exec = Jvm.exec) (hb : c.code = cc) (hr : meth.sig.returnType = ret) (hlocks : meth.locks = false) {ad0 : Nat → Nat} {μ0 : zM} {Ret : Option Value → zM → Prop} {mc ms : Nat} (hmc : mc = R.cells) (hms : ms = R.slots) (I : Jvm.ClassFile.Instr) (r : Option Value) (pc : Nat) (ll : zLc) (κ : Nat × Nat) (μ : zM) (hz : zrt kd I r) (hd : decode cc pc = .ok (I, 1)) (hR : Ret r μ) :
    zG p l e R s m args below meth c nL D cA (zAr cA ad0 μ0 s.heap.size) s.heap ad0 μ0.1 (MQ below (zPost R D cA ad0 μ0 Ret s.heap.size) args s mc ms (zAr cA ad0 μ0 s.heap.size)) pc ll (zpush r []) κ μ := by
  intro ad H locs ls ha hn hwf hrm hP hD hS hl
  subst hmc hms
  refine W.widen hrm.1 hrm.2 ?_
  have hq : ∀ t : State, t.heap = H → s.WarmedH t.vm → zPost R D cA ad0 μ0 Ret s.heap.size args s (.returned (r.map (zc ad))) t := fun t ht _ =>
    ⟨⟨r, μ, ad, rfl, ⟨hR, fun b hb => by
      subst hb
      revert hz
      unfold zrt
      split <;> intro hz <;> rename_i e9 <;> first | cases e9 | exact hz⟩, hn, ha.1, ⟨ha.2.1, Nat.le_trans ha.2.2.1 (Nat.add_le_add_left hrm.1 _), ha.2.2.2.1⟩, fun v hv => hwf.1 v (by rw [hv]; exact List.mem_cons_self), hwf.2.2, by rw [ht]; exact hP, hD⟩, hS.F ht⟩
  unfold zrt at hz
  split at hz
  · cases ret with
    | none => exact hkr.elim
    | some t => cases t <;> first | exact hkr.elim | exact W.iret hx hb hr hq hS.2.2 hd hlocks
  · cases ret with
    | none => exact hkr.elim
    | some t => cases t <;> first | exact hkr.elim | exact W.zret hx hb hr hz hq hS.2.2 hd hlocks
  · cases ret with
    | none => exact hkr.elim
    | some t => cases t <;> first | exact hkr.elim | exact W.lret hx hb hr hq hS.2.2 hd hlocks
  · cases ret with
    | none => exact hkr.elim
    | some t => cases t <;> first | exact hkr.elim | exact W.dret hx hb hr hq hS.2.2 hd hlocks
  · cases ret with
    | none => exact hkr.elim
    | some t => cases t <;> first | exact hkr.elim | exact W.aret hx hb hr (Or.inl ⟨_, rfl⟩) (Or.inr ⟨_, rfl⟩) hq hS.2.2 hd hlocks | exact W.aret hx hb hr (Or.inr ⟨_, rfl⟩) (Or.inr ⟨_, rfl⟩) hq hS.2.2 hd hlocks
  · cases ret with
    | some t => cases t <;> exact hkr.elim
    | none => exact W.vret hx hb hr hq hS.2.2 hd hlocks
  · exact hz.elim
theorem zlk_no {α : Type} {L : List (Nat × α)} {k9 : Nat} (h : L.all (fun q => Nat.blt q.1 k9) = true) {n : Nat} (hn : k9 ≤ n) : zlk L n = none := by
  cases hk : zlk L n with
  | none => rfl
  | some x =>
    have := List.all_eq_true.mp h _ (zlk_mem hk)
    have h1 : n < k9 := Nat.le_of_ble_eq_true this
    omega
theorem zoutR_no {C : zC} {Ret : Option Value → zM → Prop} {b : UInt32} {μ : zM} (h : C.2.2.2.2.2.1.all (fun q => Nat.blt q.1 99999) = true) (q : zoutR C Ret b μ) : False := by
  unfold zoutR at q
  rw [zlk_no h (Nat.le_trans (Nat.le_of_ble_eq_true rfl) (Nat.le_add_right 100000 _)), zlk_no h (Nat.le_refl _)] at q
  exact q
/-- memories that are alike at all names that there are -/
def zsame (μ μ1 : zM) : Prop := μ.1 = μ1.1 ∧ (∀ k, k < μ.1 → μ.2.1 k = μ1.2.1 k ∧ μ.2.2.1 k = μ1.2.2.1 k ∧ μ.2.2.2.1 k = μ1.2.2.2.1 k ∧ μ.2.2.2.2 k = μ1.2.2.2.2 k) ∧ (μ1.2.1 zS).1 = 999
theorem zG_same {A : Nat → Prop} {H0 : Heap} {ad0 : Nat → Nat} {n0 : Nat} {Q : State → Prop} {pc : Nat} {ll : zLc} {st : List Value} {κ : Nat × Nat} {μ μ1 : zM} (h : zsame μ μ1) (k : zG p l e R s m args below meth c nL D cA A H0 ad0 n0 Q pc ll st κ μ1) : zG p l e R s m args below meth c nL D cA A H0 ad0 n0 Q pc ll st κ μ := by
  intro ad H locs ls ha hn hwf hr hP hD hS hl
  have hw : zw cA ad μ = zw cA ad μ1 := by
    unfold zw
    rw [← h.1]
    refine List.map_congr_left fun j hj => ?_
    obtain ⟨h1, h2, h3, h4⟩ := h.2.1 j (List.mem_range.mp hj)
    exact congrArg (Prod.mk (ad j)) (zcell_ext h1 h2 h3 h4 (fun _ _ _ => rfl))
  rw [hw] at hP hD
  refine k ad H locs ls ⟨ha.1, ha.2.1, by rw [← h.1]; exact ha.2.2.1, h.2.2, ha.2.2.2.2⟩ (by rw [← h.1]; exact hn) ⟨by rw [← h.1]; exact hwf.1, by rw [← h.1]; exact hwf.2.1, fun r j b hr hb => ?_⟩ hr hP hD hS hl
  rw [← h.1] at hr ⊢
  exact hwf.2.2 r j b hr (by rw [(h.2.1 r hr).2.1]; exact hb)
/-- the contract of a method out of its run: its calls have theirs, its table is right, its run comes to what is promised -/
theorem zct_ofE {X : Bool} {y : MethodName} {b : ByteArray} {n : Nat} {ret : Option FieldType} {rm : Room} {sp : zSp} {C : zC} {ps : List (Nat × Nat)} {cuts : List Nat} (hm : zmono sp) (hy : plainName y.cls = true) (htab : C.1.all (zck y.cls ps b n C) = true) (hini : y.name = "<init>" ∨ C.1.all (zpf C) = true) (hkr : zkr C.2.2.2.2.2.2 ret) (hnt : C.2.2.2.2.2.1.all (fun q => Nat.blt q.1 99999) = true ∧ C.2.2.1.all (fun q => Nat.blt q.1 299999) = true)
    (hn : ∀ av μ K, sp av μ K → ∀ ad, (lg_sl (av.map (zc ad))).length ≤ n)
    (hcalls : ∀ {p : Program} {e : Env} {s : State} {m : MethodId} {args : Array Value} {below : List Frame} {meth : Method} {c : Code} {A : Nat → Prop} {H0 : Heap} {ad0 : Nat → Nat} {n0 : Nat} {Q : State → Prop}, zFx p s m args c b D cA y.cls → c.maxLocals = n → zNOk s → (∀ q, H0.size ≤ q → A q) → zHX X A H0 ad0 s → zCalls (zG p l e rm s m args below meth c n D cA A H0 ad0 n0 Q) (zGX p l e rm s m args below meth c n D cA A H0 ad0 n0 Q) rm b C.2.2.2.2.1)
    (body : ∀ (av : List Value) (μ : zM) (Ret : Option Value → zM → Prop), sp av μ Ret → ∀ Gl : zK, (∀ f pc ll st κ μ, zrun C (rm.cells, rm.slots) cuts Gl Ret (f + 1) pc ll st κ μ → Gl pc ll st κ μ) → (∀ pc ll st κ μ μ1, zsame μ μ1 → Gl pc ll st κ μ1 → Gl pc ll st κ μ) → Gl 0 (zent n av) [] (0, 0) μ) : zCt X l D cA y b n ret rm sp := by
  refine ⟨hm, fun ad μ av Ret sz hsp => ?_⟩
  refine Met.ofW (cc := b) (maxL := n) (ret := ret) hy rfl ?_
  intro p e s m args below meth c s₁ B hml hv
  obtain ⟨rfl, ⟨hz1, hz2, hz3⟩, hsz, hav, hrw, hP, hK, hD0, hNw⟩ := hv
  have hts0 := atoms_spec (ws := Cond.code y b n ret :: zW) B.pre
  have hown : s.vm.findClass y.cls = some m.cls := findClass_of_methodNamed B.named
  have F : zFx p s m (av.map (zc ad)).toArray c b D cA y.cls := ⟨B.exec, B.bytes, hown, fun w hw => hts0 w (List.mem_cons_of_mem _ hw), hK⟩
  subst hsz
  have hA : ∀ q, s.heap.size ≤ q → zAr cA ad μ s.heap.size q := fun q h => Or.inr h
  have hD : va_D (zAr cA ad μ s.heap.size) (zw cA ad μ) := hD0.self
  have hX : zHX X (zAr cA ad μ s.heap.size) s.heap ad s := by
    refine ⟨fun x => ⟨(hz3.1 x).1, (hz3.1 x).2.1, fun k hk => absurd hk (Nat.not_lt_zero k)⟩, fun x hq => ?_, hz3.2⟩
    rcases hq with ⟨k, e9, hk⟩ | hq
    · have hk1 : k < μ.1 := by simpa [zw] using (List.getElem?_eq_some_iff.mp hk).1
      rw [zw_get hk1] at hk
      exact (hz3.1 x).2.2 k hk1 (congrArg Prod.fst (Option.some.inj hk))
    · exact absurd hq (Nat.not_le.mpr (hz3.1 x).2.1)
  have htab' : ∀ q ∈ C.1, zck y.cls ps b n C q = true := fun q hq => List.all_eq_true.mp htab q hq
  have hini' : meth.name = "<init>" ∨ C.1.all (zpf C) = true := hini.imp_left fun h => by
    rw [← h]
    exact (name_of_methodNamed B.named B.method).1
  have key := body av μ Ret hsp (zG p l e rm s m (av.map (zc ad)).toArray below meth c n D cA (zAr cA ad μ s.heap.size) s.heap ad μ.1 (MQ below (zPost rm D cA ad μ Ret s.heap.size) (av.map (zc ad)).toArray s rm.cells rm.slots (zAr cA ad μ s.heap.size)))
    (fun f pc ll st κ μ1 h => zrun_ok (C := C) (R := rm) (cuts := cuts) (Ret := Ret) (fun pc ll st κ μ2 K hz kk => zst_ok F hNw.2.1 htab' hini' hA (hcalls F hml hNw hA hX) (fun I r pc ll κ μ3 hz hd hR => zret_ok hkr B.exec B.bytes B.returns B.notSynchronized rfl rfl I r pc ll κ μ3 hz hd hR) (fun j v h9 => by rw [zlk_no hnt.2 (Nat.le_trans (Nat.le_of_ble_eq_true rfl) (Nat.le_add_right 300000 _))] at h9; cases h9) (fun v h9 => by rw [zlk_no hnt.2 (Nat.le_refl _)] at h9; cases h9) (fun b pc ll r κ μ3 I nx tg _ _ q => (zoutR_no hnt.1 q).elim) (fun k i e9 pc ll κ μ3 h9 => by rw [zlk_no hnt.1 (Nat.le_refl _)] at h9; cases h9) hz kk) (f + 1) pc ll st κ μ1 h)
    (fun pc ll st κ μ1 μ2 h k => zG_same h k)
  rw [lg_entry_eq]
  have hl := lv_entry (av.map (zc ad)) (n := n) (hn av μ Ret hsp ad)
  exact key ad s.heap [] _ ⟨fun _ _ => rfl, rfl, Nat.le_add_right _ _, hz2, hz1⟩ (Nat.le_refl _) ⟨fun v hv => (List.not_mem_nil hv).elim, fun i v hv => hav v (zent_mem av n i v hv), hrw⟩ ⟨Nat.zero_le _, Nat.zero_le _⟩ hP hD va_S.rf ⟨hl.1, hl.2.1, fun i v hv => hl.2.2 _ (by have := zent_ok ad av n i 0 v hv; rwa [Nat.zero_add] at this)⟩
theorem zct_ofX {X : Bool} {y : MethodName} {b : ByteArray} {n : Nat} {ret : Option FieldType} {rm : Room} {sp : zSp} {C : zC} {ps : List (Nat × Nat)} {cuts : List Nat} (hm : zmono sp) (hy : plainName y.cls = true) (htab : C.1.all (zck y.cls ps b n C) = true) (hini : y.name = "<init>" ∨ C.1.all (zpf C) = true) (hkr : zkr C.2.2.2.2.2.2 ret) (hnt : C.2.2.2.2.2.1.all (fun q => Nat.blt q.1 100000) = true ∧ C.2.2.1.all (fun q => Nat.blt q.1 299999) = true) (hlt : l.stackTraces = false) (hRx : 6 ≤ rm.frames ∧ 81 ≤ rm.locals)
    (hn : ∀ av μ K, sp av μ K → ∀ ad, (lg_sl (av.map (zc ad))).length ≤ n)
    (hcalls : ∀ {p : Program} {e : Env} {s : State} {m : MethodId} {args : Array Value} {below : List Frame} {meth : Method} {c : Code} {A : Nat → Prop} {H0 : Heap} {ad0 : Nat → Nat} {n0 : Nat} {Q : State → Prop}, zFx p s m args c b D cA y.cls → c.maxLocals = n → zNOk s → (∀ q, H0.size ≤ q → A q) → zHX X A H0 ad0 s → zCalls (zG p l e rm s m args below meth c n D cA A H0 ad0 n0 Q) (zGX p l e rm s m args below meth c n D cA A H0 ad0 n0 Q) rm b C.2.2.2.2.1)
    (body : ∀ (av : List Value) (μ : zM) (Ret : Option Value → zM → Prop), sp av μ Ret → ∀ Gl : zK, (∀ f pc ll st κ μ, zrun C (rm.cells, rm.slots) cuts Gl Ret (f + 1) pc ll st κ μ → Gl pc ll st κ μ) → (∀ pc ll st κ μ μ1, zsame μ μ1 → Gl pc ll st κ μ1 → Gl pc ll st κ μ) → Gl 0 (zent n av) [] (0, 0) μ) : zCtX X l D cA y b n ret rm sp := by
  refine ⟨hm, fun ad μ av Ret sz hsp => ?_⟩
  refine vx_ofW (cc := b) (maxL := n) (ret := ret) hy rfl ?_
  intro p e s m args below meth c s₁ B hml hno hv
  obtain ⟨rfl, ⟨hz1, hz2, hz3⟩, hsz, hav, hrw, hP, hK, hD0, hNw⟩ := hv
  have hts0 := atoms_spec (ws := Cond.code y b n ret :: zW) B.pre
  have hown : s.vm.findClass y.cls = some m.cls := findClass_of_methodNamed B.named
  have F : zFx p s m (av.map (zc ad)).toArray c b D cA y.cls := ⟨B.exec, B.bytes, hown, fun w hw => hts0 w (List.mem_cons_of_mem _ hw), hK⟩
  subst hsz
  have hA : ∀ q, s.heap.size ≤ q → zAr cA ad μ s.heap.size q := fun q h => Or.inr h
  have hD : va_D (zAr cA ad μ s.heap.size) (zw cA ad μ) := hD0.self
  have hX : zHX X (zAr cA ad μ s.heap.size) s.heap ad s := by
    refine ⟨fun x => ⟨(hz3.1 x).1, (hz3.1 x).2.1, fun k hk => absurd hk (Nat.not_lt_zero k)⟩, fun x hq => ?_, hz3.2⟩
    rcases hq with ⟨k, e9, hk⟩ | hq
    · have hk1 : k < μ.1 := by simpa [zw] using (List.getElem?_eq_some_iff.mp hk).1
      rw [zw_get hk1] at hk
      exact (hz3.1 x).2.2 k hk1 (congrArg Prod.fst (Option.some.inj hk))
    · exact absurd hq (Nat.not_le.mpr (hz3.1 x).2.1)
  have htab' : ∀ q ∈ C.1, zck y.cls ps b n C q = true := fun q hq => List.all_eq_true.mp htab q hq
  have hini' : meth.name = "<init>" ∨ C.1.all (zpf C) = true := hini.imp_left fun h => by
    rw [← h]
    exact (name_of_methodNamed B.named B.method).1
  obtain ⟨Q9, hQ9⟩ : ∃ Q9, Q9 = vx_MQ below (zPost rm D cA ad μ Ret s.heap.size) (zXC rm D cA ad μ Ret s.heap.size) (av.map (zc ad)).toArray s rm.cells rm.slots (zAr cA ad μ s.heap.size) := ⟨_, rfl⟩
  have hF9 : ∀ (H : Heap) (locs : List Loc) (t : State), va_S (zAr cA ad μ s.heap.size) s.heap H locs → H.size ≤ t.heap.size → (∀ q : Nat, q < H.size → t.heap[q]? = H[q]?) → va_F (zAr cA ad μ s.heap.size) s t := fun H locs t hS h1 h2 =>
    ⟨Nat.le_trans hS.1 h1, fun q hq hn => by rw [h2 q (Nat.lt_of_lt_of_le hq hS.1)]; exact hS.2.1 q hq hn⟩
  have hthr : ∀ (b9 : UInt32) (pc : Nat) (ll : zLc) (r : List Value) (κ : Nat × Nat) (μ3 : zM) (I : Jvm.ClassFile.Instr) (nx : Nat) (tg : List Nat), zlk C.1 pc = some (I, nx, tg) → zivk I = true → zoutR C Ret b9 μ3 → zGX p l e rm s m (av.map (zc ad)).toArray below meth c n D cA (zAr cA ad μ s.heap.size) s.heap ad μ.1 Q9 b9.toNat pc ll r κ μ3 := by
    intro b9 pc ll r κ μ3 I nx tg _ _ q ad1 H locs ls ha hn1 hwf hrm hP1 hD1 hS hl q9 ce hce hcv hcl
    have q1 : Ret (some (.float b9)) μ3 := by
      unfold zoutR at q
      rw [zlk_no hnt.1 (Nat.le_add_right 100000 _)] at q
      dsimp only at q
      split at q
      · exact q
      · exact q.elim
    rw [hQ9]
    refine vx_widen hrm.1 hrm.2 (vx_out (fun x hx => (hno x hx).elim) B.notSynchronized hce hcv hcl (fun t ht hAl => ?_) hS.2.2 (Nat.le_refl _) (Nat.le_refl _))
    refine ⟨b9, μ3, ad1, rfl, q1, hn1, ha.1, ⟨ha.2.1, Nat.le_trans ha.2.2.1 (Nat.add_le_add_left hrm.1 _), ha.2.2.2.1⟩, hwf.2.2, by rw [ht]; exact hP1, hD1, hF9 H locs t hS (by rw [ht]; exact Nat.le_refl _) (fun q _ => by rw [ht])⟩
  have hnew : ∀ (k i e9 pc : Nat) (ll : zLc) (κ : Nat × Nat) (μ3 : zM), zlk C.2.2.2.2.2.1 99999 = some i → decode b pc = .ok (.new k, 3) → zxck y.cls b pc k e9 = true → κ.1 + 1 ≤ rm.cells ∧ κ.2 + 6 ≤ rm.slots → Ret (some (.float (UInt32.ofNat e9))) μ3 → zG p l e rm s m (av.map (zc ad)).toArray below meth c n D cA (zAr cA ad μ s.heap.size) s.heap ad μ.1 Q9 pc ll [] κ μ3 := by
    intro k i e9 pc ll κ μ3 _ hd hx9 hbd q1 ad1 H locs ls ha hn1 hwf hrm hP1 hD1 hS hl
    unfold zxck at hx9
    simp only [Bool.and_eq_true, decide_eq_true_eq] at hx9
    obtain ⟨x1, x2, x3, x4, x5, x6⟩ := hx9
    subst x3
    have hE := zEw x1
    have hW9 : ∀ w ∈ Cond.classLink zEo (zEx e9).2.1 (zEx e9).1 :: Cond.initialized (zEx e9).1 :: vx_at0 zEo (zEx e9).2.2 (zEx e9).1 zEn, w.before (av.map (zc ad)).toArray s = true := fun w hw => (hE w hw).1.elim (fun q => F.2.2.2.1 w q) (fun q => va_Nw.use (zXw_on w q) (hNw.2.2.1 w q))
    have hcl9 : m.cls = m.cls := rfl
    rw [hQ9]
    refine vx_throw0 (own := zEo) (cls := (zEx e9).1) (names := zEn) (A := zAr cA ad μ s.heap.size) B.exec B.bytes hlt (by rw [← x2]; exact hown) (zEf x1).1 (zEf x1).2 (hW9 _ List.mem_cons_self) (hW9 _ (List.mem_cons_of_mem _ List.mem_cons_self)) (fun w hw => hW9 w (List.mem_cons_of_mem _ (List.mem_cons_of_mem _ hw))) (fun w hw => (hE w hw).2) hX.2.2.1 hX.2.2.2 hS (hl.1.trans hml.symm) hd x4 x5 x6 (fun x hx => (hno x hx).elim) (by show 2 + 3 < rm.frames; omega) (by show 0 + (13 * (2 + 1) + 42) ≤ rm.locals; omega) hbd.1 hbd.2 B.notSynchronized (fun t hAl h1 h2 => ?_) hS.2.2 hbd.1 hbd.2
    refine ⟨UInt32.ofNat e9, μ3, ad1, by rw [show (UInt32.ofNat e9).toNat = e9 from by simp; omega], q1, hn1, ha.1, ⟨ha.2.1, Nat.le_trans ha.2.2.1 (Nat.add_le_add_left hrm.1 _), ha.2.2.2.1⟩, hwf.2.2, fun k q hq => (hP1 k q hq).kept (h2 q.1 ((hP1 k q hq).lt)), hD1, hF9 H locs t hS h1 h2⟩
  have key := body av μ Ret hsp (zG p l e rm s m (av.map (zc ad)).toArray below meth c n D cA (zAr cA ad μ s.heap.size) s.heap ad μ.1 Q9)
    (fun f pc ll st κ μ1 h => zrun_ok (C := C) (R := rm) (cuts := cuts) (Ret := Ret) (fun pc ll st κ μ2 K hz kk => zst_ok F hNw.2.1 htab' hini' hA (hcalls F hml hNw hA hX) (fun I r pc ll κ μ3 hz hd hR => by
      intro ad1 H locs ls ha hn1 hwf hrm hP1 hD1 hS hl
      rw [hQ9]
      exact vx_ret (zret_ok hkr B.exec B.bytes B.returns B.notSynchronized rfl rfl I r pc ll κ μ3 hz hd hR ad1 H locs ls ha hn1 hwf hrm hP1 hD1 hS hl)) (fun j v h9 => by rw [zlk_no hnt.2 (Nat.le_trans (Nat.le_of_ble_eq_true rfl) (Nat.le_add_right 300000 _))] at h9; cases h9) (fun v h9 => by rw [zlk_no hnt.2 (Nat.le_refl _)] at h9; cases h9) hthr hnew hz kk) (f + 1) pc ll st κ μ1 h)
    (fun pc ll st κ μ1 μ2 h k => zG_same h k)
  rw [lg_entry_eq]
  have hl := lv_entry (av.map (zc ad)) (n := n) (hn av μ Ret hsp ad)
  rw [← hQ9]
  exact key ad s.heap [] _ ⟨fun _ _ => rfl, rfl, Nat.le_add_right _ _, hz2, hz1⟩ (Nat.le_refl _) ⟨fun v hv => (List.not_mem_nil hv).elim, fun i v hv => hav v (zent_mem av n i v hv), hrw⟩ ⟨Nat.zero_le _, Nat.zero_le _⟩ hP hD va_S.rf ⟨hl.1, hl.2.1, fun i v hv => hl.2.2 _ (by have := zent_ok ad av n i 0 v hv; rwa [Nat.zero_add] at this)⟩
/-- the contract of a method out of its run: its calls have theirs, its table is right, its run comes to what is promised -/
theorem zct_of {X : Bool} {y : MethodName} {b : ByteArray} {n : Nat} {ret : Option FieldType} {rm : Room} {sp : zSp} {C : zC} {ps : List (Nat × Nat)} {cuts : List Nat} (hm : zmono sp) (hy : plainName y.cls = true) (htab : C.1.all (zck y.cls ps b n C) = true) (hini : y.name = "<init>" ∨ C.1.all (zpf C) = true) (hkr : zkr C.2.2.2.2.2.2 ret) (hnt : C.2.2.2.2.2.1.all (fun q => Nat.blt q.1 99999) = true ∧ C.2.2.1.all (fun q => Nat.blt q.1 299999) = true)
    (hn : ∀ av μ K, sp av μ K → ∀ ad, (lg_sl (av.map (zc ad))).length ≤ n)
    (hcalls : ∀ {p : Program} {e : Env} {s : State} {m : MethodId} {args : Array Value} {below : List Frame} {meth : Method} {c : Code} {A : Nat → Prop} {H0 : Heap} {ad0 : Nat → Nat} {n0 : Nat} {Q : State → Prop}, zFx p s m args c b D cA y.cls → c.maxLocals = n → zNOk s → (∀ q, H0.size ≤ q → A q) → zHX X A H0 ad0 s → zCalls (zG p l e rm s m args below meth c n D cA A H0 ad0 n0 Q) (zGX p l e rm s m args below meth c n D cA A H0 ad0 n0 Q) rm b C.2.2.2.2.1)
    (body : ∀ (av : List Value) (μ : zM) (Ret : Option Value → zM → Prop), sp av μ Ret → ∀ Gl : zK, (∀ f pc ll st κ μ, zrun C (rm.cells, rm.slots) cuts Gl Ret (f + 1) pc ll st κ μ → Gl pc ll st κ μ) → Gl 0 (zent n av) [] (0, 0) μ) : zCt X l D cA y b n ret rm sp := zct_ofE hm hy htab hini hkr hnt hn hcalls (fun av μ Ret h Gl hG _ => body av μ Ret h Gl hG)
/-- a contract that tells one answer and one memory -/
def zD {X : Type} (A : X → List Value) (M : X → zM) (P : X → Prop) (r : X → Option Value) (M' : X → zM) : zSp := fun av μ K => ∃ x : X, av = A x ∧ μ = M x ∧ P x ∧ K (r x) (M' x)
theorem zD_mono {X : Type} {A : X → List Value} {M : X → zM} {P : X → Prop} {r : X → Option Value} {M' : X → zM} : zmono (zD A M P r M') := by
  rintro av μ K K' h ⟨x, h1, h2, h3, h4⟩
  exact ⟨x, h1, h2, h3, h _ _ h4⟩
theorem zct_D {X : Bool} {y : MethodName} {b : ByteArray} {n : Nat} {ret : Option FieldType} {rm : Room} {Y : Type} {A : Y → List Value} {M : Y → zM} {P : Y → Prop} {r : Y → Option Value} {M' : Y → zM} (C : zC) (ps : List (Nat × Nat)) (cuts : List Nat) (hy : plainName y.cls = true) (htab : C.1.all (zck y.cls ps b n C) = true) (hini : y.name = "<init>" ∨ C.1.all (zpf C) = true) (hkr : zkr C.2.2.2.2.2.2 ret) (hnt : C.2.2.2.2.2.1.all (fun q => Nat.blt q.1 99999) = true ∧ C.2.2.1.all (fun q => Nat.blt q.1 299999) = true)
    (hn : ∀ x ad, (lg_sl ((A x).map (zc ad))).length ≤ n)
    (hcalls : ∀ {p : Program} {e : Env} {s : State} {m : MethodId} {args : Array Value} {below : List Frame} {meth : Method} {c : Code} {A : Nat → Prop} {H0 : Heap} {ad0 : Nat → Nat} {n0 : Nat} {Q : State → Prop}, zFx p s m args c b D cA y.cls → c.maxLocals = n → zNOk s → (∀ q, H0.size ≤ q → A q) → zHX X A H0 ad0 s → zCalls (zG p l e rm s m args below meth c n D cA A H0 ad0 n0 Q) (zGX p l e rm s m args below meth c n D cA A H0 ad0 n0 Q) rm b C.2.2.2.2.1)
    (body : ∀ (x : Y) (Ret : Option Value → zM → Prop), P x → Ret (r x) (M' x) → ∀ Gl : zK, (∀ f pc ll st κ μ, zrun C (rm.cells, rm.slots) cuts Gl Ret (f + 1) pc ll st κ μ → Gl pc ll st κ μ) → Gl 0 (zent n (A x)) [] (0, 0) (M x)) : zCt X l D cA y b n ret rm (zD A M P r M') := by
  refine zct_of (C := C) (ps := ps) (cuts := cuts) zD_mono hy htab hini hkr hnt ?_ hcalls ?_
  · rintro av μ K ⟨x, rfl, -⟩ ad
    exact hn x ad
  · rintro av μ Ret ⟨x, rfl, rfl, h3, h4⟩ Gl hG
    exact body x Ret h3 h4 Gl hG
theorem zct_DE {X : Bool} {y : MethodName} {b : ByteArray} {n : Nat} {ret : Option FieldType} {rm : Room} {Y : Type} {A : Y → List Value} {M : Y → zM} {P : Y → Prop} {r : Y → Option Value} {M' : Y → zM} (C : zC) (ps : List (Nat × Nat)) (cuts : List Nat) (hy : plainName y.cls = true) (htab : C.1.all (zck y.cls ps b n C) = true) (hini : y.name = "<init>" ∨ C.1.all (zpf C) = true) (hkr : zkr C.2.2.2.2.2.2 ret) (hnt : C.2.2.2.2.2.1.all (fun q => Nat.blt q.1 99999) = true ∧ C.2.2.1.all (fun q => Nat.blt q.1 299999) = true)
    (hn : ∀ x ad, (lg_sl ((A x).map (zc ad))).length ≤ n)
    (hcalls : ∀ {p : Program} {e : Env} {s : State} {m : MethodId} {args : Array Value} {below : List Frame} {meth : Method} {c : Code} {A : Nat → Prop} {H0 : Heap} {ad0 : Nat → Nat} {n0 : Nat} {Q : State → Prop}, zFx p s m args c b D cA y.cls → c.maxLocals = n → zNOk s → (∀ q, H0.size ≤ q → A q) → zHX X A H0 ad0 s → zCalls (zG p l e rm s m args below meth c n D cA A H0 ad0 n0 Q) (zGX p l e rm s m args below meth c n D cA A H0 ad0 n0 Q) rm b C.2.2.2.2.1)
    (body : ∀ (x : Y) (Ret : Option Value → zM → Prop), P x → Ret (r x) (M' x) → ∀ Gl : zK, (∀ f pc ll st κ μ, zrun C (rm.cells, rm.slots) cuts Gl Ret (f + 1) pc ll st κ μ → Gl pc ll st κ μ) → (∀ pc ll st κ μ μ1, zsame μ μ1 → Gl pc ll st κ μ1 → Gl pc ll st κ μ) → Gl 0 (zent n (A x)) [] (0, 0) (M x)) : zCt X l D cA y b n ret rm (zD A M P r M') := by
  refine zct_ofE (C := C) (ps := ps) (cuts := cuts) zD_mono hy htab hini hkr hnt ?_ hcalls ?_
  · rintro av μ K ⟨x, rfl, -⟩ ad
    exact hn x ad
  · rintro av μ Ret ⟨x, rfl, rfl, h3, h4⟩ Gl hG hE
    exact body x Ret h3 h4 Gl hG hE
theorem zct_DX {X : Bool} {y : MethodName} {b : ByteArray} {n : Nat} {ret : Option FieldType} {rm : Room} {Y : Type} {A : Y → List Value} {M : Y → zM} {P : Y → Prop} {r : Y → Option Value} {M' : Y → zM} (C : zC) (ps : List (Nat × Nat)) (cuts : List Nat) (hy : plainName y.cls = true) (htab : C.1.all (zck y.cls ps b n C) = true) (hini : y.name = "<init>" ∨ C.1.all (zpf C) = true) (hkr : zkr C.2.2.2.2.2.2 ret) (hnt : C.2.2.2.2.2.1.all (fun q => Nat.blt q.1 100000) = true ∧ C.2.2.1.all (fun q => Nat.blt q.1 299999) = true) (hlt : l.stackTraces = false) (hRx : 6 ≤ rm.frames ∧ 81 ≤ rm.locals)
    (hn : ∀ x ad, (lg_sl ((A x).map (zc ad))).length ≤ n)
    (hcalls : ∀ {p : Program} {e : Env} {s : State} {m : MethodId} {args : Array Value} {below : List Frame} {meth : Method} {c : Code} {A : Nat → Prop} {H0 : Heap} {ad0 : Nat → Nat} {n0 : Nat} {Q : State → Prop}, zFx p s m args c b D cA y.cls → c.maxLocals = n → zNOk s → (∀ q, H0.size ≤ q → A q) → zHX X A H0 ad0 s → zCalls (zG p l e rm s m args below meth c n D cA A H0 ad0 n0 Q) (zGX p l e rm s m args below meth c n D cA A H0 ad0 n0 Q) rm b C.2.2.2.2.1)
    (body : ∀ (x : Y) (Ret : Option Value → zM → Prop), P x → Ret (r x) (M' x) → ∀ Gl : zK, (∀ f pc ll st κ μ, zrun C (rm.cells, rm.slots) cuts Gl Ret (f + 1) pc ll st κ μ → Gl pc ll st κ μ) → Gl 0 (zent n (A x)) [] (0, 0) (M x)) : zCtX X l D cA y b n ret rm (zD A M P r M') := by
  refine zct_ofX (C := C) (ps := ps) (cuts := cuts) zD_mono hy htab hini hkr hnt hlt hRx ?_ hcalls ?_
  · rintro av μ K ⟨x, rfl, -⟩ ad
    exact hn x ad
  · rintro av μ Ret ⟨x, rfl, rfl, h3, h4⟩ Gl hG _
    exact body x Ret h3 h4 Gl hG
end ZB

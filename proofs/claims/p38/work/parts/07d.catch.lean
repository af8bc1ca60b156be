/-! ===== a method that catches what it calls, and answers a number then ===== -/
def zCtW (X : Bool) (l : Launch) (D : va_G) (cA : Nat → ClassId) (y : MethodName) (b : ByteArray) (n : Nat) (ret : Option FieldType) (hh : List (Nat × Nat × Nat × Nat)) (rm : Room) (sp : zSp) : Prop :=
  zmono sp ∧ ∀ (ad : Nat → Nat) (μ : zM) (av : List Value) (Ret : Option Value → zM → Prop) (sz : Nat), sp av μ Ret → Met l y (Cond.codeWith y b n ret hh :: zW) rm (va_Pc (av.map (zc ad)) (zPre X rm D cA ad μ av sz)) (zPost rm D cA ad μ Ret sz) rm.cells rm.slots (zAr cA ad μ sz)
theorem zmet_noX {l : Launch} {y : MethodName} {ws : List Cond} {rm : Room} {Pc : Array Value → State → Prop} {Qc : Array Value → State → Outcome → State → Prop} {mc ms : Nat} {free : Addr → Prop} (h : vx_Met l y ws rm Pc Qc (fun _ _ _ => False) mc ms free) : Met l y ws rm Pc Qc mc ms free := by
  intro p e ha hc hk s m args below hfr happ hp hK
  obtain ⟨n, o, h1, h2, h3, h4⟩ := h p e ha hc hk s m args below hfr happ hp hK
  refine ⟨n, o, h1, h2, h3, ?_⟩
  rcases h4 with h4 | ⟨q, -, E, ce, L, hX, -⟩
  · exact h4
  · exact hX.elim
/-- the end of a handler: k, and back -/
def zhe (cc : ByteArray) (h k : Nat) : Bool := match decode cc h with
  | .ok (.iconst v, 1) => decide (Int32.ofInt v = Int32.ofNat k) && decide (decode cc (h + 1) = .ok (.ireturn, 1))
  | _ => false
/-- a handler: it puts the exception away and answers k -/
def zhd (cc : ByteArray) (nL h k : Nat) : Bool := match decode cc h with
  | .ok (.astore_n j, 1) => decide (j.val < nL) && zhe cc (h + 1) k
  | .ok (.astore j, 2) => decide (j < nL) && zhe cc (h + 2) k
  | _ => false
/-- the first row of the table that takes the exception e at pc has such a handler -/
def zhf (own : String) (cc : ByteArray) (nL pc e k : Nat) : List (Nat × Nat × Nat × Nat) → Bool
  | [] => false
  | (a, b, h, t) :: l => !(Nat.beq t 0) && (match (Nat.ble a pc && Nat.blt pc b) && decide (Cond.classLink own t (zEx e).1 ∈ zW) with
    | true => zhd cc nL h k
    | false => (!(Nat.ble a pc && Nat.blt pc b) || [0, 1, 2].any (fun e' => decide (Cond.classLink own t (zEx e').1 ∈ zW) && decide (((zEx e).1, (zEx e').1) ∈ zXn))) && zhf own cc nL pc e k l)
def zhck (own : String) (hh : List (Nat × Nat × Nat × Nat)) (cc : ByteArray) (nL : Nat) (C : zC) : Bool :=
  C.1.all (fun q => !(zivk q.2.1) || C.2.2.2.2.2.1.all (fun w => Nat.blt w.1 100000 || (Nat.blt w.1 100003 && zhf own cc nL q.1 (w.1 - 100000) w.2 hh)))
theorem zhck_ok {own : String} {hh : List (Nat × Nat × Nat × Nat)} {cc : ByteArray} {nL : Nat} {C : zC} (h : zhck own hh cc nL C = true) {pc nx b k : Nat} {I : Jvm.ClassFile.Instr} {tg : List Nat} (hlk : zlk C.1 pc = some (I, nx, tg)) (hiv : zivk I = true) (hk : zlk C.2.2.2.2.2.1 (100000 + b) = some k) : b < 3 ∧ zhf own cc nL pc b k hh = true := by
  have h1 := List.all_eq_true.mp h _ (zlk_mem hlk)
  dsimp only at h1
  rw [hiv] at h1
  have h2 := List.all_eq_true.mp (show C.2.2.2.2.2.1.all _ = true from h1) _ (zlk_mem hk)
  simp only [Bool.or_eq_true, Bool.and_eq_true] at h2
  rcases h2 with h2 | ⟨h2, h3⟩
  · exact absurd (Nat.le_of_ble_eq_true h2) (by omega)
  · rw [Nat.add_sub_cancel_left] at h3
    exact ⟨by have := Nat.le_of_ble_eq_true h2; omega, h3⟩
theorem zXw_cast {e : Nat} (h : e < 3) : Cond.castable (zEx e).1 (zEx e).1 ∈ zXw := by
  rcases (show e = 0 ∨ e = 1 ∨ e = 2 by omega) with rfl | rfl | rfl <;> decide +kernel
theorem zhf_ok {own : String} {cc : ByteArray} {nL pc e k : Nat} : ∀ (hh : List (Nat × Nat × Nat × Nat)), e < 3 ∧ zhf own cc nL pc e k hh = true →
    ∃ (pre : List ExceptionTableEntry) (x : ExceptionTableEntry) (suf : List ExceptionTableEntry), tableOf hh = pre ++ x :: suf ∧ (∀ z ∈ pre, covers z pc = false ∨ (z.catchType ≠ 0 ∧ ∃ nm : String, Cond.classLink own z.catchType nm ∈ zW ∧ ((zEx e).1, nm) ∈ zXn)) ∧ covers x pc = true ∧ x.catchType ≠ 0 ∧ Cond.classLink own x.catchType (zEx e).1 ∈ zW ∧ Cond.castable (zEx e).1 (zEx e).1 ∈ zXw ∧ zhd cc nL x.handlerPc k = true
  | [], h => by cases h.2
  | (a, b, hd, t) :: l, h => by
    obtain ⟨he, h⟩ := h
    unfold zhf at h
    simp only [Bool.and_eq_true, Bool.not_eq_true'] at h
    obtain ⟨h0, h⟩ := h
    have ht : t ≠ 0 := fun q => by rw [q] at h0; cases h0
    have hcv : covers (⟨a, b, hd, t⟩ : ExceptionTableEntry) pc = (Nat.ble a pc && Nat.blt pc b) := by
      show (decide (a ≤ pc) && decide (pc < b)) = _
      rw [Bool.eq_iff_iff]
      simp only [Bool.and_eq_true, decide_eq_true_eq, Nat.ble_eq, Nat.blt_eq]
    split at h
    · rename_i hc
      simp only [Bool.and_eq_true, decide_eq_true_eq] at hc
      exact ⟨[], ⟨a, b, hd, t⟩, tableOf l, rfl, (fun z hz => nomatch hz), by rw [hcv]; simpa using hc.1, ht, hc.2, zXw_cast he, h⟩
    · simp only [Bool.and_eq_true, Bool.or_eq_true, Bool.not_eq_true'] at h
      obtain ⟨h1, h2⟩ := h
      obtain ⟨pre, x, suf, x1, x2, x3⟩ := zhf_ok l ⟨he, h2⟩
      refine ⟨⟨a, b, hd, t⟩ :: pre, x, suf, by show _ :: tableOf l = _; rw [x1]; rfl, fun z hz => ?_, x3⟩
      rcases List.mem_cons.mp hz with rfl | hz
      · rcases h1 with h1 | h1
        · exact Or.inl (by rw [hcv]; exact h1)
        · obtain ⟨e', -, h3⟩ := List.any_eq_true.mp h1
          simp only [Bool.and_eq_true, decide_eq_true_eq] at h3
          exact Or.inr ⟨ht, _, h3.1, h3.2⟩
      · exact x2 z hz
section ZH
variable {p : Program} {l : Launch} {e : Env} {R : Room} {s : State} {m : MethodId} {args : Array Value} {below : List Frame} {meth : Method} {c : Code} {H : Heap} {locs : List Loc} {cells slots : Nat} {Q : State → Prop}
theorem zhe_ok {cc : ByteArray} {h k : Nat} {ls : Array Slot} (hx : p.tables.exec = Jvm.exec) (hb : c.code = cc) (q : zhe cc h k = true) (kk : ∀ h9, decode cc h9 = .ok (.ireturn, 1) → W p l e R s m args below meth c H locs cells slots Q (F0 m h9 ls [.int (Int32.ofNat k)])) : W p l e R s m args below meth c H locs cells slots Q (F0 m h ls []) := by
  unfold zhe at q
  split at q
  · rename_i v hd
    simp only [Bool.and_eq_true, decide_eq_true_eq] at q
    exact lv_iconst hx hb hd q.1 (kk _ q.2)
  · cases q
theorem zhd_ok {cc : ByteArray} {nL h k : Nat} {ls : Array Slot} {lv : List (Nat × Value)} {q9 : Nat} (hx : p.tables.exec = Jvm.exec) (hb : c.code = cc) (hl : lv_has ls nL lv) (q : zhd cc nL h k = true) (kk : ∀ (h9 : Nat) (ls' : Array Slot), decode cc h9 = .ok (.ireturn, 1) → (ls'.size = nL ∧ lv_wf ls') → W p l e R s m args below meth c H locs cells slots Q (F0 m h9 ls' [.int (Int32.ofNat k)])) : W p l e R s m args below meth c H locs cells slots Q (F0 m h ls [.ref q9]) := by
  unfold zhd at q
  split at q
  · rename_i j hd
    simp only [Bool.and_eq_true, decide_eq_true_eq] at q
    exact lv_astore_n hx hb hd rfl hl q.1 rfl (fun ls' h' => zhe_ok hx hb q.2 (fun h9 hd9 => kk h9 ls' hd9 ⟨h'.1, h'.2.1⟩))
  · rename_i j hd
    simp only [Bool.and_eq_true, decide_eq_true_eq] at q
    exact lv_astore hx hb hd hl q.1 rfl (fun ls' h' => zhe_ok hx hb q.2 (fun h9 hd9 => kk h9 ls' hd9 ⟨h'.1, h'.2.1⟩))
  · cases q
end ZH
section ZH2
variable {p : Program} {l : Launch} {e : Env} {R : Room} {s : State} {m : MethodId} {args : Array Value} {below : List Frame} {meth : Method} {c : Code}
variable {cc : ByteArray} {nL : Nat} {D : va_G} {cA : Nat → ClassId}
theorem zct_ofH {X : Bool} {y : MethodName} {b : ByteArray} {n : Nat} {ret : Option FieldType} {rm : Room} {sp : zSp} {C : zC} {ps : List (Nat × Nat)} {cuts : List Nat} (hm : zmono sp) (hy : plainName y.cls = true) (htab : C.1.all (zck y.cls ps b n C) = true) (hini : y.name = "<init>" ∨ C.1.all (zpf C) = true) (hkr : zkr C.2.2.2.2.2.2 ret) {hh : List (Nat × Nat × Nat × Nat)} (hnt : zlk C.2.2.2.2.2.1 99999 = none ∧ C.2.2.1.all (fun q => Nat.blt q.1 299999) = true) (hck : zhck y.cls hh b n C = true) (hk1 : C.2.2.2.2.2.2 = 1)
    (hn : ∀ av μ K, sp av μ K → ∀ ad, (lg_sl (av.map (zc ad))).length ≤ n)
    (hcalls : ∀ {p : Program} {e : Env} {s : State} {m : MethodId} {args : Array Value} {below : List Frame} {meth : Method} {c : Code} {A : Nat → Prop} {H0 : Heap} {ad0 : Nat → Nat} {n0 : Nat} {Q : State → Prop}, zFx p s m args c b D cA y.cls → c.maxLocals = n → zNOk s → (∀ q, H0.size ≤ q → A q) → zHX X A H0 ad0 s → zCalls (zG p l e rm s m args below meth c n D cA A H0 ad0 n0 Q) (zGX p l e rm s m args below meth c n D cA A H0 ad0 n0 Q) rm b C.2.2.2.2.1)
    (body : ∀ (av : List Value) (μ : zM) (Ret : Option Value → zM → Prop), sp av μ Ret → ∀ Gl : zK, (∀ f pc ll st κ μ, zrun C (rm.cells, rm.slots) cuts Gl Ret (f + 1) pc ll st κ μ → Gl pc ll st κ μ) → (∀ pc ll st κ μ μ1, zsame μ μ1 → Gl pc ll st κ μ1 → Gl pc ll st κ μ) → Gl 0 (zent n av) [] (0, 0) μ) : zCtW X l D cA y b n ret hh rm sp := by
  refine ⟨hm, fun ad μ av Ret sz hsp => ?_⟩
  refine zmet_noX (vx_ofWH (cc := b) (maxL := n) (ret := ret) (XC := fun _ _ _ => False) hy rfl ?_)
  intro p e s m args below meth c s₁ B hml hv
  obtain ⟨rfl, ⟨hz1, hz2, hz3⟩, hsz, hav, hrw, hP, hK, hD0, hNw⟩ := hv
  have hts0 := atoms_spec (ws := Cond.codeWith y b n ret hh :: zW) B.pre
  have hown : s.vm.findClass y.cls = some m.cls := findClass_of_methodNamed B.named
  have F : zFx p s m (av.map (zc ad)).toArray c b D cA y.cls := ⟨B.exec, B.bytes, hown, fun w hw => hts0 w (List.mem_cons_of_mem _ hw), hK⟩
  subst hsz
  have hA : ∀ q, s.heap.size ≤ q → zAr cA ad μ s.heap.size q := fun q h => Or.inr h
  have hD : va_D (zAr cA ad μ s.heap.size) (zw cA ad μ) := hD0.self
  have hX : zHX X (zAr cA ad μ s.heap.size) s.heap ad s := by
    refine ⟨fun x => ⟨(hz3.1 x).1, (hz3.1 x).2.1, fun k hk => absurd hk (Nat.not_lt_zero k)⟩, fun x hq => ?_, hz3.2⟩
    rcases hq with ⟨k, e9, hk⟩ | hq
    · have hk1 : k < μ.1 := by simpa [zw] using (List.getElem?_eq_some_iff.mp hk).1
      rw [zw_get hk1] at hk
      exact (hz3.1 x).2.2 k hk1 (congrArg Prod.fst (Option.some.inj hk))
    · exact absurd hq (Nat.not_le.mpr (hz3.1 x).2.1)
  have htab' : ∀ q ∈ C.1, zck y.cls ps b n C q = true := fun q hq => List.all_eq_true.mp htab q hq
  have hini' : meth.name = "<init>" ∨ C.1.all (zpf C) = true := hini.imp_left fun h => by
    rw [← h]
    exact (name_of_methodNamed B.named B.method).1
  have htb : c.exceptionTable.toList = tableOf hh := vx_table (x := y) B (hts0 _ List.mem_cons_self)
  obtain ⟨Q9, hQ9⟩ : ∃ Q9, Q9 = vx_MQ below (zPost rm D cA ad μ Ret s.heap.size) (fun _ _ _ => False) (av.map (zc ad)).toArray s rm.cells rm.slots (zAr cA ad μ s.heap.size) := ⟨_, rfl⟩
  have hend : ∀ (I : Jvm.ClassFile.Instr) (r : Option Value) (pc : Nat) (ll : zLc) (κ : Nat × Nat) (μ3 : zM), zrt C.2.2.2.2.2.2 I r → decode b pc = .ok (I, 1) → Ret r μ3 → zG p l e rm s m (av.map (zc ad)).toArray below meth c n D cA (zAr cA ad μ s.heap.size) s.heap ad μ.1 Q9 pc ll (zpush r []) κ μ3 := by
    intro I r pc ll κ μ3 hz hd hR ad1 H locs ls ha hn1 hwf hrm hP1 hD1 hS hl
    rw [hQ9]
    exact vx_ret (zret_ok hkr B.exec B.bytes B.returns B.notSynchronized rfl rfl I r pc ll κ μ3 hz hd hR ad1 H locs ls ha hn1 hwf hrm hP1 hD1 hS hl)
  have hthr : ∀ (b9 : UInt32) (pc : Nat) (ll : zLc) (r : List Value) (κ : Nat × Nat) (μ3 : zM) (I : Jvm.ClassFile.Instr) (nx : Nat) (tg : List Nat), zlk C.1 pc = some (I, nx, tg) → zivk I = true → zoutR C Ret b9 μ3 → zGX p l e rm s m (av.map (zc ad)).toArray below meth c n D cA (zAr cA ad μ s.heap.size) s.heap ad μ.1 Q9 b9.toNat pc ll r κ μ3 := by
    intro b9 pc ll r κ μ3 I nx tg hlk hiv q ad1 H locs ls ha hn1 hwf hrm hP1 hD1 hS hl q9 ce hce hcv hcl
    unfold zoutR at q
    split at q
    · rename_i k hk
      obtain ⟨pre, x, suf, x1, x2, x3, x4, x5, x6, x7⟩ := zhf_ok _ (zhck_ok hck hlk hiv hk)
      refine vx_catch hown pre x suf (htb.trans x1) (fun z hz => (x2 z hz).imp_right fun h => ⟨h.1, h.2.choose, F.2.2.2.1 _ h.2.choose_spec.1, hNw.2.2.2 _ h.2.choose_spec.2⟩) x3 x4 (F.2.2.2.1 _ x5) (va_Nw.use (zXw_on _ x6) (hNw.2.2.1 _ x6)) hce hcv hcl ?_
      refine zhd_ok B.exec B.bytes (zlv_has hl) x7 (fun h9 ls' hd9 hls9 => ?_)
      exact hend .ireturn (some (.int (Int32.ofNat k))) h9 [] κ μ3 (by rw [hk1]; trivial) hd9 q ad1 H locs ls' ha hn1 ⟨fun v hv => (List.mem_cons.mp hv).elim (fun z => z ▸ trivial) (fun z => nomatch z), (fun i v hv => by cases hv), hwf.2.2⟩ hrm hP1 hD1 hS ⟨hls9.1, hls9.2, (fun i v hv => by cases hv)⟩
    · rw [hnt.1] at q
      exact q.elim
  have key := body av μ Ret hsp (zG p l e rm s m (av.map (zc ad)).toArray below meth c n D cA (zAr cA ad μ s.heap.size) s.heap ad μ.1 Q9)
    (fun f pc ll st κ μ1 h => zrun_ok (C := C) (R := rm) (cuts := cuts) (Ret := Ret) (fun pc ll st κ μ2 K hz kk => zst_ok F hNw.2.1 htab' hini' hA (hcalls F hml hNw hA hX) hend (fun j v h9 => by rw [zlk_no hnt.2 (Nat.le_trans (Nat.le_of_ble_eq_true rfl) (Nat.le_add_right 300000 _))] at h9; cases h9) (fun v h9 => by rw [zlk_no hnt.2 (Nat.le_refl _)] at h9; cases h9) hthr (fun k i e9 pc ll κ μ3 h9 => by rw [hnt.1] at h9; cases h9) hz kk) (f + 1) pc ll st κ μ1 h)
    (fun pc ll st κ μ1 μ2 h k => zG_same h k)
  rw [lg_entry_eq]
  have hl := lv_entry (av.map (zc ad)) (n := n) (hn av μ Ret hsp ad)
  rw [← hQ9]
  exact key ad s.heap [] _ ⟨fun _ _ => rfl, rfl, Nat.le_add_right _ _, hz2, hz1⟩ (Nat.le_refl _) ⟨fun v hv => (List.not_mem_nil hv).elim, fun i v hv => hav v (zent_mem av n i v hv), hrw⟩ ⟨Nat.zero_le _, Nat.zero_le _⟩ hP hD va_S.rf ⟨hl.1, hl.2.1, fun i v hv => hl.2.2 _ (by have := zent_ok ad av n i 0 v hv; rwa [Nat.zero_add] at this)⟩
theorem zct_DH {X : Bool} {y : MethodName} {b : ByteArray} {n : Nat} {ret : Option FieldType} {rm : Room} {Y : Type} {A : Y → List Value} {M : Y → zM} {P : Y → Prop} {r : Y → Option Value} {M' : Y → zM} (C : zC) (ps : List (Nat × Nat)) (cuts : List Nat) (hy : plainName y.cls = true) (htab : C.1.all (zck y.cls ps b n C) = true) (hini : y.name = "<init>" ∨ C.1.all (zpf C) = true) (hkr : zkr C.2.2.2.2.2.2 ret) {hh : List (Nat × Nat × Nat × Nat)} (hnt : zlk C.2.2.2.2.2.1 99999 = none ∧ C.2.2.1.all (fun q => Nat.blt q.1 299999) = true) (hck : zhck y.cls hh b n C = true) (hk1 : C.2.2.2.2.2.2 = 1)
    (hn : ∀ x ad, (lg_sl ((A x).map (zc ad))).length ≤ n)
    (hcalls : ∀ {p : Program} {e : Env} {s : State} {m : MethodId} {args : Array Value} {below : List Frame} {meth : Method} {c : Code} {A : Nat → Prop} {H0 : Heap} {ad0 : Nat → Nat} {n0 : Nat} {Q : State → Prop}, zFx p s m args c b D cA y.cls → c.maxLocals = n → zNOk s → (∀ q, H0.size ≤ q → A q) → zHX X A H0 ad0 s → zCalls (zG p l e rm s m args below meth c n D cA A H0 ad0 n0 Q) (zGX p l e rm s m args below meth c n D cA A H0 ad0 n0 Q) rm b C.2.2.2.2.1)
    (body : ∀ (x : Y) (Ret : Option Value → zM → Prop), P x → Ret (r x) (M' x) → ∀ Gl : zK, (∀ f pc ll st κ μ, zrun C (rm.cells, rm.slots) cuts Gl Ret (f + 1) pc ll st κ μ → Gl pc ll st κ μ) → Gl 0 (zent n (A x)) [] (0, 0) (M x)) : zCtW X l D cA y b n ret hh rm (zD A M P r M') := by
  refine zct_ofH (C := C) (ps := ps) (cuts := cuts) zD_mono hy htab hini hkr hnt hck hk1 ?_ hcalls ?_
  · rintro av μ K ⟨x, rfl, -⟩ ad
    exact hn x ad
  · rintro av μ Ret ⟨x, rfl, rfl, h3, h4⟩ Gl hG _
    exact body x Ret h3 h4 Gl hG
end ZH2
section ZH3
variable {p : Program} {l : Launch} {e : Env} {R : Room} {s : State} {m : MethodId} {args : Array Value} {below : List Frame} {meth : Method} {c : Code}
variable {cc : ByteArray} {nL : Nat} {D : va_G} {cA : Nat → ClassId} {A : Nat → Prop} {H0 : Heap} {ad0 : Nat → Nat} {n0 : Nat} {Q : State → Prop}
theorem zco_SW {y : MethodName} {b : ByteArray} {n nA k : Nat} {ret : Option FieldType} {rm : Room} {sp : zSp} {own : String} {X : Bool} (hX : zHX X A H0 ad0 s) (hA : ∀ q, H0.size ≤ q → A q) (F : zFx p s m args c cc D cA own) (hml : c.maxLocals = nL) (hNw : zNOk s) {hh : List (Nat × Nat × Nat × Nat)} (hct : zCtW X l D cA y b n ret hh rm sp)
    (hw' : (Cond.methodLink own k y ∈ zW ∧ Cond.static y ∈ zW) ∧ Cond.initialized y.cls ∈ zW ∧ Cond.codeWith y b n ret hh ∈ zW) (hd : y.cls ≠ "java/lang/invoke/MethodHandle" ∧ y.cls ≠ "java/lang/invoke/VarHandle" ∧ (parseMethodDescriptor y.desc).map (fun d => d.parameters.length) = some nA) (hR : rm.frames + 1 ≤ R.frames ∧ 8 + (n + 11) + rm.locals ≤ R.locals) : zCO (zG p l e R s m args below meth c nL D cA A H0 ad0 n0 Q) (zGX p l e R s m args below meth c nL D cA A H0 ad0 n0 Q) R cc (.invokestatic k) nA sp rm.cells rm.slots := by
  obtain ⟨hx, hb, hown, hts, hK⟩ := F
  refine zco_gen hX hA hct.1 (fun ad H locs ls pc av r κ μ Ret h1 h2 h3 h4 h5 h6 h7 h8 h9 h10 h11 => ?_)
  have hG : GoodIn zW (Cond.codeWith y b n ret hh :: zW) := by
    intro w hw
    have hw1 : w ∈ zW := (List.mem_cons.mp hw).elim (fun q => q ▸ hw'.2.2) id
    exact ⟨hw1, good_of_word ((List.mem_filter.mp hw1).2)⟩
  have hcb : vx_CSW R s args own k y b n ret hh (Cond.codeWith y b n ret hh :: zW) rm rm.cells rm.slots nA := by
    refine ⟨⟨rfl, rfl, hR.1, hR.2, pay_in hts hG, List.mem_cons_self⟩, hts _ hw'.2.2, hts _ hw'.2.1, ⟨hd.1, hd.2.1⟩, fun sig h => ?_, hts _ hw'.1.1, hts _ hw'.1.2⟩
    have h2 := hd.2.2
    rw [h] at h2
    exact (Option.some.inj h2).symm
  rw [List.map_append, List.map_reverse]
  exact vx_runSW ⟨hx, hb, hml, hown, hts⟩ (hct.2 ad μ av Ret H.size h5) hcb ⟨zpre_blind, zpre_at h6 h7 h8 hK h9 hNw h11⟩ rfl (by simpa using h2) h10 rfl (lv_room (by rw [zcats_eq]; exact h3)) h1 h4
end ZH3

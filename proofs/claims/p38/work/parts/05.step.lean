section ZT
variable {p : Program} {l : Launch} {e : Env} {R : Room} {s : State} {m : MethodId} {args : Array Value} {below : List Frame} {meth : Method} {c : Code}
variable {cc : ByteArray} {nL : Nat} {D : va_G} {cA : Nat → ClassId} {A : Nat → Prop} {H0 : Heap} {ad0 : Nat → Nat} {n0 : Nat} {Q : State → Prop}
theorem zpop_ok : ∀ (n : Nat) (st av : List Value) (K : List Value → List Value → Prop), zpop n st av K → ∃ a r, st = a.reverse ++ r ∧ a.length = n ∧ K (a ++ av) r
  | 0, st, av, K, h => ⟨[], st, rfl, rfl, h⟩
  | n + 1, [], av, K, h => False.elim h
  | n + 1, v :: st, av, K, h => by
    obtain ⟨a, r, h1, h2, h3⟩ := zpop_ok n st (v :: av) K h
    refine ⟨a ++ [v], r, by simp [h1], by simp [h2], ?_⟩
    simpa using h3
/-- how many bytes an instruction has; 0: it says so itself -/
def zlen : Jvm.ClassFile.Instr → Nat
  | .bipush _ => 2
  | .sipush _ => 3
  | .ldc _ => 2
  | .ldc_w _ => 3
  | .ldc2_w _ => 3
  | .iload _ => 2
  | .lload _ => 2
  | .aload _ => 2
  | .istore _ => 2
  | .lstore _ => 2
  | .dstore _ => 2
  | .astore _ => 2
  | .iinc _ _ => 3
  | .ifCond _ _ => 3
  | .if_icmp _ _ => 3
  | .goto _ => 3
  | .tableswitch _ _ _ _ => 0
  | .getfield _ => 3
  | .putfield _ => 3
  | .invokevirtual _ => 3
  | .invokestatic _ => 3
  | .invokespecial _ => 3
  | .new _ => 3
  | .newarray _ => 2
  | .anewarray _ => 3
  | .multianewarray _ _ => 4
  | _ => 1
/-- the words of a method's table, decided: (place of a word by pc, place of a class's words) -/
def zwd (i : Nat) (w : Cond) : Bool := decide (lw_tbl[i]? = some w) && goodWord w
theorem zwd_ok {i : Nat} {w : Cond} (h : zwd i w = true) : w ∈ zW := by
  unfold zwd at h
  simp only [Bool.and_eq_true, decide_eq_true_eq] at h
  exact zW_of i h.1 h.2
def zfl (own : String) (pos : Nat) (k ci j t : Nat) : Bool :=
  decide (ci < zNc) && (decide (j < (zCl ci).2.2) && (zwd pos (.fieldLink own k ((zCl ci).2.1 j).1 ((zCl ci).2.1 j).2.1 ((zCl ci).2.1 j).2.2.1) && decide (t = zcode (zTy ci j))))
/-- 'throw new E()' -/
def zxck (own : String) (cc : ByteArray) (pc k e : Nat) : Bool := decide (e < 3) && (decide (own = zEo) && (decide (k = (zEx e).2.1) && (decide (decode cc (pc + 3) = .ok (.dup, 1)) && (decide (decode cc (pc + 4) = .ok (.invokespecial (zEx e).2.2, 3)) && decide (decode cc (pc + 7) = .ok (.athrow, 1))))))
def zck (own : String) (ps : List (Nat × Nat)) (cc : ByteArray) (nL : Nat) (C : zC) (q : Nat × (Jvm.ClassFile.Instr × Nat × List Nat)) : Bool :=
  decide (decode cc q.1 = .ok (q.2.1, q.2.2.1 - q.1)) && (decide (zlen q.2.1 = 0 ∨ q.2.2.1 = q.1 + zlen q.2.1) && match q.2.1 with
  | .iconst n => decide (zlk C.2.2.1 q.1 = some (Int32.ofInt n))
  | .bipush n => decide (zlk C.2.2.1 q.1 = some (Int8.ofInt n).toInt32)
  | .sipush n => decide (zlk C.2.2.1 q.1 = some (Int16.ofInt n).toInt32)
  | .iinc k n => decide (k < nL) && decide (zlk C.2.2.1 q.1 = some (Int32.ofInt n))
  | .lconst n => decide (zlk C.2.2.2.1 q.1 = some (Int64.ofNat (n : Nat)))
  | .ldc k => match zlk C.2.2.1 q.1, zlk ps q.1 with
    | some v, some i => zwd i (.constant own k v)
    | _, _ => false
  | .ldc_w k => match zlk C.2.2.1 q.1, zlk ps q.1 with
    | some v, some i => zwd i (.constant own k v)
    | _, _ => false
  | .ldc2_w k => match zlk ps q.1 with
    | some i => match zlk C.2.2.2.1 q.1 with
      | some v => zwd i (.constantLong own k v)
      | none => match zlk C.2.2.2.2.2.1 q.1 with
        | some b => zwd i (.constantDouble own k (UInt64.ofNat b))
        | none => false
    | none => false
  | .istore_n k => decide (k.val < nL)
  | .istore k => decide (k < nL)
  | .astore_n k => decide (k.val < nL)
  | .astore k => decide (k < nL)
  | .lstore_n k => decide (k.val + 1 < nL)
  | .lstore k => decide (k + 1 < nL)
  | .dstore k => decide (k + 1 < nL)
  | .dconst n => decide (n = 0)
  | .ifCond _ off => match q.2.2.2 with
    | t :: _ => decide ((q.1 : Int) + off = (t : Int))
    | [] => false
  | .if_icmp _ off => match q.2.2.2 with
    | t :: _ => decide ((q.1 : Int) + off = (t : Int))
    | [] => false
  | .goto off => match q.2.2.2 with
    | t :: _ => decide ((q.1 : Int) + off = (t : Int))
    | [] => false
  | .tableswitch d lo hi offs => match q.2.2.2 with
    | t :: ts => decide ((q.1 : Int) + d = (t : Int)) && (decide (offs.toList.map (fun o => (q.1 : Int) + o) = ts.map (fun t : Nat => (t : Int))) && decide (hi - lo + 1 = (ts.length : Int)))
    | [] => false
  | .getfield k => match zlk C.2.1 k, zlk ps q.1 with
    | some (ci, j, t), some i => zfl own i k ci j t
    | _, _ => false
  | .putfield k => match zlk C.2.1 k, zlk ps q.1 with
    | some (ci, j, t), some i => zfl own i k ci j t && (!((zCl ci).2.1 j).2.2.2 || decide (((zCl ci).2.1 j).1 = own))
    | _, _ => false
  | .new k => match zlk C.2.2.2.2.2.1 q.1 with
    | some ci => match Nat.blt ci 1000 with
      | true => match zlk ps q.1 with
        | some i => decide (ci < zNc) && (zwd i (.classLink own k (zCl ci).1) && ((zTY ci).all (fun t => !(Nat.beq t 9)) && match zlk ps (q.1 + 1), zlk ps (q.1 + 2) with
          | some i1, some i2 => zwd i1 (.instantiable (zCl ci).1 (zCl ci).2.2) && zwd i2 (.initialized (zCl ci).1)
          | _, _ => false))
        | none => false
      | false => zxck own cc q.1 k (ci - 1000)
    | none => false
  | .newarray t => match t with
    | .int => true
    | .long => true
    | .boolean => true
    | .double => true
    | _ => false
  | .anewarray k => match zlk ps q.1 with
    | some i => zwd i (.classLink own k (FieldType.array .int).toString)
    | none => false
  | .multianewarray k d => match zlk ps q.1 with
    | some i => zwd i (.classLink own k ("[" ++ (FieldType.array .int).toString)) && decide (d = 2)
    | none => false
  | _ => true)
/-- what a field access stands on -/
theorem zfl_ok {own : String} {pos k ci j t : Nat} (h : zfl own pos k ci j t = true) :
    ci < zNc ∧ j < (zCl ci).2.2 ∧ (Cond.fieldLink own k ((zCl ci).2.1 j).1 ((zCl ci).2.1 j).2.1 ((zCl ci).2.1 j).2.2.1) ∈ zW ∧ (∀ w ∈ u_ws (zCl ci).1 (zCl ci).2.1 (zCl ci).2.2, w ∈ zW) ∧ t = zcode (zTy ci j) := by
  unfold zfl at h
  simp only [Bool.and_eq_true, decide_eq_true_eq] at h
  obtain ⟨h1, h2, h3, h5⟩ := h
  exact ⟨h1, h2, zwd_ok h3, zLy_ok h1, h5⟩
theorem zTY_get {ci j : Nat} (h : j < (zCl ci).2.2) : (zTY ci)[j]? = some (zcode (zTy ci j)) := by
  simp [zTY, h]
theorem zcell_obj {cA : Nat → ClassId} {ad : Nat → Nat} {μ : zM} {r ci : Nat} (h : (μ.2.1 r).1 = ci) (hc : ci < zNc) : zcell cA ad μ r = .inr (ci, zfs ad μ r (zTY ci) 0) := by
  subst h
  unfold zcell
  rw [if_pos (Nat.lt_of_lt_of_le hc (by decide))]
theorem zcell_arr {cA : Nat → ClassId} {ad : Nat → Nat} {μ : zM} {r k n : Nat} (h : μ.2.1 r = (k, n)) (hk : 100 ≤ k) : zcell cA ad μ r = .inl (cA k, zar ad μ r n k) := by
  unfold zcell
  rw [if_neg (by rw [h]; exact Nat.not_lt.mpr hk), h]
/-- no final field is written -/
def zpf (C : zC) (q : Nat × (Jvm.ClassFile.Instr × Nat × List Nat)) : Bool := match q.2.1 with
  | .putfield k => match zlk C.2.1 k with
    | some (ci, j, _) => !((zCl ci).2.1 j).2.2.2
    | none => true
  | _ => true
/-- what stands fast in a method -/
def zFx (p : Program) (s : State) (m : MethodId) (args : Array Value) (c : Code) (cc : ByteArray) (D : va_G) (cA : Nat → ClassId) (own : String) : Prop :=
  p.tables.exec = Jvm.exec ∧ c.code = cc ∧ s.vm.findClass own = some m.cls ∧ (∀ w ∈ zW, w.before args s = true) ∧ va_K D vwCl (ztys cA) s
/-- how a method ends: its kind, the instruction, the answer -/
def zrt : Nat → Jvm.ClassFile.Instr → Option Value → Prop
  | 1, .ireturn, some (.int _) => True
  | 2, .ireturn, some (.int x) => narrow .boolean (.int x) = .int x
  | 3, .lreturn, some (.long _) => True
  | 4, .dreturn, some (.double _) => True
  | 5, .areturn, some (.ref _) => True
  | 0, .return_, none => True
  | _, _, _ => False
def zmono (sp : zSp) : Prop := ∀ (av : List Value) (μ : zM) (K K' : Option Value → zM → Prop), (∀ v μ1, K v μ1 → K' v μ1) → sp av μ K → sp av μ K'
/-- a call of a method that has a contract -/
def zoG (G : zK) (GX : Nat → zK) (pc : Nat) (ll : zLc) (r : List Value) (κ : Nat × Nat) (v : Option Value) (μ1 : zM) : Prop := match v with
  | some (.float b) => GX b.toNat pc ll r κ μ1
  | _ => G (pc + 3) ll (zpush v r) κ μ1
theorem zoG_nf {G : zK} {GX : Nat → zK} {pc : Nat} {ll : zLc} {r : List Value} {κ : Nat × Nat} {v : Option Value} {μ1 : zM} (h : ∀ b, v ≠ some (.float b)) (q : zoG G GX pc ll r κ v μ1) : G (pc + 3) ll (zpush v r) κ μ1 := by
  cases v with
  | none => exact q
  | some w => cases w <;> first | exact q | exact absurd rfl (h _)
theorem zout_ok {C : zC} {Ret : Option Value → zM → Prop} {G : zK} {GX : Nat → zK} {N : Prop} {pc : Nat} {ll : zLc} {r : List Value} {κ : Nat × Nat} {v : Option Value} {μ1 : zM} (q : zout C Ret v μ1 N) (h1 : N → G (pc + 3) ll (zpush v r) κ μ1) (h2 : ∀ b, zoutR C Ret b μ1 → GX b.toNat pc ll r κ μ1) : zoG G GX pc ll r κ v μ1 := by
  cases v with
  | none => exact h1 q
  | some w => cases w <;> first | exact h1 q | exact h2 _ q
def zivk : Jvm.ClassFile.Instr → Bool
  | .invokevirtual _ => true
  | .invokestatic _ => true
  | .invokespecial _ => true
  | _ => false
def zCO (G : zK) (GX : Nat → zK) (R : Room) (cc : ByteArray) (I : Jvm.ClassFile.Instr) (n : Nat) (sp : zSp) (mc ms : Nat) : Prop :=
  zmono sp ∧ ∀ (pc : Nat) (ll : zLc) (av r : List Value) (κ : Nat × Nat) (μ : zM), decode cc pc = .ok (I, 3) → av.length = n → zcats r ≤ 8 → κ.1 + mc ≤ R.cells ∧ κ.2 + ms ≤ R.slots →
    sp av μ (fun v μ1 => zoG G GX pc ll r (κ.1 + mc, κ.2 + ms) v μ1) → G pc ll (av.reverse ++ r) κ μ
def zinv : Nat → Nat → Jvm.ClassFile.Instr
  | 0, k => .invokevirtual k
  | 1, k => .invokestatic k
  | _, k => .invokespecial k
def zCalls (G : zK) (GX : Nat → zK) (R : Room) (cc : ByteArray) : List (Nat × (Nat × Nat × zSp × Nat × Nat)) → Prop
  | [] => True
  | (k, kd, n, sp, mc, ms) :: l => zCO G GX R cc (zinv kd k) (match kd with | 1 => n | _ => n + 1) sp mc ms ∧ zCalls G GX R cc l
theorem zCalls_get {G : zK} {GX : Nat → zK} {R : Room} {cc : ByteArray} : ∀ {l : List (Nat × (Nat × Nat × zSp × Nat × Nat))} {k kd n : Nat} {sp : zSp} {mc ms : Nat}, zCalls G GX R cc l → (k, kd, n, sp, mc, ms) ∈ l → zCO G GX R cc (zinv kd k) (match kd with | 1 => n | _ => n + 1) sp mc ms
  | [], _, _, _, _, _, _, _, h => (List.not_mem_nil h).elim
  | (k', kd', n', sp', mc', ms') :: l, k, kd, n, sp, mc, ms, hc, h => (List.mem_cons.mp h).elim (fun q => by cases q; exact hc.1) (fun q => zCalls_get hc.2 q)
theorem zsw_ok {x : Int} {K : Nat → Prop} : ∀ (ts : List Nat) (lo : Int) (j : Nat), zsw x lo ts K → x = lo + (j : Int) → ∀ {t : Nat}, ts[j]? = some t → K t
  | [], _, _, _, _, _, h => by simp at h
  | t0 :: ts, lo, 0, h, hx, t, ht => by
    simp at ht
    subst ht
    exact h.1 (by simpa using hx)
  | t0 :: ts, lo, j + 1, h, hx, t, ht => zsw_ok ts (lo + 1) j h.2 (by rw [hx]; push_cast; omega) (by simpa using ht)
/-- memories that differ at one name alone -/
theorem zcell_zu {cA : Nat → ClassId} {ad : Nat → Nat} {μ : zM} {r j : Nat} {x : Int32} {k : Nat} (h : k ≠ r) : zcell cA ad (μ.1, μ.2.1, μ.2.2.1, zu μ.2.2.2.1 r j x, μ.2.2.2.2) k = zcell cA ad μ k := by
  have hf : ∀ (ts : List Nat) (i : Nat), zfs ad (μ.1, μ.2.1, μ.2.2.1, zu μ.2.2.2.1 r j x, μ.2.2.2.2) k ts i = zfs ad μ k ts i := by
    intro ts
    induction ts with
    | nil => intro i; rfl
    | cons t ts ih =>
      intro i
      simp only [zfs, ih]
      refine congrArg (· :: _) ?_
      unfold zfv
      split <;> first | rfl | exact congrArg Value.int (congrFun (zu_row h) i)
  unfold zcell
  simp only [hf]
  split
  · rfl
  · refine congrArg (fun q => Sum.inl (cA _, q)) ?_
    unfold zar
    split <;> first | rfl | exact congrArg (fun q => ((μ.2.1 k).2, Sum.inl q)) (zu_row h)
theorem zcell_zuL {cA : Nat → ClassId} {ad : Nat → Nat} {μ : zM} {r j : Nat} {x : Int64} {k : Nat} (h : k ≠ r) : zcell cA ad (μ.1, μ.2.1, μ.2.2.1, μ.2.2.2.1, zuL μ.2.2.2.2 r j x) k = zcell cA ad μ k := by
  have hf : ∀ (ts : List Nat) (i : Nat), zfs ad (μ.1, μ.2.1, μ.2.2.1, μ.2.2.2.1, zuL μ.2.2.2.2 r j x) k ts i = zfs ad μ k ts i := by
    intro ts
    induction ts with
    | nil => intro i; rfl
    | cons t ts ih =>
      intro i
      simp only [zfs, ih]
      refine congrArg (· :: _) ?_
      unfold zfv
      split <;> first | rfl | exact congrArg Value.long (congrFun (zuL_row h) i)
  unfold zcell
  simp only [hf]
  split
  · rfl
  · refine congrArg (fun q => Sum.inl (cA _, q)) ?_
    unfold zar
    split <;> first | rfl | exact congrArg (fun q => ((μ.2.1 k).2, Sum.inr (Sum.inl q))) (zuL_row h)
theorem zcell_zuR {cA : Nat → ClassId} {ad : Nat → Nat} {μ : zM} {r j : Nat} {x : Option Nat} {k : Nat} (h : k ≠ r) : zcell cA ad (μ.1, μ.2.1, zuR μ.2.2.1 r j x, μ.2.2.2.1, μ.2.2.2.2) k = zcell cA ad μ k := by
  have hr : zuR μ.2.2.1 r j x k = μ.2.2.1 k := zuR_row h
  have hf : ∀ (ts : List Nat) (i : Nat), zfs ad (μ.1, μ.2.1, zuR μ.2.2.1 r j x, μ.2.2.2.1, μ.2.2.2.2) k ts i = zfs ad μ k ts i := by
    intro ts
    induction ts with
    | nil => intro i; rfl
    | cons t ts ih =>
      intro i
      simp only [zfs, ih]
      refine congrArg (· :: _) ?_
      unfold zfv
      split <;> first | rfl | (dsimp only; rw [hr])
  unfold zcell
  simp only [hf]
  split
  · rfl
  · refine congrArg (fun q => Sum.inl (cA _, q)) ?_
    unfold zar
    split <;> first | rfl | (dsimp only; rw [hr])
theorem zcell_ext {cA : Nat → ClassId} {ad ad1 : Nat → Nat} {μ μ1 : zM} {k : Nat} (h1 : μ1.2.1 k = μ.2.1 k) (h2 : μ1.2.2.1 k = μ.2.2.1 k) (h3 : μ1.2.2.2.1 k = μ.2.2.2.1 k) (h4 : μ1.2.2.2.2 k = μ.2.2.2.2 k) (h5 : ∀ j b, μ.2.2.1 k j = some b → ad1 b = ad b) : zcell cA ad1 μ1 k = zcell cA ad μ k := by
  have hm : ∀ j, (μ.2.2.1 k j).map ad1 = (μ.2.2.1 k j).map ad := by
    intro j
    cases hj : μ.2.2.1 k j with
    | none => rfl
    | some b => exact congrArg some (h5 j b hj)
  have hf : ∀ (ts : List Nat) (i : Nat), zfs ad1 μ1 k ts i = zfs ad μ k ts i := by
    intro ts
    induction ts with
    | nil => intro i; rfl
    | cons t ts ih =>
      intro i
      simp only [zfs, ih]
      refine congrArg (· :: _) ?_
      unfold zfv
      split
      · rw [h4]
      · rw [h2, hm]
      · rw [h3]
  unfold zcell
  rw [h1]
  simp only [hf]
  split
  · rfl
  · refine congrArg (fun q => Sum.inl (cA _, q)) ?_
    unfold zar
    split
    · rw [h4]
    · rfl
    · rw [h2]
      exact congrArg (fun q => (_, Sum.inr (Sum.inr (Sum.inr (Sum.inr q))))) (funext hm)
    · rw [h3]
theorem zrw_new {μ : zM} {x : Nat × Nat} (h : ∀ r j b, r < μ.1 → μ.2.2.1 r j = some b → b < μ.1 ∨ b = zS) : ∀ r j b, r < (znew μ x).1 → (znew μ x).2.2.1 r j = some b → b < (znew μ x).1 ∨ b = zS := by
  intro r j b hr hb
  show b < μ.1 + 1 ∨ b = zS
  have hr' : r < μ.1 + 1 := hr
  have hb' : (if r = μ.1 then (fun _ => none) else μ.2.2.1 r) j = some b := hb
  by_cases e : r = μ.1
  · rw [if_pos e] at hb'; cases hb'
  · rw [if_neg e] at hb'
    have := h r j b (by omega) hb'
    omega
/-- one that makes a cell -/
theorem zs_alloc {pc pc1 : Nat} {ll : zLc} {st rest : List Value} {κ κ1 : Nat × Nat} {μ : zM} {x : Nat × Nat} {e0 : va_E}
    (k : zG p l e R s m args below meth c nL D cA A H0 ad0 n0 Q pc1 ll (.ref μ.1 :: rest) κ1 (znew μ x)) (hrest : ∀ v ∈ rest, v ∈ st) (hκ : κ1.1 ≤ R.cells ∧ κ1.2 ≤ R.slots) (hκ2 : κ.1 + 1 ≤ κ1.1)
    (he : ∀ ad, zcell cA ad (znew μ x) μ.1 = e0)
    (hW : ∀ (ad : Nat → Nat) (H : Heap) (locs : List Loc) (ls : Array Slot), va_P D vwCl (zw cA ad μ) H → va_D A (zw cA ad μ) → va_S A H0 H locs → (∀ (q : Nat) (H1 : Heap), va_P D vwCl (zw cA ad μ ++ [(q, e0)]) H1 → va_D A (zw cA ad μ ++ [(q, e0)]) → va_S A H0 H1 locs → W p l e R s m args below meth c H1 locs κ1.1 κ1.2 Q (F0 m pc1 ls (.ref q :: rest.map (zc ad)))) → W p l e R s m args below meth c H locs κ.1 κ.2 Q (F0 m pc ls (st.map (zc ad)))) :
    zG p l e R s m args below meth c nL D cA A H0 ad0 n0 Q pc ll st κ μ := by
  intro ad H locs ls ha hn hwf hr hP hD hS hl
  refine hW ad H locs ls hP hD hS (fun q H1 hP1 hD1 hS9 => ?_)
  obtain ⟨ha1, ha2, ha3, ha4, ha5⟩ := ha
  have hS1 : μ.1 ≠ zS := by omega
  have hup : ∀ k, (k < μ.1 ∨ k = zS) → va_up ad μ.1 q k = ad k := fun k hk => if_neg (by omega)
  have hlist : zw cA ad μ ++ [(q, e0)] = zw cA (va_up ad μ.1 q) (znew μ x) := by
    unfold zw
    show _ = (List.range (μ.1 + 1)).map _
    rw [List.range_succ, List.map_append]
    refine congr (congrArg HAppend.hAppend (List.map_congr_left fun k hk => ?_)) ?_
    · have hk := List.mem_range.mp hk
      have hne : k ≠ μ.1 := Nat.ne_of_lt hk
      rw [hup k (Or.inl hk)]
      refine congrArg (Prod.mk (ad k)) (zcell_ext (if_neg hne) (if_neg hne) (if_neg hne) (if_neg hne) (fun j b hb => hup b (hwf.2.2 k j b hk hb))).symm
    · show [(q, e0)] = [(va_up ad μ.1 q μ.1, zcell cA (va_up ad μ.1 q) (znew μ x) μ.1)]
      rw [he, show va_up ad μ.1 q μ.1 = q from if_pos rfl]
  rw [hlist] at hP1 hD1
  have hst : (Value.ref q :: rest.map (zc ad)) = (Value.ref μ.1 :: rest).map (zc (va_up ad μ.1 q)) := by
    simp only [List.map_cons, zc, show va_up ad μ.1 q μ.1 = q from if_pos rfl]
    refine congrArg (_ :: ·) (List.map_congr_left fun v hv => ?_)
    have := hwf.1 v (hrest v hv)
    cases v <;> first | rfl | exact congrArg Value.ref (hup _ this).symm
  rw [hst]
  have hmono : ∀ v, zwV μ.1 v → zwV (μ.1 + 1) v := fun v hv => by cases v <;> first | trivial | exact Or.imp_left Nat.lt_succ_of_lt hv
  refine k (va_up ad μ.1 q) H1 locs ls ⟨fun k hk => (hup k (Or.inl (Nat.lt_of_lt_of_le hk hn))).trans (ha1 k hk), (hup zS (Or.inr rfl)).trans ha2, show μ.1 + 1 ≤ n0 + κ1.1 by omega, by show (if zS = μ.1 then x else μ.2.1 zS).1 = 999; rw [if_neg (Ne.symm hS1)]; exact ha4, ha5⟩ (Nat.le_succ_of_le hn) ⟨fun v hv => (List.mem_cons.mp hv).elim (fun z => z ▸ Or.inl (Nat.lt_succ_self _)) (fun z => hmono v (hwf.1 v (hrest v z))), fun i v hv => hmono v (hwf.2.1 i v hv), zrw_new hwf.2.2⟩ hκ hP1 hD1 hS9 ⟨hl.1, hl.2.1, fun i v hv => ?_⟩
  have h1 := hl.2.2 i v hv
  have h2 := hwf.2.1 i v hv
  cases v <;> first | exact h1 | (rw [show zc (va_up ad μ.1 q) (Value.ref _) = Value.ref (va_up ad μ.1 q _) from rfl, hup _ h2]; exact h1)
theorem zfs_new {ad : Nat → Nat} {μ : zM} {x : Nat × Nat} : ∀ (ts : List Nat) (i j : Nat) (t : Nat), ts[j]? = some t → (zfs ad (znew μ x) μ.1 ts i)[j]? = some (match t with | 1 => .long 0 | 2 => .null | _ => .int 0)
  | [], _, _, _, h => by simp at h
  | t0 :: ts, i, 0, t, h => by
    simp at h
    subst h
    show some (zfv ad (znew μ x) μ.1 i t0) = _
    refine congrArg some ?_
    unfold zfv znew zrow zrowL zrowR
    split <;> simp [va_rf]
  | t0 :: ts, i, j + 1, t, h => by
    show (zfs ad (znew μ x) μ.1 ts (i + 1))[j]? = _
    exact zfs_new ts (i + 1) j t (by simpa using h)
def zac (kd n : Nat) : vp_A := match kd with
  | 101 => (n, .inr (.inl (fun _ => 0)))
  | 103 => (n, .inr (.inr (.inr (.inl (fun _ => 0)))))
  | 104 => (n, .inr (.inr (.inr (.inr (fun _ => none)))))
  | _ => (n, .inl (fun _ => 0))
theorem zcell_new {cA : Nat → ClassId} {ad : Nat → Nat} {μ : zM} {kd n : Nat} (hk : 100 ≤ kd) : zcell cA ad (znew μ (kd, n)) μ.1 = .inl (cA kd, zac kd n) := by
  rw [zcell_arr (μ := znew μ (kd, n)) (k := kd) (n := n) (by simp [znew, zuS]) hk]
  unfold zar zac
  split <;> simp [znew, zrow, zrowL, zrowR]
theorem va_selfAssign {s : State} {c : ClassId} {k : Class} (h : s.vm.classes[c]? = some k) : s.vm.assignable c c = true := by
  show s.vm.assignableAux (255 + 1) c c = true
  rw [Vm.assignableAux, beq_self_eq_true, Bool.true_or]
set_option maxHeartbeats 4000000 in
/-- one instruction that is no call: the machine does what zst says -/
theorem zst_ok {own : String} {ps : List (Nat × Nat)} {C : zC} (F : zFx p s m args c cc D cA own) (hAO : va_AOA .int s) (htab : ∀ q ∈ C.1, zck own ps cc nL C q = true)
    (hini : meth.name = "<init>" ∨ C.1.all (zpf C) = true) (hA : ∀ q, H0.size ≤ q → A q) (hcalls : zCalls (zG p l e R s m args below meth c nL D cA A H0 ad0 n0 Q) (zGX p l e R s m args below meth c nL D cA A H0 ad0 n0 Q) R cc C.2.2.2.2.1) {Ret : Option Value → zM → Prop}
    (hret : ∀ (I : Jvm.ClassFile.Instr) (r : Option Value) (pc : Nat) (ll : zLc) (κ : Nat × Nat) (μ : zM), zrt C.2.2.2.2.2.2 I r → decode cc pc = .ok (I, 1) → Ret r μ → zG p l e R s m args below meth c nL D cA A H0 ad0 n0 Q pc ll (zpush r []) κ μ)
    (hsc : ∀ j v, zlk C.2.2.1 (300000 + j) = some v → ∃ (L : Nat) (xs : Nat → Int32), va_X (ad0 zS) L xs s H0 ∧ ad0 zS < H0.size ∧ ¬ A (ad0 zS) ∧ j < L ∧ xs j = v)
    (hsl : ∀ v, zlk C.2.2.1 299999 = some v → ∃ (L : Nat) (xs : Nat → Int32), va_X (ad0 zS) L xs s H0 ∧ ad0 zS < H0.size ∧ ¬ A (ad0 zS) ∧ Int32.ofNat L = v)
    (hthr : ∀ (b : UInt32) (pc : Nat) (ll : zLc) (r : List Value) (κ : Nat × Nat) (μ : zM) (I : Jvm.ClassFile.Instr) (nx : Nat) (tg : List Nat), zlk C.1 pc = some (I, nx, tg) → zivk I = true → zoutR C Ret b μ → zGX p l e R s m args below meth c nL D cA A H0 ad0 n0 Q b.toNat pc ll r κ μ)
    (hnew : ∀ (k i e9 pc : Nat) (ll : zLc) (κ : Nat × Nat) (μ : zM), zlk C.2.2.2.2.2.1 99999 = some i → decode cc pc = .ok (.new k, 3) → zxck own cc pc k e9 = true → κ.1 + 1 ≤ R.cells ∧ κ.2 + 6 ≤ R.slots → Ret (some (.float (UInt32.ofNat e9))) μ → zG p l e R s m args below meth c nL D cA A H0 ad0 n0 Q pc ll [] κ μ)
    {pc : Nat} {ll : zLc} {st : List Value} {κ : Nat × Nat} {μ : zM} {K : zK} (h : zst C (R.cells, R.slots) pc ll st κ μ K Ret) (kk : ∀ pc ll st κ μ, K pc ll st κ μ → zG p l e R s m args below meth c nL D cA A H0 ad0 n0 Q pc ll st κ μ) : zG p l e R s m args below meth c nL D cA A H0 ad0 n0 Q pc ll st κ μ := by
  obtain ⟨hx, hb, hown, hts, hK⟩ := F
  unfold zst at h
  split at h
  · exact h.elim
  rename_i i nx tg hlk
  have hq := htab _ (zlk_mem hlk)
  unfold zck at hq
  simp only [Bool.and_eq_true, decide_eq_true_eq] at hq
  obtain ⟨hd, hnx, hq⟩ := hq
  cases i
  all_goals try exact h.elim
  all_goals try (replace hnx := hnx.resolve_left (by simp [zlen]); dsimp only [zlen] at hnx; subst hnx; rw [Nat.add_sub_cancel_left] at hd)
  all_goals try dsimp only at hq
  all_goals try dsimp only at h
  case iconst n =>
    simp only [decide_eq_true_eq] at hq
    rw [hq] at h
    refine zs_stack (kk _ _ _ _ _ h) (fun n hw v hv => (List.mem_cons.mp hv).elim (fun q => q ▸ trivial) (hw v)) (fun ad H locs ls k => lv_iconst hx hb hd rfl k)
  case bipush n =>
    simp only [decide_eq_true_eq] at hq
    rw [hq] at h
    refine zs_stack (kk _ _ _ _ _ h) (fun n hw v hv => (List.mem_cons.mp hv).elim (fun q => q ▸ trivial) (hw v)) (fun ad H locs ls k => lv_bipush hx hb hd rfl k)
  case sipush n =>
    simp only [decide_eq_true_eq] at hq
    rw [hq] at h
    refine zs_stack (kk _ _ _ _ _ h) (fun n hw v hv => (List.mem_cons.mp hv).elim (fun q => q ▸ trivial) (hw v)) (fun ad H locs ls k => lv_sipush hx hb hd rfl k)
  case lconst n =>
    simp only [decide_eq_true_eq] at hq
    rw [hq] at h
    refine zs_stack (kk _ _ _ _ _ h) (fun n hw v hv => (List.mem_cons.mp hv).elim (fun q => q ▸ trivial) (hw v)) (fun ad H locs ls k => lv_lconst hx hb hd rfl k)
  case ldc n =>
    split at hq
    · rename_i v i hv hi
      rw [hv] at h
      refine zs_stack (kk _ _ _ _ _ h) (fun n hw v hv => (List.mem_cons.mp hv).elim (fun q => q ▸ trivial) (hw v)) (fun ad H locs ls k => lv_ldc hx hb hown (hts _ (zwd_ok hq)) hd k)
    · cases hq
  case ldc_w n =>
    split at hq
    · rename_i v i hv hi
      rw [hv] at h
      refine zs_stack (kk _ _ _ _ _ h) (fun n hw v hv => (List.mem_cons.mp hv).elim (fun q => q ▸ trivial) (hw v)) (fun ad H locs ls k => lv_ldcw hx hb hown (hts _ (zwd_ok hq)) hd k)
    · cases hq
  case ldc2_w n =>
    split at hq
    · rename_i i hi
      split at hq
      · rename_i v hv
        rw [hv] at h
        exact zs_stack (kk _ _ _ _ _ h) (fun n hw v hv => (List.mem_cons.mp hv).elim (fun q => q ▸ trivial) (hw v)) (fun ad H locs ls k => lv_ldc2 hx hb hown (hts _ (zwd_ok hq)) hd k)
      · rename_i hv
        split at hq
        · rename_i b hb2
          rw [hv] at h
          simp only [hb2] at h
          exact zs_stack (kk _ _ _ _ _ h) (fun n hw v hv => (List.mem_cons.mp hv).elim (fun q => q ▸ trivial) (hw v)) (fun ad H locs ls k => lv_ldc2d hx hb hown (hts _ (zwd_ok hq)) hd k)
        · cases hq
    · cases hq
  case iload_n n =>
    split at h
    · rename_i x hv
      exact zs_load (kk _ _ _ _ _ h) hv (fun ad H locs ls hl k => lv_iload_n hx hb hd rfl hl k)
    · exact h.elim
  case iload n =>
    split at h
    · rename_i x hv
      exact zs_load (kk _ _ _ _ _ h) hv (fun ad H locs ls hl k => lv_iload hx hb hd hl k)
    · exact h.elim
  case lload_n n =>
    split at h
    · rename_i x hv
      exact zs_load (kk _ _ _ _ _ h) hv (fun ad H locs ls hl k => lv_lload_n hx hb hd rfl hl k)
    · exact h.elim
  case lload n =>
    split at h
    · rename_i x hv
      exact zs_load (kk _ _ _ _ _ h) hv (fun ad H locs ls hl k => lv_lload hx hb hd hl k)
    · exact h.elim
  case aload_n n =>
    split at h
    · rename_i x hv
      exact zs_load (kk _ _ _ _ _ h) hv (fun ad H locs ls hl k => lv_aload_n hx hb hd rfl hl k)
    · exact h.elim
  case aload n =>
    split at h
    · rename_i x hv
      exact zs_load (kk _ _ _ _ _ h) hv (fun ad H locs ls hl k => lv_aload hx hb hd hl k)
    · exact h.elim
  case istore_n n =>
    simp only [decide_eq_true_eq] at hq
    split at h
    · obtain ⟨l1, h1, h2⟩ := zsto_ok h
      exact zs_store (kk _ _ _ _ _ h1) h2 (fun ad H locs ls hl k => lv_istore_n hx hb hd rfl hl hq rfl k)
    · exact h.elim
  case istore n =>
    simp only [decide_eq_true_eq] at hq
    split at h
    · obtain ⟨l1, h1, h2⟩ := zsto_ok h
      exact zs_store (kk _ _ _ _ _ h1) h2 (fun ad H locs ls hl k => lv_istore hx hb hd hl hq rfl k)
    · exact h.elim
  case astore_n n =>
    simp only [decide_eq_true_eq] at hq
    split at h
    · obtain ⟨l1, h1, h2⟩ := zsto_ok h
      exact zs_store (kk _ _ _ _ _ h1) h2 (fun ad H locs ls hl k => lv_astore_n hx hb hd rfl hl hq rfl k)
    · exact h.elim
  case astore n =>
    simp only [decide_eq_true_eq] at hq
    split at h
    · obtain ⟨l1, h1, h2⟩ := zsto_ok h
      exact zs_store (kk _ _ _ _ _ h1) h2 (fun ad H locs ls hl k => lv_astore hx hb hd hl hq rfl k)
    · exact h.elim
  case lstore_n n =>
    simp only [decide_eq_true_eq] at hq
    split at h
    · obtain ⟨l1, h1, h2⟩ := zsto2_ok h
      exact zs_store2 (kk _ _ _ _ _ h1) h2 (fun ad H locs ls hl k => lv_lstore_n hx hb hd rfl hl hq rfl k)
    · exact h.elim
  case lstore n =>
    simp only [decide_eq_true_eq] at hq
    split at h
    · obtain ⟨l1, h1, h2⟩ := zsto2_ok h
      exact zs_store2 (kk _ _ _ _ _ h1) h2 (fun ad H locs ls hl k => lv_lstore hx hb hd hl hq rfl k)
    · exact h.elim
  case dstore n =>
    simp only [decide_eq_true_eq] at hq
    split at h
    · obtain ⟨l1, h1, h2⟩ := zsto2_ok h
      exact zs_store2 (kk _ _ _ _ _ h1) h2 (fun ad H locs ls hl k => lv_dstore hx hb hd hl hq rfl k)
    · exact h.elim
  case dconst n =>
    simp only [decide_eq_true_eq] at hq
    subst hq
    exact zs_stack (kk _ _ _ _ _ h) (fun n hw v hv => (List.mem_cons.mp hv).elim (fun q => q ▸ trivial) (hw v)) (fun ad H locs ls k => lv_dconst0 hx hb hd k)
  case iinc n x0 =>
    simp only [Bool.and_eq_true, decide_eq_true_eq] at hq
    split at h
    · rename_i x hv
      rw [hq.2] at h
      intro ad H locs ls ha hn hwf hr hP hD hS hl
      obtain ⟨j, hj⟩ := List.getElem?_of_mem (zall_mem (ad := ad) hv)
      refine lv_iinc hx hb hd (zlv_has hl) hj rfl hq.1 rfl (fun ls' h' => ?_)
      have hk : zkeeps ll n (.int (x + Int32.ofInt x0)) (zset ll n (some (.int (x + Int32.ofInt x0)))) := by
        intro j w hw
        rcases znth_zset ll n j (.int x) w _ hw with ⟨h1, h2⟩ | ⟨h1, h2⟩
        · cases h2
          exact Or.inl ⟨h1, rfl⟩
        · refine Or.inr ⟨h1, h2, fun e9 => ?_⟩
          subst e9
          have w1 := hl.2.2 _ _ h2
          have w2 := hl.2.2 _ _ hv
          rcases lv_cat w with q | q
          · exact q
          · have := hl.2.1.1 _ _ w1 (by rw [zc_cat]; exact q)
            rw [w2] at this
            cases this
      exact kk _ _ _ _ _ h ad H locs ls' ha hn ⟨hwf.1, zwf_sto (fun j w hw => (hk j w hw).imp_right (fun q => q.2.1)) trivial hwf.2.1, hwf.2.2⟩ hr hP hD hS (zlv_sto hk h')
    · exact h.elim
  case iadd =>
    split at h
    · exact zs_stack (kk _ _ _ _ _ h) (fun n hw v hv => (List.mem_cons.mp hv).elim (fun q => q ▸ trivial) (fun q => hw v (List.mem_cons_of_mem _ (List.mem_cons_of_mem _ q)))) (fun ad H locs ls k => lv_iadd hx hb hd k)
    · exact h.elim
  case isub =>
    split at h
    · exact zs_stack (kk _ _ _ _ _ h) (fun n hw v hv => (List.mem_cons.mp hv).elim (fun q => q ▸ trivial) (fun q => hw v (List.mem_cons_of_mem _ (List.mem_cons_of_mem _ q)))) (fun ad H locs ls k => lv_isub hx hb hd k)
    · exact h.elim
  case imul =>
    split at h
    · exact zs_stack (kk _ _ _ _ _ h) (fun n hw v hv => (List.mem_cons.mp hv).elim (fun q => q ▸ trivial) (fun q => hw v (List.mem_cons_of_mem _ (List.mem_cons_of_mem _ q)))) (fun ad H locs ls k => lv_imul hx hb hd k)
    · exact h.elim
  case iand =>
    split at h
    · exact zs_stack (kk _ _ _ _ _ h) (fun n hw v hv => (List.mem_cons.mp hv).elim (fun q => q ▸ trivial) (fun q => hw v (List.mem_cons_of_mem _ (List.mem_cons_of_mem _ q)))) (fun ad H locs ls k => lv_iand hx hb hd k)
    · exact h.elim
  case ior =>
    split at h
    · exact zs_stack (kk _ _ _ _ _ h) (fun n hw v hv => (List.mem_cons.mp hv).elim (fun q => q ▸ trivial) (fun q => hw v (List.mem_cons_of_mem _ (List.mem_cons_of_mem _ q)))) (fun ad H locs ls k => lv_ior hx hb hd k)
    · exact h.elim
  case ixor =>
    split at h
    · exact zs_stack (kk _ _ _ _ _ h) (fun n hw v hv => (List.mem_cons.mp hv).elim (fun q => q ▸ trivial) (fun q => hw v (List.mem_cons_of_mem _ (List.mem_cons_of_mem _ q)))) (fun ad H locs ls k => lv_ixor hx hb hd k)
    · exact h.elim
  case ishl =>
    split at h
    · exact zs_stack (kk _ _ _ _ _ h) (fun n hw v hv => (List.mem_cons.mp hv).elim (fun q => q ▸ trivial) (fun q => hw v (List.mem_cons_of_mem _ (List.mem_cons_of_mem _ q)))) (fun ad H locs ls k => lv_ishl hx hb hd k)
    · exact h.elim
  case ishr =>
    split at h
    · exact zs_stack (kk _ _ _ _ _ h) (fun n hw v hv => (List.mem_cons.mp hv).elim (fun q => q ▸ trivial) (fun q => hw v (List.mem_cons_of_mem _ (List.mem_cons_of_mem _ q)))) (fun ad H locs ls k => lv_ishr hx hb hd k)
    · exact h.elim
  case ladd =>
    split at h
    · exact zs_stack (kk _ _ _ _ _ h) (fun n hw v hv => (List.mem_cons.mp hv).elim (fun q => q ▸ trivial) (fun q => hw v (List.mem_cons_of_mem _ (List.mem_cons_of_mem _ q)))) (fun ad H locs ls k => lv_ladd hx hb hd k)
    · exact h.elim
  case lsub =>
    split at h
    · exact zs_stack (kk _ _ _ _ _ h) (fun n hw v hv => (List.mem_cons.mp hv).elim (fun q => q ▸ trivial) (fun q => hw v (List.mem_cons_of_mem _ (List.mem_cons_of_mem _ q)))) (fun ad H locs ls k => lv_lsub hx hb hd k)
    · exact h.elim
  case lmul =>
    split at h
    · exact zs_stack (kk _ _ _ _ _ h) (fun n hw v hv => (List.mem_cons.mp hv).elim (fun q => q ▸ trivial) (fun q => hw v (List.mem_cons_of_mem _ (List.mem_cons_of_mem _ q)))) (fun ad H locs ls k => lv_lmul hx hb hd k)
    · exact h.elim
  case land =>
    split at h
    · exact zs_stack (kk _ _ _ _ _ h) (fun n hw v hv => (List.mem_cons.mp hv).elim (fun q => q ▸ trivial) (fun q => hw v (List.mem_cons_of_mem _ (List.mem_cons_of_mem _ q)))) (fun ad H locs ls k => lv_land hx hb hd k)
    · exact h.elim
  case lor =>
    split at h
    · exact zs_stack (kk _ _ _ _ _ h) (fun n hw v hv => (List.mem_cons.mp hv).elim (fun q => q ▸ trivial) (fun q => hw v (List.mem_cons_of_mem _ (List.mem_cons_of_mem _ q)))) (fun ad H locs ls k => lv_lor hx hb hd k)
    · exact h.elim
  case lshl =>
    split at h
    · exact zs_stack (kk _ _ _ _ _ h) (fun n hw v hv => (List.mem_cons.mp hv).elim (fun q => q ▸ trivial) (fun q => hw v (List.mem_cons_of_mem _ (List.mem_cons_of_mem _ q)))) (fun ad H locs ls k => lv_lshl hx hb hd rfl k)
    · exact h.elim
  case lshr =>
    split at h
    · exact zs_stack (kk _ _ _ _ _ h) (fun n hw v hv => (List.mem_cons.mp hv).elim (fun q => q ▸ trivial) (fun q => hw v (List.mem_cons_of_mem _ (List.mem_cons_of_mem _ q)))) (fun ad H locs ls k => lv_lshr hx hb hd rfl k)
    · exact h.elim
  case idiv =>
    split at h
    · exact zs_stack (kk _ _ _ _ _ h.2) (fun n hw v hv => (List.mem_cons.mp hv).elim (fun q => q ▸ trivial) (fun q => hw v (List.mem_cons_of_mem _ (List.mem_cons_of_mem _ q)))) (fun ad H locs ls k => lv_idiv hx hb hd h.1 k)
    · exact h.elim
  case irem =>
    split at h
    · exact zs_stack (kk _ _ _ _ _ h.2) (fun n hw v hv => (List.mem_cons.mp hv).elim (fun q => q ▸ trivial) (fun q => hw v (List.mem_cons_of_mem _ (List.mem_cons_of_mem _ q)))) (fun ad H locs ls k => lv_irem hx hb hd h.1 k)
    · exact h.elim
  case ldiv =>
    split at h
    · exact zs_stack (kk _ _ _ _ _ h.2) (fun n hw v hv => (List.mem_cons.mp hv).elim (fun q => q ▸ trivial) (fun q => hw v (List.mem_cons_of_mem _ (List.mem_cons_of_mem _ q)))) (fun ad H locs ls k => lv_ldiv hx hb hd h.1 k)
    · exact h.elim
  case dmul =>
    split at h
    · exact zs_stack (kk _ _ _ _ _ h.2) (fun n hw v hv => (List.mem_cons.mp hv).elim (fun q => q ▸ trivial) (fun q => hw v (List.mem_cons_of_mem _ (List.mem_cons_of_mem _ q)))) (fun ad H locs ls k => lv_dmul hx hb hd h.1 k)
    · exact h.elim
  case ddiv =>
    split at h
    · exact zs_stack (kk _ _ _ _ _ h.2) (fun n hw v hv => (List.mem_cons.mp hv).elim (fun q => q ▸ trivial) (fun q => hw v (List.mem_cons_of_mem _ (List.mem_cons_of_mem _ q)))) (fun ad H locs ls k => lv_ddiv hx hb hd h.1 k)
    · exact h.elim
  case lcmp =>
    split at h
    · exact zs_stack (kk _ _ _ _ _ h) (fun n hw v hv => (List.mem_cons.mp hv).elim (fun q => q ▸ trivial) (fun q => hw v (List.mem_cons_of_mem _ (List.mem_cons_of_mem _ q)))) (fun ad H locs ls k => W.lcmp hx hb hd k)
    · exact h.elim
  case dcmp op =>
    split at h
    · exact zs_stack (kk _ _ _ _ _ h) (fun n hw v hv => (List.mem_cons.mp hv).elim (fun q => q ▸ trivial) (fun q => hw v (List.mem_cons_of_mem _ (List.mem_cons_of_mem _ q)))) (fun ad H locs ls k => lv_dcmp hx hb hd k)
    · exact h.elim
  case i2l =>
    split at h
    · exact zs_stack (kk _ _ _ _ _ h) (fun n hw v hv => (List.mem_cons.mp hv).elim (fun q => q ▸ trivial) (fun q => hw v (List.mem_cons_of_mem _ q))) (fun ad H locs ls k => lv_i2l hx hb hd rfl k)
    · exact h.elim
  case l2i =>
    split at h
    · exact zs_stack (kk _ _ _ _ _ h) (fun n hw v hv => (List.mem_cons.mp hv).elim (fun q => q ▸ trivial) (fun q => hw v (List.mem_cons_of_mem _ q))) (fun ad H locs ls k => lv_l2i hx hb hd rfl k)
    · exact h.elim
  case i2d =>
    split at h
    · exact zs_stack (kk _ _ _ _ _ h) (fun n hw v hv => (List.mem_cons.mp hv).elim (fun q => q ▸ trivial) (fun q => hw v (List.mem_cons_of_mem _ q))) (fun ad H locs ls k => lv_i2d hx hb hd  k)
    · exact h.elim
  case dup =>
    split at h
    · rename_i v r
      cases v
      all_goals try exact h.elim
      all_goals exact zs_stack (kk _ _ _ _ _ h) (fun n hw v hv => (List.mem_cons.mp hv).elim (fun q => q ▸ hw _ List.mem_cons_self) (hw v)) (fun ad H locs ls k => lv_dup hx hb hd rfl k)
    · exact h.elim
  case pop =>
    split at h
    · rename_i v r
      cases v
      all_goals try exact h.elim
      all_goals exact zs_stack (kk _ _ _ _ _ h) (fun n hw v hv => hw v (List.mem_cons_of_mem _ hv)) (fun ad H locs ls k => lv_pop hx hb hd rfl k)
    · exact h.elim
  case dup_x1 =>
    split at h
    · exact zs_stack (kk _ _ _ _ _ h) (fun n hw v hv => (List.mem_cons.mp hv).elim (fun q => q ▸ trivial) (hw v ∘ fun q => (List.mem_cons.mp q).elim (fun z => z ▸ List.mem_cons_of_mem _ List.mem_cons_self) (fun z => (List.mem_cons.mp z).elim (fun y => y ▸ List.mem_cons_self) (fun y => List.mem_cons_of_mem _ (List.mem_cons_of_mem _ y))))) (fun ad H locs ls k => lv_dup_x1 hx hb hd rfl rfl k)
    · exact h.elim
  case dup2 =>
    split at h
    · refine zs_stack (kk _ _ _ _ _ h) (fun n hw v hv => ?_) (fun ad H locs ls k => lv_dup2_11 hx hb hd rfl rfl k)
      simp only [List.mem_cons] at hv hw
      rcases hv with hv | hv | hv | hv | hv
      · exact hw v (Or.inl hv)
      · exact hw v (Or.inr (Or.inl hv))
      · exact hw v (Or.inl hv)
      · exact hw v (Or.inr (Or.inl hv))
      · exact hw v (Or.inr (Or.inr hv))
    · exact h.elim
  case goto off =>
    split at h
    · simp only [decide_eq_true_eq] at hq
      exact zs_stack (kk _ _ _ _ _ h) (fun n hw => hw) (fun ad H locs ls k => lv_goto hx hb hd hq k)
    · exact h.elim
  case ifCond cd off =>
    split at h
    · simp only [decide_eq_true_eq] at hq
      cases cd
      all_goals (obtain ⟨h1, h2⟩ := h)
      case eq => exact fun ad H locs ls ha hn hwf hr hP hD hS hl => lv_if_eq hx hb hd hq (fun q => kk _ _ _ _ _ (h1 q) ad H locs ls ha hn ⟨fun v hv => hwf.1 v (List.mem_cons_of_mem _ hv), hwf.2⟩ hr hP hD hS hl) (fun q => kk _ _ _ _ _ (h2 q) ad H locs ls ha hn ⟨fun v hv => hwf.1 v (List.mem_cons_of_mem _ hv), hwf.2⟩ hr hP hD hS hl)
      case ne => exact fun ad H locs ls ha hn hwf hr hP hD hS hl => lv_if_ne hx hb hd hq (fun q => kk _ _ _ _ _ (h1 q) ad H locs ls ha hn ⟨fun v hv => hwf.1 v (List.mem_cons_of_mem _ hv), hwf.2⟩ hr hP hD hS hl) (fun q => kk _ _ _ _ _ (h2 q) ad H locs ls ha hn ⟨fun v hv => hwf.1 v (List.mem_cons_of_mem _ hv), hwf.2⟩ hr hP hD hS hl)
      case lt => exact fun ad H locs ls ha hn hwf hr hP hD hS hl => lv_if_lt hx hb hd hq (fun q => kk _ _ _ _ _ (h1 q) ad H locs ls ha hn ⟨fun v hv => hwf.1 v (List.mem_cons_of_mem _ hv), hwf.2⟩ hr hP hD hS hl) (fun q => kk _ _ _ _ _ (h2 q) ad H locs ls ha hn ⟨fun v hv => hwf.1 v (List.mem_cons_of_mem _ hv), hwf.2⟩ hr hP hD hS hl)
      case ge => exact fun ad H locs ls ha hn hwf hr hP hD hS hl => lv_if_ge hx hb hd hq (fun q => kk _ _ _ _ _ (h1 q) ad H locs ls ha hn ⟨fun v hv => hwf.1 v (List.mem_cons_of_mem _ hv), hwf.2⟩ hr hP hD hS hl) (fun q => kk _ _ _ _ _ (h2 q) ad H locs ls ha hn ⟨fun v hv => hwf.1 v (List.mem_cons_of_mem _ hv), hwf.2⟩ hr hP hD hS hl)
      case gt => exact fun ad H locs ls ha hn hwf hr hP hD hS hl => lv_if_gt hx hb hd hq (fun q => kk _ _ _ _ _ (h1 q) ad H locs ls ha hn ⟨fun v hv => hwf.1 v (List.mem_cons_of_mem _ hv), hwf.2⟩ hr hP hD hS hl) (fun q => kk _ _ _ _ _ (h2 q) ad H locs ls ha hn ⟨fun v hv => hwf.1 v (List.mem_cons_of_mem _ hv), hwf.2⟩ hr hP hD hS hl)
      case le => exact fun ad H locs ls ha hn hwf hr hP hD hS hl => lv_if_le hx hb hd hq (fun q => kk _ _ _ _ _ (h1 q) ad H locs ls ha hn ⟨fun v hv => hwf.1 v (List.mem_cons_of_mem _ hv), hwf.2⟩ hr hP hD hS hl) (fun q => kk _ _ _ _ _ (h2 q) ad H locs ls ha hn ⟨fun v hv => hwf.1 v (List.mem_cons_of_mem _ hv), hwf.2⟩ hr hP hD hS hl)
    · exact h.elim
  case if_icmp cd off =>
    split at h
    · simp only [decide_eq_true_eq] at hq
      cases cd
      all_goals (obtain ⟨h1, h2⟩ := h)
      case eq => exact fun ad H locs ls ha hn hwf hr hP hD hS hl => lv_icmp_eq hx hb hd hq (fun q => kk _ _ _ _ _ (h1 q) ad H locs ls ha hn ⟨fun v hv => hwf.1 v (List.mem_cons_of_mem _ (List.mem_cons_of_mem _ hv)), hwf.2⟩ hr hP hD hS hl) (fun q => kk _ _ _ _ _ (h2 q) ad H locs ls ha hn ⟨fun v hv => hwf.1 v (List.mem_cons_of_mem _ (List.mem_cons_of_mem _ hv)), hwf.2⟩ hr hP hD hS hl)
      case ne => exact fun ad H locs ls ha hn hwf hr hP hD hS hl => lv_icmp_ne hx hb hd hq (fun q => kk _ _ _ _ _ (h1 q) ad H locs ls ha hn ⟨fun v hv => hwf.1 v (List.mem_cons_of_mem _ (List.mem_cons_of_mem _ hv)), hwf.2⟩ hr hP hD hS hl) (fun q => kk _ _ _ _ _ (h2 q) ad H locs ls ha hn ⟨fun v hv => hwf.1 v (List.mem_cons_of_mem _ (List.mem_cons_of_mem _ hv)), hwf.2⟩ hr hP hD hS hl)
      case lt => exact fun ad H locs ls ha hn hwf hr hP hD hS hl => lv_icmp_lt hx hb hd hq (fun q => kk _ _ _ _ _ (h1 q) ad H locs ls ha hn ⟨fun v hv => hwf.1 v (List.mem_cons_of_mem _ (List.mem_cons_of_mem _ hv)), hwf.2⟩ hr hP hD hS hl) (fun q => kk _ _ _ _ _ (h2 q) ad H locs ls ha hn ⟨fun v hv => hwf.1 v (List.mem_cons_of_mem _ (List.mem_cons_of_mem _ hv)), hwf.2⟩ hr hP hD hS hl)
      case ge => exact fun ad H locs ls ha hn hwf hr hP hD hS hl => lv_icmp_ge hx hb hd hq (fun q => kk _ _ _ _ _ (h1 q) ad H locs ls ha hn ⟨fun v hv => hwf.1 v (List.mem_cons_of_mem _ (List.mem_cons_of_mem _ hv)), hwf.2⟩ hr hP hD hS hl) (fun q => kk _ _ _ _ _ (h2 q) ad H locs ls ha hn ⟨fun v hv => hwf.1 v (List.mem_cons_of_mem _ (List.mem_cons_of_mem _ hv)), hwf.2⟩ hr hP hD hS hl)
      case gt => exact fun ad H locs ls ha hn hwf hr hP hD hS hl => lv_icmp_gt hx hb hd hq (fun q => kk _ _ _ _ _ (h1 q) ad H locs ls ha hn ⟨fun v hv => hwf.1 v (List.mem_cons_of_mem _ (List.mem_cons_of_mem _ hv)), hwf.2⟩ hr hP hD hS hl) (fun q => kk _ _ _ _ _ (h2 q) ad H locs ls ha hn ⟨fun v hv => hwf.1 v (List.mem_cons_of_mem _ (List.mem_cons_of_mem _ hv)), hwf.2⟩ hr hP hD hS hl)
      case le => exact fun ad H locs ls ha hn hwf hr hP hD hS hl => lv_icmp_le hx hb hd hq (fun q => kk _ _ _ _ _ (h1 q) ad H locs ls ha hn ⟨fun v hv => hwf.1 v (List.mem_cons_of_mem _ (List.mem_cons_of_mem _ hv)), hwf.2⟩ hr hP hD hS hl) (fun q => kk _ _ _ _ _ (h2 q) ad H locs ls ha hn ⟨fun v hv => hwf.1 v (List.mem_cons_of_mem _ (List.mem_cons_of_mem _ hv)), hwf.2⟩ hr hP hD hS hl)
    · exact h.elim
  case new k =>
    split at hq
    rotate_left
    · cases hq
    rename_i ci hci
    rw [hci] at h
    split at hq
    rotate_left
    · rename_i hbl
      dsimp only at h
      rw [hbl] at h
      dsimp only at h
      split at h
      · rename_i i hfl
        exact hnew k i (ci - 1000) pc ll κ μ hfl hd hq h.1 h.2
      · exact h.elim
    rename_i hbl
    dsimp only at h
    rw [hbl] at h
    split at hq
    · rename_i i hi
      simp only [Bool.and_eq_true, decide_eq_true_eq] at hq
      obtain ⟨q1, q2, q3, q4⟩ := hq
      split at q4
      · rename_i i1 i2 hi1 hi2
        simp only [Bool.and_eq_true] at q4
        obtain ⟨⟨h1, h2⟩, h3⟩ := h
        have he : ∀ ad, zcell cA ad (znew μ (ci, 0)) μ.1 = .inr (ci, zfs ad (znew μ (ci, 0)) μ.1 (zTY ci) 0) := fun ad => zcell_obj (by simp [znew, zuS]) q1
        have hfs : ∀ ad ad', zfs ad (znew μ (ci, 0)) μ.1 (zTY ci) 0 = zfs ad' (znew μ (ci, 0)) μ.1 (zTY ci) 0 := by
          intro ad ad'
          refine List.ext_getElem? fun j => ?_
          cases hj : (zTY ci)[j]? with
          | none => rw [List.getElem?_eq_none (by rw [zfs_len]; exact List.getElem?_eq_none_iff.mp hj), List.getElem?_eq_none (by rw [zfs_len]; exact List.getElem?_eq_none_iff.mp hj)]
          | some t => rw [zfs_new _ 0 j t hj, zfs_new _ 0 j t hj]
        refine zs_alloc (e0 := .inr (ci, zfs (fun x => x) (znew μ (ci, 0)) μ.1 (zTY ci) 0)) (kk _ _ _ _ _ h3) (fun v hv => hv) ⟨h1, h2⟩ (Nat.le_refl _) (fun ad => by rw [he ad, hfs ad (fun x => x)]) (fun ad H locs ls hP hD hS k => ?_)
        refine va_new hx hb hts (zLy_ok q1) (zTy ci) (zTy_ok q1) hown (hts _ (zwd_ok q2)) (hts _ (zwd_ok q4.1)) (hts _ (zwd_ok q4.2)) hK hP hD hS hA (zCl_get q1) (fun j hj => ?_) h1 h2 hd (fun q H1 => k q H1)
        have h9 := zTY_get (ci := ci) hj
        unfold vp_V
        rw [List.getD_eq_getElem?_getD, zfs_new _ 0 j _ h9]
        have h8 := List.all_eq_true.mp q3 _ (List.mem_of_getElem? h9)
        cases hty : zTy ci j <;> rw [hty] at h8 <;> first | rfl | (exfalso; revert h8; simp [zcode])
      · cases q4
    · cases hq
  case newarray t =>
    split at h
    · rename_i n r
      obtain ⟨⟨h1, h2, h3, h4⟩, h5⟩ := h
      have hby : ∀ ty : FieldType, componentBytes ty ≤ 8 → n.toNatClampNeg * componentBytes ty ≤ 536870912 := fun ty q => Nat.le_trans (Nat.mul_le_mul h2 q) (by decide)
      cases t
      all_goals try exact h5.elim
      case int =>
        refine zs_alloc (e0 := .inl (cA 100, (n.toNatClampNeg, .inl (fun _ => 0)))) (kk _ _ _ _ _ h5) (fun v hv => List.mem_cons_of_mem _ hv) ⟨h3, h4⟩ (Nat.le_refl _) (fun ad => zcell_new (by decide)) (fun ad H locs ls hP hD hS k => ?_)
        refine va_newa hx hb (atype := .int) (hts _ zWa.1) (ty := .int) rfl hK hP hD hS hA (a0 := (n.toNatClampNeg, .inl (fun _ => 0))) (fun _ => rfl) h1 rfl (hby _ (by decide)) h3 h4 hd (fun q cA' H1 hK1 hP1 hD1 hS1 => ?_)
        have hc : cA' = cA 100 := by
          have e1 := (hK1.2 _ (cA', .int) (List.getElem?_append_right (Nat.le_refl _) |>.trans (by simp))).2
          have e2 := (hK.2 0 (cA 100, .int) rfl).2
          exact Option.some.inj (e1.symm.trans e2)
        rw [hc] at hP1 hD1
        exact k q H1 hP1 hD1 hS1
      case long =>
        refine zs_alloc (e0 := .inl (cA 101, (n.toNatClampNeg, .inr (.inl (fun _ => 0))))) (kk _ _ _ _ _ h5) (fun v hv => List.mem_cons_of_mem _ hv) ⟨h3, h4⟩ (Nat.le_refl _) (fun ad => zcell_new (by decide)) (fun ad H locs ls hP hD hS k => ?_)
        refine va_newa hx hb (atype := .long) (hts _ zWa.2.1) (ty := .long) rfl hK hP hD hS hA (a0 := (n.toNatClampNeg, .inr (.inl (fun _ => 0)))) (fun _ => rfl) h1 rfl (hby _ (by decide)) h3 h4 hd (fun q cA' H1 hK1 hP1 hD1 hS1 => ?_)
        have hc : cA' = cA 101 := by
          have e1 := (hK1.2 _ (cA', .long) (List.getElem?_append_right (Nat.le_refl _) |>.trans (by simp))).2
          have e2 := (hK.2 1 (cA 101, .long) rfl).2
          exact Option.some.inj (e1.symm.trans e2)
        rw [hc] at hP1 hD1
        exact k q H1 hP1 hD1 hS1
      case boolean =>
        refine zs_alloc (e0 := .inl (cA 102, (n.toNatClampNeg, .inl (fun _ => 0)))) (kk _ _ _ _ _ h5) (fun v hv => List.mem_cons_of_mem _ hv) ⟨h3, h4⟩ (Nat.le_refl _) (fun ad => zcell_new (by decide)) (fun ad H locs ls hP hD hS k => ?_)
        refine va_newa hx hb (atype := .boolean) (hts _ zWa.2.2) (ty := .boolean) rfl hK hP hD hS hA (a0 := (n.toNatClampNeg, .inl (fun _ => 0))) (fun _ => rfl) h1 rfl (hby _ (by decide)) h3 h4 hd (fun q cA' H1 hK1 hP1 hD1 hS1 => ?_)
        have hc : cA' = cA 102 := by
          have e1 := (hK1.2 _ (cA', .boolean) (List.getElem?_append_right (Nat.le_refl _) |>.trans (by simp))).2
          have e2 := (hK.2 2 (cA 102, .boolean) rfl).2
          exact Option.some.inj (e1.symm.trans e2)
        rw [hc] at hP1 hD1
        exact k q H1 hP1 hD1 hS1
      case double =>
        refine zs_alloc (e0 := .inl (cA 103, (n.toNatClampNeg, .inr (.inr (.inr (.inl (fun _ => 0))))))) (kk _ _ _ _ _ h5.2) (fun v hv => List.mem_cons_of_mem _ hv) ⟨h3, h4⟩ (Nat.le_refl _) (fun ad => zcell_new (by decide)) (fun ad H locs ls hP hD hS k => ?_)
        refine va_newa hx hb (atype := .double) (hts _ (zWd h5.1)) (ty := .double) rfl hK hP hD hS hA (a0 := (n.toNatClampNeg, .inr (.inr (.inr (.inl (fun _ => 0)))))) (fun _ => rfl) h1 rfl (hby _ (by decide)) h3 h4 hd (fun q cA' H1 hK1 hP1 hD1 hS1 => ?_)
        have hc : cA' = cA 103 := by
          have e1 := (hK1.2 _ (cA', .double) (List.getElem?_append_right (Nat.le_refl _) |>.trans (by simp))).2
          have e2 := (hK.2 4 (cA 103, .double) (by unfold ztys; rw [h5.1]; rfl)).2
          exact Option.some.inj (e1.symm.trans e2)
        rw [hc] at hP1 hD1
        exact k q H1 hP1 hD1 hS1
    · exact h.elim
  case anewarray k =>
    split at hq
    · rename_i i hi
      split at h
      · rename_i n r
        obtain ⟨⟨h1, h2, h3, h4⟩, h5⟩ := h
        refine zs_alloc (e0 := .inl (cA 104, (n.toNatClampNeg, .inr (.inr (.inr (.inr (fun _ => none))))))) (kk _ _ _ _ _ h5) (fun v hv => List.mem_cons_of_mem _ hv) ⟨h3, h4⟩ (Nat.le_refl _) (fun ad => zcell_new (by decide)) (fun ad H locs ls hP hD hS k => ?_)
        refine W.anewA hx hb (t := .int) hown (hts _ (zwd_ok hq)) (va_AOA.use hAO) rfl hd rfl h1 (Nat.le_trans (Nat.mul_le_mul h2 (Nat.le_refl 4)) (by decide)) h3 h4 (fun cA' kA comp f1 f2 f3 f4 => ?_)
        have hc : cA' = cA 104 := Option.some.inj (f1.symm.trans (hK.2 3 (cA 104, .array .int) rfl).2)
        subst hc
        have hH : (H.push ({ cls := cA 104, slots := Array.replicate n.toNatClampNeg .null, vm := .none } : Cell)).size = H.size + 1 := by simp
        have ho : ∀ q, q < H.size → (H.push ({ cls := cA 104, slots := Array.replicate n.toNatClampNeg .null, vm := .none } : Cell))[q]? = H[q]? := fun q hq => by rw [Array.getElem?_push_lt hq, Array.getElem?_eq_getElem hq]
        refine k H.size _ ((hP.kept fun j x hx => ho x.1 ((hP j x hx).lt)).app (fun j x hx => ?_)) (hD.push hP rfl (hA _ hS.1)) ⟨Nat.le_trans hS.1 (by rw [hH]; exact Nat.le_succ _), fun q g1 g2 => (ho q (Nat.lt_of_lt_of_le g1 hS.1)).trans (hS.2.1 q g1 g2), hS.2.2⟩
        have hj : j = 0 := by
          cases j with
          | zero => rfl
          | succ j => simp at hx
        subst hj
        cases hx
        show (H.push _)[H.size]? = some (vp_cell _ _)
        rw [Array.getElem?_push_size]
        rw [vp_cell_q]
        exact congrArg some (arrV_new _ _ _)
      · exact h.elim
    · cases hq
  case multianewarray k d =>
    split at hq
    · rename_i i hi
      simp only [Bool.and_eq_true, decide_eq_true_eq] at hq
      obtain ⟨hq, hdd⟩ := hq
      subst hdd
      split at h
      · rename_i kk2 n r
        obtain ⟨⟨h1, h2, h3, h4, h5, h6⟩, h7⟩ := h
        have key := kk _ _ _ _ _ h7
        intro ad H locs ls ha hn hwf hr hP hD hS hl
        refine va_mna (X := zw cA ad μ) (L := []) (f := fun _ => .inr (0, [])) (ty := .int) (N' := n.toNatClampNeg) (K' := kk2.toNatClampNeg) (z := (kk2.toNatClampNeg, .inl (fun _ => 0))) hx hb hown (hts _ (zwd_ok hq)) hAO (hts _ zWa.1) ((hK.2 0 (cA 100, .int) rfl).2) hK (by rw [show va_pl [] (fun _ => (.inr (0, []) : va_E)) = [] from rfl, List.append_nil]; exact hP) (by rw [show va_pl [] (fun _ => (.inr (0, []) : va_E)) = [] from rfl, List.append_nil]; exact hD) hS hA h1 h2 rfl rfl (Nat.le_trans (Nat.mul_le_mul h3 (Nat.le_refl 4)) (by decide)) (Nat.le_trans (Nat.mul_le_mul h4 (show componentBytes .int ≤ 8 by decide)) (by decide)) (Nat.le_trans h4 (by decide)) rfl rfl h5 h6 (fun c => ?_) hd (fun q r9 cA' H1 hinj hnew hK1 hP1 hD1 hS1 => ?_)
        · show ({ cls := c, slots := Array.replicate kk2.toNatClampNeg (.int 0), vm := .none } : Cell) = _
          rw [vp_cell_i]
          exact arrV_new _ _ _
        have hc : cA' = cA 104 := Option.some.inj ((hK1.2 _ (cA', .array .int) (List.getElem?_append_right (Nat.le_refl _) |>.trans (by simp))).2.symm.trans (hK.2 3 (cA 104, .array .int) rfl).2)
        subst hc
        generalize hN : n.toNatClampNeg = N at *
        generalize hM : kk2.toNatClampNeg = M at *
        obtain ⟨ad1, had1⟩ : ∃ ad1 : Nat → Nat, ad1 = fun j => if j = μ.1 then q else if μ.1 < j ∧ j ≤ μ.1 + N then r9 (j - μ.1 - 1) else ad j := ⟨_, rfl⟩
        obtain ⟨ha1, ha2, ha3, ha4, ha5⟩ := ha
        have hS9 : μ.1 + N < zS := by omega
        have a1 : ∀ k, (k < μ.1 ∨ k = zS) → ad1 k = ad k := fun k hk => by rw [had1]; simp only [if_neg (show ¬ k = μ.1 by omega), if_neg (show ¬ (μ.1 < k ∧ k ≤ μ.1 + N) by omega)]
        have a2 : ad1 μ.1 = q := by rw [had1]; simp
        have a3 : ∀ i, i < N → ad1 (μ.1 + 1 + i) = r9 i := fun i hi => by
          rw [had1]
          simp only [if_neg (show ¬ μ.1 + 1 + i = μ.1 by omega), if_pos (show μ.1 < μ.1 + 1 + i ∧ μ.1 + 1 + i ≤ μ.1 + N by omega)]
          congr 1
          omega
        have hlist : (zw cA ad μ ++ [(q, .inl (cA 104, N, .inr (.inr (.inr (.inr (fun i => if i < N then some (r9 i) else none))))))]) ++ va_pl ([] ++ (List.range N).map r9) (vr_up (fun _ => .inr (0, [])) ((List.range N).map r9) (.inl (cA 100, M, .inl (fun _ => 0)))) = zw cA ad1 (zgrid μ N M) := by
          show _ = (List.range (μ.1 + 1 + N)).map _
          rw [List.range_add, List.map_append, List.range_succ, List.map_append, List.map_map]
          refine congr (congrArg HAppend.hAppend (congr (congrArg HAppend.hAppend (List.map_congr_left fun k hk => ?_)) ?_)) ?_
          · have hk := List.mem_range.mp hk
            have e1 : ¬ k = μ.1 := Nat.ne_of_lt hk
            have e2 : ¬ (μ.1 < k ∧ k ≤ μ.1 + N) := by omega
            have e3 : ¬ (μ.1 ≤ k ∧ k ≤ μ.1 + N) := by omega
            rw [a1 k (Or.inl hk)]
            refine congrArg (Prod.mk (ad k)) (zcell_ext ?_ ?_ ?_ ?_ (fun j b hb => a1 b (hwf.2.2 k j b hk hb))).symm
            · show (if k = μ.1 then _ else if _ then _ else _) = _
              rw [if_neg e1, if_neg e2]
            · show (if k = μ.1 then _ else if _ then _ else _) = _
              rw [if_neg e1, if_neg e2]
            · show (if _ then _ else _) = _
              rw [if_neg e3]
            · show (if _ then _ else _) = _
              rw [if_neg e3]
          · show [_] = [(ad1 μ.1, zcell cA ad1 (zgrid μ N M) μ.1)]
            rw [a2, zcell_arr (μ := zgrid μ N M) (k := 104) (n := N) (show (if μ.1 = μ.1 then _ else _) = _ from if_pos rfl) (by decide)]
            refine congrArg (fun f => [(q, (Sum.inl (cA 104, N, Sum.inr (Sum.inr (Sum.inr (Sum.inr f)))) : va_E))]) (funext fun i => ?_)
            show _ = ((if μ.1 = μ.1 then (fun i => if i < N then some (μ.1 + 1 + i) else none) else _) i : Option Nat).map ad1
            rw [if_pos rfl]
            by_cases hi : i < N
            · simp [hi, a3 i hi]
            · simp [hi]
          · unfold va_pl
            rw [List.nil_append, List.map_map]
            refine List.map_congr_left fun i hi => ?_
            have hi := List.mem_range.mp hi
            show (r9 i, vr_up _ _ _ (r9 i)) = (ad1 (μ.1 + 1 + i), zcell cA ad1 (zgrid μ N M) (μ.1 + 1 + i))
            rw [a3 i hi, vr_up_in (List.mem_map.mpr ⟨i, List.mem_range.mpr hi, rfl⟩), zcell_arr (μ := zgrid μ N M) (k := 100) (n := M) (show (if μ.1 + 1 + i = μ.1 then _ else if μ.1 < μ.1 + 1 + i ∧ μ.1 + 1 + i ≤ μ.1 + N then _ else _) = _ by rw [if_neg (by omega), if_pos (by omega)]) (by decide)]
            refine congrArg (fun f => (r9 i, (Sum.inl (cA 100, M, Sum.inl f) : va_E))) ?_
            show _ = (if μ.1 ≤ μ.1 + 1 + i ∧ μ.1 + 1 + i ≤ μ.1 + N then (fun _ => 0) else _)
            rw [if_pos (by omega)]
        rw [hlist] at hP1 hD1
        have hmono : ∀ v, zwV μ.1 v → zwV (zgrid μ N M).1 v := fun v hv => by
          cases v <;> first | trivial | exact Or.imp_left (fun q => Nat.lt_of_lt_of_le q (show μ.1 ≤ μ.1 + 1 + N by omega)) hv
        have hsame : ∀ v, zwV μ.1 v → zc ad1 v = zc ad v := fun v hv => by
          cases v <;> first | rfl | exact congrArg Value.ref (a1 _ hv)
        have hst : (Value.ref q :: r.map (zc ad)) = (Value.ref μ.1 :: r).map (zc ad1) := by
          simp only [List.map_cons, zc, a2]
          exact congrArg (_ :: ·) (List.map_congr_left fun v hv => (hsame v (hwf.1 v (List.mem_cons_of_mem _ (List.mem_cons_of_mem _ hv)))).symm)
        rw [hst]
        refine key ad1 H1 locs ls ⟨fun k hk => (a1 k (Or.inl (Nat.lt_of_lt_of_le hk hn))).trans (ha1 k hk), (a1 zS (Or.inr rfl)).trans ha2, show μ.1 + 1 + N ≤ n0 + (κ.1 + 1 + N) by omega, by show (if zS = μ.1 then (104, N) else if μ.1 < zS ∧ zS ≤ μ.1 + N then (100, M) else μ.2.1 zS).1 = 999; rw [if_neg (by omega), if_neg (by omega)]; exact ha4, ha5⟩ (Nat.le_trans hn (show μ.1 ≤ μ.1 + 1 + N by omega)) ⟨fun v hv => (List.mem_cons.mp hv).elim (fun z => z ▸ Or.inl (show μ.1 < μ.1 + 1 + N by omega)) (fun z => hmono v (hwf.1 v (List.mem_cons_of_mem _ (List.mem_cons_of_mem _ z)))), fun i v hv => hmono v (hwf.2.1 i v hv), ?_⟩ ⟨by omega, by omega⟩ hP1 hD1 hS1 ⟨hl.1, hl.2.1, fun i v hv => by rw [hsame v (hwf.2.1 i v hv)]; exact hl.2.2 i v hv⟩
        intro r' j b hr' hb'
        have hr2 : r' < μ.1 + 1 + N := hr'
        show b < μ.1 + 1 + N ∨ b = zS
        have hb2 : (if r' = μ.1 then (fun i => if i < N then some (μ.1 + 1 + i) else none) else if μ.1 < r' ∧ r' ≤ μ.1 + N then (fun _ => none) else μ.2.2.1 r') j = some b := hb'
        by_cases e1 : r' = μ.1
        · rw [if_pos e1] at hb2
          by_cases e2 : j < N
          · simp only [if_pos e2] at hb2
            cases hb2
            omega
          · simp only [if_neg e2] at hb2
            cases hb2
        · rw [if_neg e1] at hb2
          by_cases e2 : μ.1 < r' ∧ r' ≤ μ.1 + N
          · rw [if_pos e2] at hb2
            cases hb2
          · rw [if_neg e2] at hb2
            have := hwf.2.2 r' j b (by omega) hb2
            omega
      · exact h.elim
    · cases hq
  case aastore =>
    split at h
    · rename_i x i a r
      split at h
      · rename_i n n2 hsh hshx
        intro ad H locs ls ha hn hwf hr hP hD hS hl
        have hxn : x < μ.1 := (hwf.1 (.ref x) List.mem_cons_self : x < μ.1 ∨ x = zS).resolve_right fun q => by have := ha.2.2.2.1; rw [← q, hshx] at this; cases this
        have han : a < μ.1 := (hwf.1 (.ref a) (List.mem_cons_of_mem _ (List.mem_cons_of_mem _ List.mem_cons_self)) : a < μ.1 ∨ a = zS).resolve_right fun q => by have := ha.2.2.2.1; rw [← q, hsh] at this; cases this
        have hin : vp_in i n := h.1
        have hlt : i.toNatClampNeg < n := Nat.not_le.mp fun q => hin (Or.inr q)
        have hca : H[ad a]? = some (arrV (cA 104) n (fun j => va_rf ((μ.2.2.1 a j).map ad))) := by
          have := hP a _ (zw_get han)
          rw [zcell_arr hsh (by decide)] at this
          exact this
        have hcx : H[ad x]? = some (arrV (cA 100) n2 (fun j => .int (μ.2.2.2.1 x j))) := by
          have := hP x _ (zw_get hxn)
          rw [zcell_arr hshx (by decide)] at this
          exact this
        obtain ⟨comp, cA2, kA, k3, -, k1, k2, k4⟩ := arrayOverA_spec (va_AOA.use (A := args) hAO)
        have e1 : cA2 = cA 104 := Option.some.inj (k4.symm.trans (hK.2 3 (cA 104, .array .int) rfl).2)
        have e2 : comp = cA 100 := Option.some.inj (k3.symm.trans (hK.2 0 (cA 100, .int) rfl).2)
        subst e1 e2
        obtain ⟨kE, hkE, -⟩ := Vm.findClass_spec k3
        have key := kk _ _ _ _ _ h.2
        refine W.aast hx hb hca (fun q z => by cases z) (fun z => by cases z) k1 k2 rfl hkE ⟨fun z => hin (Or.inl z), by rw [arrV_size]; exact hlt⟩ hcx (fun q z => by cases z) hkE ?_ rfl rfl hd (fun H1 g1 g2 g3 => ?_)
        · exact va_selfAssign hkE
        · have hset : zw cA ad (μ.1, μ.2.1, zuR μ.2.2.1 a i.toNatClampNeg (some x), μ.2.2.2.1, μ.2.2.2.2) = (zw cA ad μ).set a (ad a, .inl (cA 104, n, .inr (.inr (.inr (.inr (fun j => (zuR μ.2.2.1 a i.toNatClampNeg (some x) a j).map ad)))))) := by
            refine zw_set rfl han (fun k hk => zcell_zuR hk) ?_
            rw [zcell_arr (μ := (μ.1, μ.2.1, zuR μ.2.2.1 a i.toNatClampNeg (some x), μ.2.2.2.1, μ.2.2.2.2)) (n := n) (k := 104) hsh (by decide)]
            rfl
          have hp1 : va_P D vwCl ((zw cA ad μ).set a (ad a, .inl (cA 104, n, .inr (.inr (.inr (.inr (fun j => (zuR μ.2.2.1 a i.toNatClampNeg (some x) a j).map ad))))))) H1 := hP.set hD (by rw [zw_get han]) (by
            show H1[ad a]? = some (vp_cell _ _)
            rw [g1, vp_cell_q]
            refine congrArg some ((arrV_store _ _ _ _ _).trans (congrArg (arrV (cA 104) n) (funext fun j => ?_)))
            by_cases ej : j = i.toNatClampNeg
            · subst ej
              simp [updV, zuR, va_rf]
            · simp [updV, zuR, ej]) g3
          have hd1 := hD.set (e := .inl (cA 104, n, .inr (.inr (.inr (.inr (fun j => (zuR μ.2.2.1 a i.toNatClampNeg (some x) a j).map ad)))))) (zw_get han)
          rw [← hset] at hp1 hd1
          refine key ad H1 _ ls ha hn ⟨fun v hv => hwf.1 v (List.mem_cons_of_mem _ (List.mem_cons_of_mem _ (List.mem_cons_of_mem _ hv))), hwf.2.1, fun r' j' b hr' hb' => ?_⟩ hr hp1 hd1 (hS.put g2 g3 (hD.2 a _ (zw_get han))) hl
          by_cases e9 : r' = a ∧ j' = i.toNatClampNeg
          · have hb2 : zuR μ.2.2.1 a i.toNatClampNeg (some x) r' j' = some b := hb'
            simp only [zuR, if_pos e9] at hb2
            cases hb2
            exact Or.inl hxn
          · have hb2 : zuR μ.2.2.1 a i.toNatClampNeg (some x) r' j' = some b := hb'
            simp only [zuR, if_neg e9] at hb2
            exact hwf.2.2 _ _ _ hr' hb2
      · exact h.elim
    · exact h.elim
  case tableswitch d lo hi offs =>
    split at h
    · simp only [Bool.and_eq_true, decide_eq_true_eq] at hq
      obtain ⟨hq1, hq2, hq3⟩ := hq
      rename_i x r t ts
      obtain ⟨h1, h2⟩ := h
      intro ad H locs ls ha hn hwf hr hP hD hS hl
      have hw1 : zwf ll r μ := ⟨fun v hv => hwf.1 v (List.mem_cons_of_mem _ hv), hwf.2⟩
      by_cases hin : x.toInt < lo ∨ hi < x.toInt
      · exact lv_tableOut hx hb hd hin hq1 (kk _ _ _ _ _ (h1 hin) ad H locs ls ha hn hw1 hr hP hD hS hl)
      · have n1 : ¬ x.toInt < lo := fun q => hin (Or.inl q)
        have n2 : ¬ hi < x.toInt := fun q => hin (Or.inr q)
        obtain ⟨j, hj⟩ : ∃ j : Nat, x.toInt = lo + (j : Int) := ⟨(x.toInt - lo).toNat, by omega⟩
        have hjl : j < ts.length := by omega
        have hts2 : (ts[j]? : Option Nat) = some ts[j] := List.getElem?_eq_getElem hjl
        have hof : offs.toList.length = ts.length := by simpa using congrArg List.length hq2
        have ho : offs[(x.toInt - lo).toNat]? = some (offs.toList[j]'(by omega)) := by
          rw [show (x.toInt - lo).toNat = j by omega, ← Array.getElem?_toList]
          exact List.getElem?_eq_getElem _
        have htgt : (pc : Int) + (offs.toList[j]'(by omega)) = ((ts[j] : Nat) : Int) := by
          have := congrArg (fun q : List Int => q[j]?) hq2
          simp only [List.getElem?_map, hts2, List.getElem?_eq_getElem (show j < offs.toList.length by omega), Option.map_some, Option.some.injEq] at this
          exact this
        exact lv_tableIn hx hb hd n1 n2 ho htgt (kk _ _ _ _ _ (zsw_ok ts lo j h2 hj hts2) ad H locs ls ha hn hw1 hr hP hD hS hl)
    · exact h.elim
  case putfield k =>
    split at h
    · rename_i v a r
      split at h
      · rename_i ci j t hf
        simp only [hf] at hq
        split at hq
        · rename_i ci' j' t' i hf' hi
          cases hf'
          simp only [Bool.and_eq_true, Bool.or_eq_true, Bool.not_eq_true', decide_eq_true_eq] at hq
          obtain ⟨hq1, hq2⟩ := hq
          obtain ⟨w1, w2, w3, w4, w5⟩ := zfl_ok hq1
          split at h
          · rename_i hsh
            have hci := Nat.eq_of_beq_eq_true hsh
            have key : ∀ (μ1 : zM) (v1 : Nat → Value), K (pc + 3) ll r κ μ1 → μ1.1 = μ.1 → μ1.2.1 = μ.2.1 → (μ1.2.1 a).1 = ci → (∀ ad k, k ≠ a → zcell cA ad μ1 k = zcell cA ad μ k) → ((∀ w ∈ (v :: .ref a :: r), zwV μ.1 w) → (∀ r j b, r < μ.1 → μ.2.2.1 r j = some b → b < μ.1 ∨ b = zS) → ∀ r j b, r < μ.1 → μ1.2.2.1 r j = some b → b < μ.1 ∨ b = zS) →
                (∀ (ad : Nat → Nat) (i t' : Nat), i ≠ j → zfv ad μ1 a i t' = zfv ad μ a i t') → (∀ ad : Nat → Nat, zfv ad μ1 a j t = zc ad v) → (∀ ad : Nat → Nat, narrow (zTy ci j) (zc ad v) = zc ad v ∧ fits (zTy ci j) (zc ad v) = true) → zG p l e R s m args below meth c nL D cA A H0 ad0 n0 Q pc ll (v :: .ref a :: r) κ μ := by
              intro μ1 v1 hk h1 h1s h2 h3 h4 h5 h6 h7
              refine zs_write (r := a) (kk _ _ _ _ _ hk) (List.mem_cons_of_mem _ List.mem_cons_self) (by rw [hci]; exact Nat.ne_of_lt (Nat.lt_of_lt_of_le w1 (by decide))) h1 h1s h3 (fun n hw v hv => hw v (List.mem_cons_of_mem _ (List.mem_cons_of_mem _ hv))) h4 (fun ad H locs ls ha hP hD hS k => ?_)
              have hset : zcell cA ad μ1 a = .inr (ci, (zfs ad μ a (zTY ci) 0).set j (zc ad v)) := by
                rw [zcell_obj h2 w1]
                refine congrArg (fun q => Sum.inr (ci, q)) ?_
                exact zfs_set ad μ μ1 a (zTY ci) 0 j t (zc ad v) (by rw [w5]; exact zTY_get w2) (fun i t' hi => h5 ad i t' (by omega)) (by rw [Nat.zero_add]; exact h6 ad)
              have hlen : j < (zfs ad μ a (zTY ci) 0).length := by rw [zfs_len]; simp [zTY, w2]
              rw [hset] at k
              cases hfin : ((zCl ci).2.1 j).2.2.2 with
              | false => exact va_put hx hb hts w4 (zTy ci) (zTy_ok w1) (zNm_ok w1) hown hK hP hD hS a (by rw [zw_get ha, zcell_obj hci w1]) (zCl_get w1) j w2 (hts _ w3) (fun _ h9 => h9) hfin (zTy_ok w1 j w2) (h7 ad).1 (h7 ad).2 hlen hd k
              | true =>
                have hin : meth.name = "<init>" := by
                  rcases hini with q | q
                  · exact q
                  · have h9 := List.all_eq_true.mp q _ (zlk_mem hlk)
                    unfold zpf at h9
                    dsimp only at h9
                    rw [hf] at h9
                    dsimp only at h9
                    rw [hfin] at h9
                    cases h9
                have hdecl : ((zCl ci).2.1 j).1 = own := by
                  rcases hq2 with q | q
                  · rw [hfin] at q; cases q
                  · exact q
                exact va_putF hx hb hts w4 (zTy ci) (zTy_ok w1) (zNm_ok w1) hown hK hP hD hS a (by rw [zw_get ha, zcell_obj hci w1]) (zCl_get w1) j w2 (hts _ w3) (fun _ h9 => h9) hfin hin hdecl (zTy_ok w1 j w2) (h7 ad).1 (h7 ad).2 hlen hd k
            have ty0 : ∀ {f : FieldType}, zcode f = 0 → f = .int := by intro f; cases f <;> simp [zcode]
            have ty1 : ∀ {f : FieldType}, zcode f = 1 → f = .long := by intro f; cases f <;> simp [zcode]
            have ty3 : ∀ {f : FieldType}, zcode f = 3 → f = .boolean := by intro f; cases f <;> simp [zcode]
            have ty2 : ∀ {f : FieldType} {b : Nat}, zcode f = 2 → narrow f (.ref b) = .ref b ∧ fits f (.ref b) = true := by intro f b; cases f <;> simp [zcode, narrow, fits]
            have zfvI : ∀ (x : Int32) (ad : Nat → Nat) (i t' : Nat), i ≠ j → zfv ad (μ.1, μ.2.1, μ.2.2.1, zu μ.2.2.2.1 a j x, μ.2.2.2.2) a i t' = zfv ad μ a i t' := by
              intro x ad i t' hi
              unfold zfv
              split <;> first | rfl | exact congrArg Value.int (zu_ne (fun q => hi q.2))
            split at h
            · rename_i x
              exact key _ (fun _ => .null) h rfl rfl hci (fun ad k hk => zcell_zu hk) (fun _ q => q) (zfvI x) (fun ad => congrArg Value.int zu_self) (fun ad => by rw [ty0 w5.symm]; exact ⟨rfl, rfl⟩)
            · rename_i x
              exact key _ (fun _ => .null) h.2 rfl rfl hci (fun ad k hk => zcell_zu hk) (fun _ q => q) (zfvI x) (fun ad => congrArg Value.int zu_self) (fun ad => by
                rw [ty3 w5.symm]
                refine ⟨h.1, ?_⟩
                have := fits_narrow_boolean x
                rw [h.1] at this
                exact this)
            · rename_i x
              exact key _ (fun _ => .null) h rfl rfl hci (fun ad k hk => zcell_zuL hk) (fun _ q => q) (fun ad i t' hi => by
                unfold zfv
                split <;> first | rfl | exact congrArg Value.long (by simp [zuL, hi])) (fun ad => congrArg Value.long (by simp [zuL])) (fun ad => by rw [ty1 w5.symm]; exact ⟨rfl, rfl⟩)
            · rename_i x
              exact key _ (fun _ => .null) h rfl rfl hci (fun ad k hk => zcell_zuR hk) (fun q1 q2 r' j' b hr' hb' => by
                by_cases e9 : r' = a ∧ j' = j
                · simp only [zuR, if_pos e9] at hb'
                  cases hb'
                  exact q1 (.ref x) List.mem_cons_self
                · simp only [zuR, if_neg e9] at hb'
                  exact q2 _ _ _ hr' hb') (fun ad i t' hi => by
                unfold zfv
                split <;> first | rfl | (dsimp only; rw [show zuR μ.2.2.1 a j (some x) a i = μ.2.2.1 a i by simp [zuR, hi]])) (fun ad => by simp [zfv, zuR, zc, va_rf]) (fun ad => ty2 w5.symm)
            · exact h.elim
          · exact h.elim
        · cases hq
      · exact h.elim
    · exact h.elim
  case getfield k =>
    split at h
    · rename_i a r
      split at h
      · rename_i ci j t hf
        simp only [hf] at hq
        split at hq
        · rename_i ci' j' t' i hf' hi
          cases hf'
          obtain ⟨w1, w2, w3, w4, w5⟩ := zfl_ok hq
          split at h
          · rename_i hsh
            have hci := Nat.eq_of_beq_eq_true hsh
            have key : ∀ (v : Value), K (pc + 3) ll (v :: r) κ μ → (∀ ad, zfv ad μ a j t = zc ad v) → ((∀ r j b, r < μ.1 → μ.2.2.1 r j = some b → b < μ.1 ∨ b = zS) → a < μ.1 → zwV μ.1 v) → zG p l e R s m args below meth c nL D cA A H0 ad0 n0 Q pc ll (.ref a :: r) κ μ := by
              intro v hk hv hwv
              refine zs_read (kk _ _ _ _ _ hk) List.mem_cons_self (by rw [hci]; exact Nat.ne_of_lt (Nat.lt_of_lt_of_le w1 (by decide))) (fun q0 q1 q2 w hw => (List.mem_cons.mp hw).elim (fun z => z ▸ hwv q2 q0) (fun z => q1 w (List.mem_cons_of_mem _ z))) (fun ad H locs ls ha hP k => ?_)
              exact va_get hx hb hts w4 hown hK hP a (by rw [zw_get ha, zcell_obj hci w1]) (zCl_get w1) j w2 (hts _ w3) (fun _ h9 => h9) (by rw [zfs_get ad μ a _ 0 j t (by rw [w5]; exact zTY_get w2), Nat.zero_add, hv ad]) hd k
            split at h
            · exact key _ h (fun ad => rfl) (fun _ _ => trivial)
            · split at h
              · rename_i b hb2
                exact key _ h (fun ad => by simp only [zfv, hb2]; rfl) (fun q1 q2 => q1 _ _ _ q2 hb2)
              · rename_i hb2
                exact key _ h (fun ad => by simp only [zfv, hb2]; rfl) (fun _ _ => trivial)
            · rename_i n1 n2
              exact key _ h (fun ad => by
                unfold zfv
                split
                · exact absurd rfl n1
                · exact absurd rfl n2
                · rfl) (fun _ _ => trivial)
          · exact h.elim
        · cases hq
      · exact h.elim
    · exact h.elim
  case iaload =>
    split at h
    · rename_i i a r
      split at h
      · rename_i n hsh
        refine zs_read (kk _ _ _ _ _ h.2) (List.mem_cons_of_mem _ List.mem_cons_self) (by rw [hsh]; exact Nat.ne_of_beq_eq_false rfl) (fun q0 q1 q2 w hw => (List.mem_cons.mp hw).elim (fun z => z ▸ trivial) (fun z => q1 w (List.mem_cons_of_mem _ (List.mem_cons_of_mem _ z)))) (fun ad H locs ls ha hP k => ?_)
        exact va_iald hx hb hK hP a 0 (by rw [zw_get ha, zcell_arr hsh (by decide)]; rfl) rfl h.1 hd k
      · rename_i n9 hsh
        split at h
        · rename_i v hbe hv
          cases Nat.eq_of_beq_eq_true hbe
          obtain ⟨L, xs, x1, x2, x3, x4, x5⟩ := hsc _ _ hv
          intro ad H locs ls ha hn hwf hr hP hD hS hl
          have k := kk _ _ _ _ _ h.2 ad H locs ls ha hn ⟨fun w hw => (List.mem_cons.mp hw).elim (fun z => z ▸ trivial) (fun z => hwf.1 w (List.mem_cons_of_mem _ (List.mem_cons_of_mem _ z))), hwf.2⟩ hr hP hD hS hl
          show W p l e R s m args below meth c H locs κ.1 κ.2 Q (F0 m pc ls (.int i :: .ref (ad zS) :: r.map (zc ad)))
          rw [ha.2.1]
          refine va_sld hx hb x1 x2 x3 hS (fun q => q.elim h.1 (fun q => absurd x4 (Nat.not_lt.mpr q))) hd ?_
          rw [x5]
          exact k
        · exact h.elim
      · exact h.elim
    · exact h.elim
  case baload =>
    split at h
    · rename_i i a r
      split at h
      · rename_i n hsh
        refine zs_read (kk _ _ _ _ _ h.2) (List.mem_cons_of_mem _ List.mem_cons_self) (by rw [hsh]; exact Nat.ne_of_beq_eq_false rfl) (fun q0 q1 q2 w hw => (List.mem_cons.mp hw).elim (fun z => z ▸ trivial) (fun z => q1 w (List.mem_cons_of_mem _ (List.mem_cons_of_mem _ z)))) (fun ad H locs ls ha hP k => ?_)
        exact va_zald hx hb hK hP a 2 (by rw [zw_get ha, zcell_arr hsh (by decide)]; rfl) rfl h.1 hd k
      · exact h.elim
    · exact h.elim
  case laload =>
    split at h
    · rename_i i a r
      split at h
      · rename_i n hsh
        refine zs_read (kk _ _ _ _ _ h.2) (List.mem_cons_of_mem _ List.mem_cons_self) (by rw [hsh]; exact Nat.ne_of_beq_eq_false rfl) (fun q0 q1 q2 w hw => (List.mem_cons.mp hw).elim (fun z => z ▸ trivial) (fun z => q1 w (List.mem_cons_of_mem _ (List.mem_cons_of_mem _ z)))) (fun ad H locs ls ha hP k => ?_)
        exact va_lald hx hb hK hP a 1 (by rw [zw_get ha, zcell_arr hsh (by decide)]; rfl) rfl h.1 hd k
      · exact h.elim
    · exact h.elim
  case aaload =>
    split at h
    · rename_i i a r
      split at h
      · rename_i n hsh
        have key : ∀ (v : Value), K (pc + 1) ll (v :: r) κ μ → (∀ ad, va_rf ((μ.2.2.1 a i.toNatClampNeg).map ad) = zc ad v) → ((∀ r j b, r < μ.1 → μ.2.2.1 r j = some b → b < μ.1 ∨ b = zS) → a < μ.1 → zwV μ.1 v) → zG p l e R s m args below meth c nL D cA A H0 ad0 n0 Q pc ll (.int i :: .ref a :: r) κ μ := by
          intro v hk hv hwv
          refine zs_read (kk _ _ _ _ _ hk) (List.mem_cons_of_mem _ List.mem_cons_self) (by rw [hsh]; exact Nat.ne_of_beq_eq_false rfl) (fun q0 q1 q2 w hw => (List.mem_cons.mp hw).elim (fun z => z ▸ hwv q2 q0) (fun z => q1 w (List.mem_cons_of_mem _ (List.mem_cons_of_mem _ z)))) (fun ad H locs ls ha hP k => ?_)
          have hc : H[ad a]? = some (arrV (cA 104) n (fun j => va_rf ((μ.2.2.1 a j).map ad))) := by
            have := hP a _ (zw_get ha)
            rw [zcell_arr hsh (by decide)] at this
            exact this
          have hin : vp_in i n := h.1
          have hlt : i.toNatClampNeg < n := Nat.not_le.mp fun q => hin (Or.inr q)
          exact W.aald (v := zc ad v) hx hb hc ((hK.2 3 (cA 104, .array .int) rfl).1 n _) rfl (fun q => by cases q) (by rw [arrV_size]; exact hin) (by rw [arrV_read _ _ hlt, hv ad]) rfl rfl hd k
        obtain ⟨h1, h2⟩ := id h
        split at h2
        · rename_i b hb2
          exact key _ h2 (fun ad => by rw [hb2]; rfl) (fun q1 q2 => q1 _ _ _ q2 hb2)
        · rename_i hb2
          exact key _ h2 (fun ad => by rw [hb2]; rfl) (fun _ _ => trivial)
      · exact h.elim
    · exact h.elim
  case iastore =>
    split at h
    · rename_i x i a r
      split at h
      · rename_i n hsh
        refine zs_write (r := a) (kk _ _ _ _ _ h.2) (List.mem_cons_of_mem _ (List.mem_cons_of_mem _ List.mem_cons_self)) (by rw [hsh]; exact Nat.ne_of_beq_eq_false rfl) rfl rfl (fun ad k hk => zcell_zu hk) (fun n hw v hv => hw v (List.mem_cons_of_mem _ (List.mem_cons_of_mem _ (List.mem_cons_of_mem _ hv)))) (fun _ q => q) (fun ad H locs ls ha hP hD hS k => ?_)
        refine va_iast hx hb hK hP hD hS a 0 (by rw [zw_get ha, zcell_arr hsh (by decide)]; rfl) rfl h.1 hd (fun H1 locs1 p1 d1 s1 => k H1 locs1 ?_ ?_ s1)
        · rw [zcell_arr (μ := (μ.1, μ.2.1, μ.2.2.1, zu μ.2.2.2.1 a i.toNatClampNeg x, μ.2.2.2.2)) (n := n) (k := 100) hsh (by decide)]
          unfold zar
          dsimp only
          rw [zu_upd]
          exact p1
        · rw [zcell_arr (μ := (μ.1, μ.2.1, μ.2.2.1, zu μ.2.2.2.1 a i.toNatClampNeg x, μ.2.2.2.2)) (n := n) (k := 100) hsh (by decide)]
          unfold zar
          dsimp only
          rw [zu_upd]
          exact d1
      · exact h.elim
    · exact h.elim
  case bastore =>
    split at h
    · rename_i x i a r
      split at h
      · rename_i n hsh
        refine zs_write (r := a) (kk _ _ _ _ _ h.2) (List.mem_cons_of_mem _ (List.mem_cons_of_mem _ List.mem_cons_self)) (by rw [hsh]; exact Nat.ne_of_beq_eq_false rfl) rfl rfl (fun ad k hk => zcell_zu hk) (fun n hw v hv => hw v (List.mem_cons_of_mem _ (List.mem_cons_of_mem _ (List.mem_cons_of_mem _ hv)))) (fun _ q => q) (fun ad H locs ls ha hP hD hS k => ?_)
        refine va_zast hx hb hK hP hD hS a 2 (by rw [zw_get ha, zcell_arr hsh (by decide)]; rfl) rfl h.1 hd (fun H1 locs1 p1 d1 s1 => k H1 locs1 ?_ ?_ s1)
        · rw [zcell_arr (μ := (μ.1, μ.2.1, μ.2.2.1, zu μ.2.2.2.1 a i.toNatClampNeg (vp_nar .boolean x), μ.2.2.2.2)) (n := n) (k := 102) hsh (by decide)]
          unfold zar
          dsimp only
          rw [zu_upd]
          exact p1
        · rw [zcell_arr (μ := (μ.1, μ.2.1, μ.2.2.1, zu μ.2.2.2.1 a i.toNatClampNeg (vp_nar .boolean x), μ.2.2.2.2)) (n := n) (k := 102) hsh (by decide)]
          unfold zar
          dsimp only
          rw [zu_upd]
          exact d1
      · exact h.elim
    · exact h.elim
  case lastore =>
    split at h
    · rename_i x i a r
      split at h
      · rename_i n hsh
        refine zs_write (r := a) (kk _ _ _ _ _ h.2) (List.mem_cons_of_mem _ (List.mem_cons_of_mem _ List.mem_cons_self)) (by rw [hsh]; exact Nat.ne_of_beq_eq_false rfl) rfl rfl (fun ad k hk => zcell_zuL hk) (fun n hw v hv => hw v (List.mem_cons_of_mem _ (List.mem_cons_of_mem _ (List.mem_cons_of_mem _ hv)))) (fun _ q => q) (fun ad H locs ls ha hP hD hS k => ?_)
        refine va_last hx hb hK hP hD hS a 1 (by rw [zw_get ha, zcell_arr hsh (by decide)]; rfl) rfl h.1 hd (fun H1 locs1 p1 d1 s1 => k H1 locs1 ?_ ?_ s1)
        · rw [zcell_arr (μ := (μ.1, μ.2.1, μ.2.2.1, μ.2.2.2.1, zuL μ.2.2.2.2 a i.toNatClampNeg x)) (n := n) (k := 101) hsh (by decide)]
          unfold zar
          dsimp only
          rw [zuL_upd]
          exact p1
        · rw [zcell_arr (μ := (μ.1, μ.2.1, μ.2.2.1, μ.2.2.2.1, zuL μ.2.2.2.2 a i.toNatClampNeg x)) (n := n) (k := 101) hsh (by decide)]
          unfold zar
          dsimp only
          rw [zuL_upd]
          exact d1
      · exact h.elim
    · exact h.elim
  case arraylength =>
    split at h
    · rename_i a r
      have key : ∀ (kd n t0 : Nat) (ty : FieldType), μ.2.1 a = (kd, n) → kd ≠ 999 → 100 ≤ kd → (ztys cA)[t0]? = some (cA kd, ty) → (∀ ad, (zar ad μ a n kd).1 = n) → K (pc + 1) ll (.int (Int32.ofNat n) :: r) κ μ → zG p l e R s m args below meth c nL D cA A H0 ad0 n0 Q pc ll (.ref a :: r) κ μ := by
        intro kd n t0 ty hsh h999 hkd ht hn hk
        refine zs_read (kk _ _ _ _ _ hk) List.mem_cons_self (by rw [hsh]; exact h999) (fun q0 q1 q2 w hw => (List.mem_cons.mp hw).elim (fun z => z ▸ trivial) (fun z => q1 w (List.mem_cons_of_mem _ z))) (fun ad H locs ls ha hP k => ?_)
        exact va_alen hx hb hK hP a t0 (by rw [zw_get ha, zcell_arr hsh hkd]) ht (by rw [hn ad]) hd k
      split at h
      · rename_i n hsh
        exact key 100 n 0 .int hsh (by decide) (by decide) rfl (fun _ => rfl) h
      · rename_i n hsh
        exact key 101 n 1 .long hsh (by decide) (by decide) rfl (fun _ => rfl) h
      · rename_i n hsh
        exact key 102 n 2 .boolean hsh (by decide) (by decide) rfl (fun _ => rfl) h
      · rename_i n hsh
        exact key 104 n 3 (.array .int) hsh (by decide) (by decide) rfl (fun _ => rfl) h
      · rename_i n9 hsh
        split at h
        · rename_i v hbe hv
          cases Nat.eq_of_beq_eq_true hbe
          obtain ⟨L, xs, x1, x2, x3, x4⟩ := hsl _ hv
          intro ad H locs ls ha hn hwf hr hP hD hS hl
          have k := kk _ _ _ _ _ h ad H locs ls ha hn ⟨fun w hw => (List.mem_cons.mp hw).elim (fun z => z ▸ trivial) (fun z => hwf.1 w (List.mem_cons_of_mem _ z)), hwf.2⟩ hr hP hD hS hl
          show W p l e R s m args below meth c H locs κ.1 κ.2 Q (F0 m pc ls (.ref (ad zS) :: r.map (zc ad)))
          rw [ha.2.1]
          refine va_slen hx hb x1 x2 x3 hS hd ?_
          rw [x4]
          exact k
        · exact h.elim
      · exact h.elim
    · exact h.elim
  case invokevirtual k =>
    split at h
    · rename_i n sp mc ms hc
      obtain ⟨h2, h1⟩ := h
      obtain ⟨a, r, e1, e2, e3, e4⟩ := zpop_ok _ _ _ _ h1
      obtain ⟨hm, hco⟩ := zCalls_get hcalls (zlk_mem hc)
      rw [e1]
      rw [List.append_nil] at e4
      exact hco pc ll a r κ μ hd e2 (Nat.le_of_ble_eq_true e3) h2 (hm _ _ _ _ (fun v μ1 q => zout_ok q (kk _ _ _ _ _) (fun b => hthr b pc ll r _ μ1 _ _ _ hlk rfl)) e4)
    · exact h.elim
  case invokestatic k =>
    split at h
    · rename_i n sp mc ms hc
      obtain ⟨h2, h1⟩ := h
      obtain ⟨a, r, e1, e2, e3, e4⟩ := zpop_ok _ _ _ _ h1
      obtain ⟨hm, hco⟩ := zCalls_get hcalls (zlk_mem hc)
      rw [e1]
      rw [List.append_nil] at e4
      exact hco pc ll a r κ μ hd e2 (Nat.le_of_ble_eq_true e3) h2 (hm _ _ _ _ (fun v μ1 q => zout_ok q (kk _ _ _ _ _) (fun b => hthr b pc ll r _ μ1 _ _ _ hlk rfl)) e4)
    · exact h.elim
  case invokespecial k =>
    split at h
    · rename_i n sp mc ms hc
      obtain ⟨h2, h1⟩ := h
      obtain ⟨a, r, e1, e2, e3, e4⟩ := zpop_ok _ _ _ _ h1
      obtain ⟨hm, hco⟩ := zCalls_get hcalls (zlk_mem hc)
      rw [e1]
      rw [List.append_nil] at e4
      exact hco pc ll a r κ μ hd e2 (Nat.le_of_ble_eq_true e3) h2 (hm _ _ _ _ (fun v μ1 q => zout_ok q (kk _ _ _ _ _) (fun b => hthr b pc ll r _ μ1 _ _ _ hlk rfl)) e4)
    · exact h.elim
  case ireturn =>
    split at h
    · rename_i x
      split at h
      · rename_i hk
        exact hret .ireturn (some (.int x)) pc ll κ μ (by rw [hk]; trivial) hd h
      · rename_i hk
        exact hret .ireturn (some (.int x)) pc ll κ μ (by rw [hk]; exact h.1) hd h.2
      · exact h.elim
    · exact h.elim
  case lreturn =>
    split at h
    · split at h
      · rename_i hk
        exact hret .lreturn (some (.long _)) pc ll κ μ (by rw [hk]; trivial) hd h
      · exact h.elim
    · exact h.elim
  case dreturn =>
    split at h
    · split at h
      · rename_i hk
        exact hret .dreturn (some (.double _)) pc ll κ μ (by rw [hk]; trivial) hd h
      · exact h.elim
    · exact h.elim
  case areturn =>
    split at h
    · split at h
      · rename_i hk
        exact hret .areturn (some (.ref _)) pc ll κ μ (by rw [hk]; trivial) hd h
      · exact h.elim
    · exact h.elim
  case return_ =>
    split at h
    · split at h
      · rename_i hk
        exact hret .return_ none pc ll κ μ (by rw [hk]; trivial) hd h
      · exact h.elim
    · exact h.elim
/-- a run of instructions up to the next cut: what zrun says holds of the machine -/
theorem zrun_ok {C : zC} {cuts : List Nat} {Ret : Option Value → zM → Prop} {Gl : zK} (hst : ∀ pc ll st κ μ (K : zK), zst C (R.cells, R.slots) pc ll st κ μ K Ret → (∀ pc ll st κ μ, K pc ll st κ μ → Gl pc ll st κ μ) → Gl pc ll st κ μ) : ∀ (f : Nat) (pc : Nat) (ll : zLc) (st : List Value) (κ : Nat × Nat) (μ : zM), zrun C (R.cells, R.slots) cuts Gl Ret f pc ll st κ μ → Gl pc ll st κ μ
  | 0, _, _, _, _, _, h => h
  | f + 1, pc, ll, st, κ, μ, h => hst pc ll st κ μ _ h (fun pc1 ll1 st1 κ1 μ1 h1 => by
    split at h1
    · exact h1
    · exact zrun_ok hst f pc1 ll1 st1 κ1 μ1 h1)
end ZT

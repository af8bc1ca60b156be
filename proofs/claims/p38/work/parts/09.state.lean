/-! ===== the cells of one Waterline, by the order in which they are made ===== -/
def zSHt : List (Nat × (Nat × Nat)) := [(0, (7, 0)), (1, (5, 0)), (2, (104, 12)), (15, (100, 12)), (16, (100, 12)), (17, (2, 0)), (18, (100, 60)), (19, (100, 60)), (20, (100, 60)), (21, (100, 60)), (22, (104, 60)), (83, (100, 60)), (84, (101, 60)), (85, (100, 60)), (86, (6, 0)), (87, (100, 16)), (88, (100, 16)), (89, (100, 16)), (90, (0, 0)), (91, (100, 960)), (92, (100, 960)), (93, (100, 960)), (94, (1, 0)), (95, (100, 16)), (96, (100, 16)), (97, (100, 16)), (98, (100, 16)), (99, (102, 16)), (100, (4, 0)), (101, (100, 60)), (102, (3, 0)), (103, (100, 16)), (104, (100, 16)), (105, (102, 16)), (106, (3, 0)), (107, (100, 16)), (108, (100, 16)), (109, (102, 16)), (110, (100, 16)), (111, (100, 16)), (112, (100, 16)), (113, (104, 4)), (118, (100, 4))]
def zSH (n : Nat) : Nat × Nat := match zlk zSHt n with
  | some x => x
  | none => match Nat.ble n 100 with
    | true => (100, 4)
    | false => match Nat.ble n 118 with
      | true => (100, 16)
      | false => (999, 0)
def zRHt : List (Nat × List Nat) := [(0, [1, 17, 86, 90, 94, 100, 102, 106, 110, 111, 112, 113, 118]), (1, [2, 15, 16]), (17, [18, 19, 20, 21, 22, 83, 84, 85]), (86, [87, 88, 89]), (90, [1, 17, 86, 91, 92, 93]), (94, [17, 86, 95, 96, 97, 98, 99]), (100, [1, 17, 86, 90, 94, 101]), (102, [103, 104, 105]), (106, [107, 108, 109])]
def zrl : List Nat → Nat → Option Nat
  | [], _ => none
  | a :: _, 0 => some a
  | _ :: l, n + 1 => zrl l n
def zRH (n j : Nat) : Option Nat := match zlk zRHt n with
  | some l => zrl l j
  | none => match n with
    | 2 => match Nat.blt j 12 with
      | true => some (3 + j)
      | false => none
    | 22 => match Nat.blt j 60 with
      | true => some (23 + j)
      | false => none
    | 113 => match Nat.blt j 4 with
      | true => some (114 + j)
      | false => none
    | _ => none
abbrev zW0 (σ : zIn) (τ : zLo) : zM := (119, zSH, zRH, σ, τ)
theorem zi {v n : Nat} (h : v < n) (hn : n < 2 ^ 31 := by decide) : vp_in (nI v) n := vp_in_nI h hn
theorem zu_same {σ : zIn} {r j : Nat} {x : Int32} : zu σ r j x r j = x := zu_self
theorem zu_ne1 {σ : zIn} {r j r' j' : Nat} {x : Int32} (h : r' ≠ r) : zu σ r j x r' j' = σ r' j' := zu_ne fun q => h q.1
theorem zu_ne2 {σ : zIn} {r j r' j' : Nat} {x : Int32} (h : j' ≠ j) : zu σ r j x r' j' = σ r' j' := zu_ne fun q => h q.2
theorem zuL_same {τ : zLo} {r j : Nat} {x : Int64} : zuL τ r j x r j = x := by simp [zuL]
theorem zuL_ne1 {τ : zLo} {r j r' j' : Nat} {x : Int64} (h : r' ≠ r) : zuL τ r j x r' j' = τ r' j' := congrFun (zuL_row h) j'
theorem zuL_ne2 {τ : zLo} {r j r' j' : Nat} {x : Int64} (h : j' ≠ j) : zuL τ r j x r' j' = τ r' j' := by simp [zuL, h]
theorem zrow_n1 {σ : zIn} {r r' j' : Nat} {f : Nat → Int32} (h : r' ≠ r) : zrow σ r f r' j' = σ r' j' := congrFun (zrow_ne h) j'
theorem zx0 : Int32.toNatClampNeg 0 = 0 := rfl
theorem zx1 : Int32.toNatClampNeg 1 = 1 := rfl
theorem zx2 : Int32.toNatClampNeg 2 = 2 := rfl
theorem zx3 : Int32.toNatClampNeg 3 = 3 := rfl
theorem vp_inb {i : Int32} {n : Nat} (h : (decide (i < 0) || Nat.ble n i.toNatClampNeg) = false) : vp_in i n := by
  rw [Bool.or_eq_false_iff] at h
  rintro (q | q)
  · exact of_decide_eq_false h.1 q
  · rw [Nat.ble_eq.mpr q] at h
    cases h.2
/-- the machine's question for one bit -/
theorem zbt {a : Int32} {i : Nat} (hi : i < 32) : (a >>> (nI i &&& 31)) &&& 1 = 0 ↔ bt a i = false := by
  have h0 : bt (a >>> (nI i &&& 31)) 0 = bt a i := by
    have e : ∀ i, i < 32 → ((nI i &&& 31).toBitVec.smod 32).toNat = i := by decide +kernel
    unfold bt
    rw [Int32.toBitVec_shiftRight, BitVec.sshiftRight_eq', e i hi, BitVec.getLsbD_sshiftRight]
    simp [hi]
  constructor
  · intro h
    have := congrArg (fun x => bt x 0) h
    simp only [bt_and, bt_zero, h0] at this
    rw [show bt 1 0 = true from rfl, Bool.and_true] at this
    exact this
  · intro h
    refine bt_ext fun j hj => ?_
    rw [bt_and, bt_zero]
    by_cases e : j = 0
    · rw [e, h0, h]
      rfl
    · rw [show (1 : Int32) = zone 0 from rfl, bt_one (by omega), decide_eq_false e, Bool.and_false]
theorem zbt_f {a : Int32} {i : Nat} (hi : i < 32) (h : ¬ bt a i = true) : (a >>> (nI i &&& 31)) &&& 1 = 0 := (zbt hi).mpr (by simpa using h)
theorem zbt_t {a : Int32} {i : Nat} (hi : i < 32) (h : bt a i = true) : ¬ (a >>> (nI i &&& 31)) &&& 1 = 0 := fun q => by rw [(zbt hi).mp q] at h; cases h
/-- a bit of a long -/
def bL (a : Int64) (i : Nat) : Bool := a.toBitVec.getLsbD i
theorem zbL {a : Int64} {i : Nat} (hi : i < 64) : (a >>> ((nI i).toInt64 &&& 63)) &&& 1 = 0 ↔ bL a i = false := by
  have h0 : (a >>> ((nI i).toInt64 &&& 63)).toBitVec.getLsbD 0 = bL a i := by
    have e : ∀ i, i < 64 → (((nI i).toInt64 &&& 63).toBitVec.smod 64).toNat = i := by decide +kernel
    unfold bL
    rw [Int64.toBitVec_shiftRight, BitVec.sshiftRight_eq', e i hi, BitVec.getLsbD_sshiftRight]
    simp [hi]
  have h1 : ∀ j, (1 : Int64).toBitVec.getLsbD j = decide (j = 0) := by
    intro j
    by_cases hj : j < 64
    · have key : ∀ j, j < 64 → (1 : Int64).toBitVec.getLsbD j = decide (j = 0) := by decide +kernel
      exact key j hj
    · rw [BitVec.getLsbD_of_ge _ _ (by omega)]
      exact (decide_eq_false (by omega)).symm
  constructor
  · intro h
    have := congrArg (fun x : Int64 => x.toBitVec.getLsbD 0) h
    simp only [Int64.toBitVec_and, BitVec.getLsbD_and, h0, h1] at this
    simpa using this
  · intro h
    apply Int64.toBitVec_inj.mp
    apply BitVec.eq_of_getLsbD_eq
    intro j hj
    rw [Int64.toBitVec_and, BitVec.getLsbD_and, h1]
    by_cases e : j = 0
    · rw [e, h0, h]
      simp
    · simp [e]
/-! a contract that tells what holds of the answer and of the memory behind it -/
def zDQ {X : Type} (A : X → List Value) (M : X → zM) (P : X → Prop) (Q : X → Option Value → zM → Prop) : zSp := fun av μ K => ∃ x : X, av = A x ∧ μ = M x ∧ P x ∧ ∀ r μ1, Q x r μ1 → K r μ1
theorem zDQ_mono {X : Type} {A : X → List Value} {M : X → zM} {P : X → Prop} {Q : X → Option Value → zM → Prop} : zmono (zDQ A M P Q) := by
  rintro av μ K K' h ⟨x, h1, h2, h3, h4⟩
  exact ⟨x, h1, h2, h3, fun r μ1 q => h _ _ (h4 r μ1 q)⟩
section ZQ
variable {l : Launch} {D : va_G} {cA : Nat → ClassId}
theorem zct_Q {X : Bool} {y : MethodName} {b : ByteArray} {n : Nat} {ret : Option FieldType} {rm : Room} {Y : Type} {A : Y → List Value} {M : Y → zM} {P : Y → Prop} {Qm : Y → Option Value → zM → Prop} (C : zC) (ps : List (Nat × Nat)) (cuts : List Nat) (hy : plainName y.cls = true) (htab : C.1.all (zck y.cls ps b n C) = true) (hini : y.name = "<init>" ∨ C.1.all (zpf C) = true) (hkr : zkr C.2.2.2.2.2.2 ret) (hnt : C.2.2.2.2.2.1.all (fun q => Nat.blt q.1 99999) = true ∧ C.2.2.1.all (fun q => Nat.blt q.1 299999) = true)
    (hn : ∀ x ad, (lg_sl ((A x).map (zc ad))).length ≤ n)
    (hcalls : ∀ {p : Program} {e : Env} {s : State} {m : MethodId} {args : Array Value} {below : List Frame} {meth : Method} {c : Code} {A : Nat → Prop} {H0 : Heap} {ad0 : Nat → Nat} {n0 : Nat} {Q : State → Prop}, zFx p s m args c b D cA y.cls → c.maxLocals = n → zNOk s → (∀ q, H0.size ≤ q → A q) → zHX X A H0 ad0 s → zCalls (zG p l e rm s m args below meth c n D cA A H0 ad0 n0 Q) (zGX p l e rm s m args below meth c n D cA A H0 ad0 n0 Q) rm b C.2.2.2.2.1)
    (body : ∀ (x : Y) (Ret : Option Value → zM → Prop), P x → (∀ r μ1, Qm x r μ1 → Ret r μ1) → ∀ Gl : zK, (∀ f pc ll st κ μ, zrun C (rm.cells, rm.slots) cuts Gl Ret (f + 1) pc ll st κ μ → Gl pc ll st κ μ) → Gl 0 (zent n (A x)) [] (0, 0) (M x)) : zCt X l D cA y b n ret rm (zDQ A M P Qm) := by
  refine zct_of (C := C) (ps := ps) (cuts := cuts) zDQ_mono hy htab hini hkr hnt ?_ hcalls ?_
  · rintro av μ K ⟨x, rfl, -⟩ ad
    exact hn x ad
  · rintro av μ Ret ⟨x, rfl, rfl, h3, h4⟩ Gl hG
    exact body x Ret h3 h4 Gl hG
end ZQ

/-! ===== the cells of one Waterline, by the order in which they are made; behind it one model, and the law's two arrays ===== -/
def zSHt : List (Nat × (Nat × Nat)) := [(0, (7, 0)), (1, (5, 0)), (2, (104, 12)), (15, (100, 12)), (16, (100, 12)), (17, (2, 0)), (18, (100, 60)), (19, (100, 60)), (20, (100, 60)), (21, (100, 60)), (22, (104, 60)), (83, (100, 60)), (84, (101, 60)), (85, (100, 60)), (86, (6, 0)), (87, (100, 16)), (88, (100, 16)), (89, (100, 16)), (90, (0, 0)), (91, (100, 960)), (92, (100, 960)), (93, (100, 960)), (94, (1, 0)), (95, (100, 16)), (96, (100, 16)), (97, (100, 16)), (98, (100, 16)), (99, (102, 16)), (100, (4, 0)), (101, (100, 60)), (102, (3, 0)), (103, (100, 16)), (104, (100, 16)), (105, (102, 16)), (106, (3, 0)), (107, (100, 16)), (108, (100, 16)), (109, (102, 16)), (110, (100, 16)), (111, (100, 16)), (112, (100, 16)), (113, (104, 4)), (118, (100, 4)),
  (119, (8, 0)), (120, (100, 48)), (121, (100, 12)), (122, (100, 12)), (123, (100, 16)), (124, (100, 16)), (125, (100, 16)), (126, (100, 60)), (127, (100, 60)), (128, (100, 60)), (129, (100, 60)), (130, (100, 240)), (131, (100, 4)), (132, (100, 64)), (133, (100, 2928)), (134, (102, 16)), (135, (100, 16)), (136, (100, 16)), (137, (102, 16)), (138, (102, 16)), (139, (100, 16)), (140, (102, 16)), (141, (100, 60)), (142, (100, 60)), (143, (101, 1)), (144, (103, 1))]
def zSH (n : Nat) : Nat × Nat := match zlk zSHt n with
  | some x => x
  | none => match Nat.ble n 100 with
    | true => (100, 4)
    | false => match Nat.ble n 118 with
      | true => (100, 16)
      | false => (999, 0)
def zRHt : List (Nat × List Nat) := [(0, [1, 17, 86, 90, 94, 100, 102, 106, 110, 111, 112, 113, 118]), (1, [2, 15, 16]), (17, [18, 19, 20, 21, 22, 83, 84, 85]), (86, [87, 88, 89]), (90, [1, 17, 86, 91, 92, 93]), (94, [17, 86, 95, 96, 97, 98, 99]), (100, [1, 17, 86, 90, 94, 101]), (102, [103, 104, 105]), (106, [107, 108, 109])]
def zRMt : List (Nat × Nat) := [(2, 120), (3, 121), (4, 122), (6, 123), (7, 124), (8, 125), (10, 126), (11, 127), (12, 128), (13, 129), (14, 130), (17, 131), (18, 132), (20, 133), (21, 134), (23, 135), (24, 136), (25, 137), (26, 138), (27, 139), (28, 140), (29, 141), (30, 142)]
def zrl : List Nat → Nat → Option Nat
  | [], _ => none
  | a :: _, 0 => some a
  | _ :: l, n + 1 => zrl l n
def zRH (n j : Nat) : Option Nat := match zlk zRHt n with
  | some l => zrl l j
  | none => match n with
    | 2 => match Nat.blt j 12 with
      | true => some (3 + j)
      | false => none
    | 22 => match Nat.blt j 60 with
      | true => some (23 + j)
      | false => none
    | 113 => match Nat.blt j 4 with
      | true => some (114 + j)
      | false => none
    | 119 => zlk zRMt j
    | _ => none
theorem zi {v n : Nat} (h : v < n) (hn : n < 2 ^ 31 := by decide) : vp_in (nI v) n := vp_in_nI h hn
/-- the ints of a fresh Waterline and a fresh model -/
def zs0t : List (Nat × List (Nat × Int32)) := [(1, [(3, 1)]), (15, [(0, 1)]), (16, [(0, 1)]), (100, [(7, 100)]), (118, [(0, -1), (1, -1), (2, -1), (3, -1)]), (119, [(1, 1), (16, 100)]), (121, [(0, 1)]), (122, [(0, 1)]), (131, [(0, -1), (1, -1), (2, -1), (3, -1)])]
def zs0 (r : Nat) : Nat → Int32 := match zlk zs0t r with
  | some l => fun j => match zlk l j with
    | some v => v
    | none => 0
  | none => fun _ => 0
def zt0 : zLo := fun _ _ => 0
/-- memories that are as at the start but in the cells of the Waterline (and in the law's one long) -/
def zmx (σ : zIn) : zIn := fun r => match Nat.blt r 119 with
  | true => σ r
  | false => zs0 r
def zmxL (τ : zLo) (v : Int64) : zLo := fun r => match Nat.blt r 119 with
  | true => τ r
  | false => match Nat.beq r 143 with
    | true => fun j => match j with
      | 0 => v
      | _ => 0
    | false => fun _ => 0
theorem zmx_id {σ : zIn} (h : ∀ r, 119 ≤ r → σ r = zs0 r) : zmx σ = σ := by
  funext r
  unfold zmx
  cases hb : Nat.blt r 119 with
  | true => rfl
  | false =>
    refine (h r ?_).symm
    exact Nat.le_of_not_lt (fun q => by rw [Nat.blt_eq.mpr q] at hb; cases hb)
theorem zmxL_id {τ : zLo} (h : ∀ r, 119 ≤ r → τ r = fun _ => 0) : zmxL τ 0 = τ := by
  funext r
  unfold zmxL
  cases hb : Nat.blt r 119 with
  | true => rfl
  | false =>
    have h1 : 119 ≤ r := Nat.le_of_not_lt (fun q => by rw [Nat.blt_eq.mpr q] at hb; cases hb)
    rw [h r h1]
    dsimp only
    split
    · funext j
      split <;> rfl
    · rfl
theorem zmx_u {σ : zIn} (h : ∀ r, 119 ≤ r → σ r = zs0 r) {r0 j : Nat} {x : Int32} (hr : r0 < 119) : ∀ r, 119 ≤ r → zu σ r0 j x r = zs0 r := fun r hr1 => by
  rw [zu_row (by omega)]
  exact h r hr1
theorem zmx_row {σ : zIn} (h : ∀ r, 119 ≤ r → σ r = zs0 r) {r0 : Nat} {f : Nat → Int32} (hr : r0 < 119) : ∀ r, 119 ≤ r → zrow σ r0 f r = zs0 r := fun r hr1 => by
  rw [zrow_ne (by omega)]
  exact h r hr1
theorem zmxL_u {τ : zLo} (h : ∀ r, 119 ≤ r → τ r = fun _ => 0) {r0 j : Nat} {x : Int64} (hr : r0 < 119) : ∀ r, 119 ≤ r → zuL τ r0 j x r = fun _ => 0 := fun r hr1 => by
  rw [zuL_row (by omega)]
  exact h r hr1
theorem zmx_mx {σ : zIn} : ∀ r, 119 ≤ r → zmx σ r = zs0 r := fun r hr => by
  unfold zmx
  cases hb : Nat.blt r 119 with
  | true => exact absurd (Nat.blt_eq.mp hb) (by omega)
  | false => rfl
/-- what the law reads behind the model's call: the model is there, what it says of throwing, the law's one long -/
def zaft (v : Int64) (th : Int32) (μ : zM) : Prop := μ.2.1 119 = (8, 0) ∧ μ.2.1 143 = (101, 1) ∧ μ.2.2.2.1 119 0 = th ∧ μ.2.2.2.2 143 0 = v
/-! a contract that tells what holds of the answer and of the memory behind it -/
def zDQ {X : Type} (A : X → List Value) (M : X → zM) (P : X → Prop) (Q : X → Option Value → zM → Prop) : zSp := fun av μ K => ∃ x : X, av = A x ∧ μ = M x ∧ P x ∧ ∀ r μ1, Q x r μ1 → K r μ1
theorem zDQ_mono {X : Type} {A : X → List Value} {M : X → zM} {P : X → Prop} {Q : X → Option Value → zM → Prop} : zmono (zDQ A M P Q) := by
  rintro av μ K K' h ⟨x, h1, h2, h3, h4⟩
  exact ⟨x, h1, h2, h3, fun r μ1 q => h _ _ (h4 r μ1 q)⟩
section ZQ
variable {l : Launch} {D : va_G} {cA : Nat → ClassId}
theorem zct_Q {X : Bool} {y : MethodName} {b : ByteArray} {n : Nat} {ret : Option FieldType} {rm : Room} {Y : Type} {A : Y → List Value} {M : Y → zM} {P : Y → Prop} {Qm : Y → Option Value → zM → Prop} (C : zC) (ps : List (Nat × Nat)) (cuts : List Nat) (hy : plainName y.cls = true) (htab : C.1.all (zck y.cls ps b n C) = true) (hini : y.name = "<init>" ∨ C.1.all (zpf C) = true) (hkr : zkr C.2.2.2.2.2.2 ret) (hnt : C.2.2.2.2.2.1.all (fun q => Nat.blt q.1 99999) = true ∧ C.2.2.1.all (fun q => Nat.blt q.1 299999) = true)
    (hn : ∀ x ad, (lg_sl ((A x).map (zc ad))).length ≤ n)
    (hcalls : ∀ {p : Program} {e : Env} {s : State} {m : MethodId} {args : Array Value} {below : List Frame} {meth : Method} {c : Code} {A : Nat → Prop} {H0 : Heap} {ad0 : Nat → Nat} {n0 : Nat} {Q : State → Prop}, zFx p s m args c b D cA y.cls → c.maxLocals = n → zNOk s → (∀ q, H0.size ≤ q → A q) → zHX X A H0 ad0 s → zCalls (zG p l e rm s m args below meth c n D cA A H0 ad0 n0 Q) (zGX p l e rm s m args below meth c n D cA A H0 ad0 n0 Q) rm b C.2.2.2.2.1)
    (body : ∀ (x : Y) (Ret : Option Value → zM → Prop), P x → (∀ r μ1, Qm x r μ1 → Ret r μ1) → ∀ Gl : zK, (∀ f pc ll st κ μ, zrun C (rm.cells, rm.slots) cuts Gl Ret (f + 1) pc ll st κ μ → Gl pc ll st κ μ) → Gl 0 (zent n (A x)) [] (0, 0) (M x)) : zCt X l D cA y b n ret rm (zDQ A M P Qm) := by
  refine zct_of (C := C) (ps := ps) (cuts := cuts) zDQ_mono hy htab hini hkr hnt ?_ hcalls ?_
  · rintro av μ K ⟨x, rfl, -⟩ ad
    exact hn x ad
  · rintro av μ Ret ⟨x, rfl, rfl, h3, h4⟩ Gl hG
    exact body x Ret h3 h4 Gl hG
theorem zct_QX {X : Bool} {y : MethodName} {b : ByteArray} {n : Nat} {ret : Option FieldType} {rm : Room} {Y : Type} {A : Y → List Value} {M : Y → zM} {P : Y → Prop} {Qm : Y → Option Value → zM → Prop} (C : zC) (ps : List (Nat × Nat)) (cuts : List Nat) (hy : plainName y.cls = true) (htab : C.1.all (zck y.cls ps b n C) = true) (hini : y.name = "<init>" ∨ C.1.all (zpf C) = true) (hkr : zkr C.2.2.2.2.2.2 ret) (hnt : C.2.2.2.2.2.1.all (fun q => Nat.blt q.1 100000) = true ∧ C.2.2.1.all (fun q => Nat.blt q.1 299999) = true) (hlt : l.stackTraces = false) (hRx : 6 ≤ rm.frames ∧ 81 ≤ rm.locals)
    (hn : ∀ x ad, (lg_sl ((A x).map (zc ad))).length ≤ n)
    (hcalls : ∀ {p : Program} {e : Env} {s : State} {m : MethodId} {args : Array Value} {below : List Frame} {meth : Method} {c : Code} {A : Nat → Prop} {H0 : Heap} {ad0 : Nat → Nat} {n0 : Nat} {Q : State → Prop}, zFx p s m args c b D cA y.cls → c.maxLocals = n → zNOk s → (∀ q, H0.size ≤ q → A q) → zHX X A H0 ad0 s → zCalls (zG p l e rm s m args below meth c n D cA A H0 ad0 n0 Q) (zGX p l e rm s m args below meth c n D cA A H0 ad0 n0 Q) rm b C.2.2.2.2.1)
    (body : ∀ (x : Y) (Ret : Option Value → zM → Prop), P x → (∀ r μ1, Qm x r μ1 → Ret r μ1) → ∀ Gl : zK, (∀ f pc ll st κ μ, zrun C (rm.cells, rm.slots) cuts Gl Ret (f + 1) pc ll st κ μ → Gl pc ll st κ μ) → Gl 0 (zent n (A x)) [] (0, 0) (M x)) : zCtX X l D cA y b n ret rm (zDQ A M P Qm) := by
  refine zct_ofX (C := C) (ps := ps) (cuts := cuts) zDQ_mono hy htab hini hkr hnt hlt hRx ?_ hcalls ?_
  · rintro av μ K ⟨x, rfl, -⟩ ad
    exact hn x ad
  · rintro av μ Ret ⟨x, rfl, rfl, h3, h4⟩ Gl hG _
    exact body x Ret h3 h4 Gl hG
theorem zct_QH {X : Bool} {y : MethodName} {b : ByteArray} {n : Nat} {ret : Option FieldType} {rm : Room} {Y : Type} {A : Y → List Value} {M : Y → zM} {P : Y → Prop} {Qm : Y → Option Value → zM → Prop} (C : zC) (ps : List (Nat × Nat)) (cuts : List Nat) (hy : plainName y.cls = true) (htab : C.1.all (zck y.cls ps b n C) = true) (hini : y.name = "<init>" ∨ C.1.all (zpf C) = true) (hkr : zkr C.2.2.2.2.2.2 ret) {hh : List (Nat × Nat × Nat × Nat)} (hnt : zlk C.2.2.2.2.2.1 99999 = none ∧ C.2.2.1.all (fun q => Nat.blt q.1 299999) = true) (hck : zhck y.cls hh b n C = true) (hk1 : C.2.2.2.2.2.2 = 1)
    (hn : ∀ x ad, (lg_sl ((A x).map (zc ad))).length ≤ n)
    (hcalls : ∀ {p : Program} {e : Env} {s : State} {m : MethodId} {args : Array Value} {below : List Frame} {meth : Method} {c : Code} {A : Nat → Prop} {H0 : Heap} {ad0 : Nat → Nat} {n0 : Nat} {Q : State → Prop}, zFx p s m args c b D cA y.cls → c.maxLocals = n → zNOk s → (∀ q, H0.size ≤ q → A q) → zHX X A H0 ad0 s → zCalls (zG p l e rm s m args below meth c n D cA A H0 ad0 n0 Q) (zGX p l e rm s m args below meth c n D cA A H0 ad0 n0 Q) rm b C.2.2.2.2.1)
    (body : ∀ (x : Y) (Ret : Option Value → zM → Prop), P x → (∀ r μ1, Qm x r μ1 → Ret r μ1) → ∀ Gl : zK, (∀ f pc ll st κ μ, zrun C (rm.cells, rm.slots) cuts Gl Ret (f + 1) pc ll st κ μ → Gl pc ll st κ μ) → Gl 0 (zent n (A x)) [] (0, 0) (M x)) : zCtW X l D cA y b n ret hh rm (zDQ A M P Qm) := by
  refine zct_ofH (C := C) (ps := ps) (cuts := cuts) zDQ_mono hy htab hini hkr hnt hck hk1 ?_ hcalls ?_
  · rintro av μ K ⟨x, rfl, -⟩ ad
    exact hn x ad
  · rintro av μ Ret ⟨x, rfl, rfl, h3, h4⟩ Gl hG _
    exact body x Ret h3 h4 Gl hG
end ZQ

/-! ===== the law's helpers, on a fresh object ===== -/
theorem zmxL_w {τ : zLo} {v w : Int64} : zuL (zmxL τ v) 143 0 w = zmxL τ w := by
  funext r j
  by_cases h : r = 143
  · subst h
    by_cases hj : j = 0
    · subst hj
      rfl
    · rw [zuL_ne2 hj]
      cases j with
      | zero => exact absurd rfl hj
      | succ j => rfl
  · rw [zuL_ne1 h]
    unfold zmxL
    cases hb : Nat.blt r 119 with
    | true => rfl
    | false =>
      dsimp only
      cases hc : Nat.beq r 143 with
      | true => exact absurd (Nat.eq_of_beq_eq_true hc) h
      | false => rfl
section ZQK
variable {l : Launch} {D : va_G} {cA : Nat → ClassId}
theorem zct_QK {X : Bool} {hh : List (Nat × Nat × Nat × Nat)} {y : MethodName} {b : ByteArray} {n : Nat} {ret : Option FieldType} {rm : Room} {Y : Type} {A : Y → List Value} {M : Y → zM} {P : Y → Prop} {Qm : Y → Option Value → zM → Prop} (C : zC) (ps : List (Nat × Nat)) (cuts : List Nat) (hy : plainName y.cls = true) (htab : C.1.all (zck y.cls ps b n C) = true) (hini : y.name = "<init>" ∨ C.1.all (zpf C) = true) (hkr : zkr C.2.2.2.2.2.2 ret) (hnt : zlk C.2.2.2.2.2.1 99999 = none ∧ C.2.2.1.all (fun q => Nat.blt q.1 299999) = true) (hck : zhck y.cls hh b n C = true) (hk1 : C.2.2.2.2.2.2 = 1)
    (hn : ∀ x ad, (lg_sl ((A x).map (zc ad))).length ≤ n)
    (hcalls : ∀ {p : Program} {e : Env} {s : State} {m : MethodId} {args : Array Value} {below : List Frame} {meth : Method} {c : Code} {A : Nat → Prop} {H0 : Heap} {ad0 : Nat → Nat} {n0 : Nat} {Q : State → Prop}, zFx p s m args c b D cA y.cls → c.maxLocals = n → zNOk s → (∀ q, H0.size ≤ q → A q) → zHX X A H0 ad0 s → zCalls (zG p l e rm s m args below meth c n D cA A H0 ad0 n0 Q) (zGX p l e rm s m args below meth c n D cA A H0 ad0 n0 Q) rm b C.2.2.2.2.1)
    (body : ∀ (x : Y) (Ret : Option Value → zM → Prop), P x → (∀ r μ1, Qm x r μ1 → Ret r μ1) → ∀ Gl : zK, (∀ f pc ll st κ μ, zrun C (rm.cells, rm.slots) cuts Gl Ret (f + 1) pc ll st κ μ → Gl pc ll st κ μ) → Gl 0 (zent n (A x)) [] (0, 0) (M x)) : zCtW X l D cA y b n ret hh rm (zDQ A M P Qm) :=
  zct_QH C ps cuts hy htab hini hkr hnt hck hk1 hn hcalls body
end ZQK
def spL_of : zSp := zDQ (X := Int32) (fun x => match x with | v => [.ref 0, .int v, .ref 143]) (fun x => match x with | v => (145, zSH, zRH, zs0, zt0)) (fun x => match x with | v => True) (fun x r9 μ9 => match x with | v => r9 = some (.int 1) ∧ ∃ σ1 τ1, μ9 = (145, zSH, zRH, zmx σ1, zmxL τ1 0))
abbrev rmL_of : Room := ({ frames := 8, cells := 8, slots := 48, locals := 124 } : Room)
set_option maxRecDepth 100000 in
set_option maxHeartbeats 4000000 in
theorem ctL_of (l : Launch) (hlt : l.stackTraces = false) (D : va_G) (cA : Nat → ClassId) : zCtW false l D cA yL_of cL_of 4 (some .int) zhL_of rmL_of spL_of := by
  refine zct_QK (zCL_of [(27, 0, 1, spX7_of, rmX7_of.cells, rmX7_of.slots)]) zpL_of [] (by decide +kernel) zkL_of (Or.inr (by decide +kernel)) trivial ⟨rfl, by decide +kernel⟩ (by decide +kernel) rfl (fun x ad => Nat.le_of_ble_eq_true rfl) ?_ ?_
  · intro p e s m args below meth c A H0 ad0 n0 Q F hml hNw hA hX
    exact ⟨zco_VX hX hA F hml hNw (ctX7_of l hlt D cA) ⟨⟨zlL_of_27, zwX7_of.1.1, zwX7_of.1.2⟩, zwX7_of.2⟩ zdX7_of ⟨Nat.le_of_ble_eq_true rfl, Nat.le_of_ble_eq_true rfl⟩ (ci := 7) (by decide) rfl (by rintro av μ K ⟨x, rfl, rfl, -⟩; exact ⟨_, _, rfl, rfl⟩), trivial⟩
  · rintro v Ret hP hK Gl hG
    try dsimp only at hP hK
    show Gl 0 (zent 4 [.ref 0, .int v, .ref 143]) [] (0, 0) ((145, zSH, zRH, zs0, zt0))
    refine hG 100 _ _ _ _ _ ?_
    repeat (conv => whnf
            try dsimp only
            try simp (decide := true) only [zu_same, zu_ne1, zu_ne2, zuL_same, zuL_ne1, zuL_ne2, zrow_n1, zx0, zx1, zx2, zx3, zf_0_13, zf_0_14, zf_0_15, zf_1_3, zf_15_0, zf_16_0, zf_17_10, zf_86_3, zf_90_6, zf_90_7, zf_94_7, zf_100_6, zf_100_7, zf_118_0, zf_118_1, zf_118_2, zf_118_3, zg_119_0, zg_119_5, zg_119_9, zg_119_15, zg_119_19, zg_119_22, zg_119_1, zg_119_16, zg_120_0, zg_120_1, zg_120_2, zg_120_3, zg_121_0, zg_122_0, zg_124_0, zg_126_0, zg_127_0, zg_128_0, zg_129_0, zg_131_0, zg_131_1, zg_131_2, zg_131_3, Nat.reduceAdd, Nat.reduceMul, Int32.reduceAdd, Int32.reduceSub, Int32.reduceMul]
            first
            | refine ⟨vp_inb rfl, ?_⟩
            | refine ⟨fun h => absurd h (of_decide_eq_false rfl), fun _ => ?_⟩
            | refine ⟨fun _ => ?_, fun h => absurd (of_decide_eq_true rfl) h⟩
            | refine ⟨fun _ => ?_, fun h => absurd h (of_decide_eq_false rfl)⟩
            | refine ⟨fun h => absurd (of_decide_eq_true rfl) h, fun _ => ?_⟩
            | refine ⟨of_decide_eq_true rfl, ?_⟩
            | refine ⟨rfl, ?_⟩)
    try (conv => whnf)
    refine ⟨v, rfl, rfl, trivial, ?_⟩
    try dsimp only
    repeat (conv => whnf
            try dsimp only
            try simp (decide := true) only [zu_same, zu_ne1, zu_ne2, zuL_same, zuL_ne1, zuL_ne2, zrow_n1, zx0, zx1, zx2, zx3, zf_0_13, zf_0_14, zf_0_15, zf_1_3, zf_15_0, zf_16_0, zf_17_10, zf_86_3, zf_90_6, zf_90_7, zf_94_7, zf_100_6, zf_100_7, zf_118_0, zf_118_1, zf_118_2, zf_118_3, zg_119_0, zg_119_5, zg_119_9, zg_119_15, zg_119_19, zg_119_22, zg_119_1, zg_119_16, zg_120_0, zg_120_1, zg_120_2, zg_120_3, zg_121_0, zg_122_0, zg_124_0, zg_126_0, zg_127_0, zg_128_0, zg_129_0, zg_131_0, zg_131_1, zg_131_2, zg_131_3, Nat.reduceAdd, Nat.reduceMul, Int32.reduceAdd, Int32.reduceSub, Int32.reduceMul]
            first
            | refine ⟨vp_inb rfl, ?_⟩
            | refine ⟨fun h => absurd h (of_decide_eq_false rfl), fun _ => ?_⟩
            | refine ⟨fun _ => ?_, fun h => absurd (of_decide_eq_true rfl) h⟩
            | refine ⟨fun _ => ?_, fun h => absurd h (of_decide_eq_false rfl)⟩
            | refine ⟨fun h => absurd (of_decide_eq_true rfl) h, fun _ => ?_⟩
            | refine ⟨of_decide_eq_true rfl, ?_⟩
            | refine ⟨rfl, ?_⟩)
    try (conv => whnf)
    exact hK _ _ ⟨rfl, zF0⟩
def spL_define : zSp := zDQ (X := Int32 × Int32) (fun x => match x with | (v, p) => [.ref 0, .int v, .int p, .ref 143]) (fun x => match x with | (v, p) => (145, zSH, zRH, zs0, zt0)) (fun x => match x with | (v, p) => True) (fun x r9 μ9 => match x with | (v, p) => r9 = some (.int 1) ∧ ∃ σ1 τ1, μ9 = (145, zSH, zRH, zmx σ1, zmxL τ1 0))
abbrev rmL_define : Room := ({ frames := 8, cells := 8, slots := 48, locals := 125 } : Room)
set_option maxRecDepth 100000 in
set_option maxHeartbeats 4000000 in
theorem ctL_define (l : Launch) (hlt : l.stackTraces = false) (D : va_G) (cA : Nat → ClassId) : zCtW false l D cA yL_define cL_define 5 (some .int) zhL_define rmL_define spL_define := by
  refine zct_QK (zCL_define [(40, 0, 2, spX7_define, rmX7_define.cells, rmX7_define.slots)]) zpL_define [] (by decide +kernel) zkL_define (Or.inr (by decide +kernel)) trivial ⟨rfl, by decide +kernel⟩ (by decide +kernel) rfl (fun x ad => Nat.le_of_ble_eq_true rfl) ?_ ?_
  · intro p e s m args below meth c A H0 ad0 n0 Q F hml hNw hA hX
    exact ⟨zco_VX hX hA F hml hNw (ctX7_define l hlt D cA) ⟨⟨zlL_define_40, zwX7_define.1.1, zwX7_define.1.2⟩, zwX7_define.2⟩ zdX7_define ⟨Nat.le_of_ble_eq_true rfl, Nat.le_of_ble_eq_true rfl⟩ (ci := 7) (by decide) rfl (by rintro av μ K ⟨x, rfl, rfl, -⟩; exact ⟨_, _, rfl, rfl⟩), trivial⟩
  · rintro ⟨v, p⟩ Ret hP hK Gl hG
    try dsimp only at hP hK
    show Gl 0 (zent 5 [.ref 0, .int v, .int p, .ref 143]) [] (0, 0) ((145, zSH, zRH, zs0, zt0))
    refine hG 100 _ _ _ _ _ ?_
    repeat (conv => whnf
            try dsimp only
            try simp (decide := true) only [zu_same, zu_ne1, zu_ne2, zuL_same, zuL_ne1, zuL_ne2, zrow_n1, zx0, zx1, zx2, zx3, zf_0_13, zf_0_14, zf_0_15, zf_1_3, zf_15_0, zf_16_0, zf_17_10, zf_86_3, zf_90_6, zf_90_7, zf_94_7, zf_100_6, zf_100_7, zf_118_0, zf_118_1, zf_118_2, zf_118_3, zg_119_0, zg_119_5, zg_119_9, zg_119_15, zg_119_19, zg_119_22, zg_119_1, zg_119_16, zg_120_0, zg_120_1, zg_120_2, zg_120_3, zg_121_0, zg_122_0, zg_124_0, zg_126_0, zg_127_0, zg_128_0, zg_129_0, zg_131_0, zg_131_1, zg_131_2, zg_131_3, Nat.reduceAdd, Nat.reduceMul, Int32.reduceAdd, Int32.reduceSub, Int32.reduceMul]
            first
            | refine ⟨vp_inb rfl, ?_⟩
            | refine ⟨fun h => absurd h (of_decide_eq_false rfl), fun _ => ?_⟩
            | refine ⟨fun _ => ?_, fun h => absurd (of_decide_eq_true rfl) h⟩
            | refine ⟨fun _ => ?_, fun h => absurd h (of_decide_eq_false rfl)⟩
            | refine ⟨fun h => absurd (of_decide_eq_true rfl) h, fun _ => ?_⟩
            | refine ⟨of_decide_eq_true rfl, ?_⟩
            | refine ⟨rfl, ?_⟩)
    try (conv => whnf)
    refine ⟨(v, p), rfl, rfl, trivial, ?_⟩
    try dsimp only
    repeat (conv => whnf
            try dsimp only
            try simp (decide := true) only [zu_same, zu_ne1, zu_ne2, zuL_same, zuL_ne1, zuL_ne2, zrow_n1, zx0, zx1, zx2, zx3, zf_0_13, zf_0_14, zf_0_15, zf_1_3, zf_15_0, zf_16_0, zf_17_10, zf_86_3, zf_90_6, zf_90_7, zf_94_7, zf_100_6, zf_100_7, zf_118_0, zf_118_1, zf_118_2, zf_118_3, zg_119_0, zg_119_5, zg_119_9, zg_119_15, zg_119_19, zg_119_22, zg_119_1, zg_119_16, zg_120_0, zg_120_1, zg_120_2, zg_120_3, zg_121_0, zg_122_0, zg_124_0, zg_126_0, zg_127_0, zg_128_0, zg_129_0, zg_131_0, zg_131_1, zg_131_2, zg_131_3, Nat.reduceAdd, Nat.reduceMul, Int32.reduceAdd, Int32.reduceSub, Int32.reduceMul]
            first
            | refine ⟨vp_inb rfl, ?_⟩
            | refine ⟨fun h => absurd h (of_decide_eq_false rfl), fun _ => ?_⟩
            | refine ⟨fun _ => ?_, fun h => absurd (of_decide_eq_true rfl) h⟩
            | refine ⟨fun _ => ?_, fun h => absurd h (of_decide_eq_false rfl)⟩
            | refine ⟨fun h => absurd (of_decide_eq_true rfl) h, fun _ => ?_⟩
            | refine ⟨of_decide_eq_true rfl, ?_⟩
            | refine ⟨rfl, ?_⟩)
    try (conv => whnf)
    exact hK _ _ ⟨rfl, zF0⟩
def spL_set : zSp := zDQ (X := Int32 × Int32) (fun x => match x with | (v, n) => [.ref 0, .int v, .int n, .ref 143]) (fun x => match x with | (v, n) => (145, zSH, zRH, zs0, zt0)) (fun x => match x with | (v, n) => True) (fun x r9 μ9 => match x with | (v, n) => r9 = some (.int 1) ∧ ∃ σ1 τ1, μ9 = (145, zSH, zRH, zmx σ1, zmxL τ1 0))
abbrev rmL_set : Room := ({ frames := 8, cells := 8, slots := 48, locals := 124 } : Room)
set_option maxRecDepth 100000 in
set_option maxHeartbeats 4000000 in
theorem ctL_set (l : Launch) (hlt : l.stackTraces = false) (D : va_G) (cA : Nat → ClassId) : zCtW false l D cA yL_set cL_set 5 (some .int) zhL_set rmL_set spL_set := by
  refine zct_QK (zCL_set [(43, 0, 2, spX7_set, rmX7_set.cells, rmX7_set.slots)]) zpL_set [] (by decide +kernel) zkL_set (Or.inr (by decide +kernel)) trivial ⟨rfl, by decide +kernel⟩ (by decide +kernel) rfl (fun x ad => Nat.le_of_ble_eq_true rfl) ?_ ?_
  · intro p e s m args below meth c A H0 ad0 n0 Q F hml hNw hA hX
    exact ⟨zco_VX hX hA F hml hNw (ctX7_set l hlt D cA) ⟨⟨zlL_set_43, zwX7_set.1.1, zwX7_set.1.2⟩, zwX7_set.2⟩ zdX7_set ⟨Nat.le_of_ble_eq_true rfl, Nat.le_of_ble_eq_true rfl⟩ (ci := 7) (by decide) rfl (by rintro av μ K ⟨x, rfl, rfl, -⟩; exact ⟨_, _, rfl, rfl⟩), trivial⟩
  · rintro ⟨v, n⟩ Ret hP hK Gl hG
    try dsimp only at hP hK
    show Gl 0 (zent 5 [.ref 0, .int v, .int n, .ref 143]) [] (0, 0) ((145, zSH, zRH, zs0, zt0))
    refine hG 100 _ _ _ _ _ ?_
    repeat (conv => whnf
            try dsimp only
            try simp (decide := true) only [zu_same, zu_ne1, zu_ne2, zuL_same, zuL_ne1, zuL_ne2, zrow_n1, zx0, zx1, zx2, zx3, zf_0_13, zf_0_14, zf_0_15, zf_1_3, zf_15_0, zf_16_0, zf_17_10, zf_86_3, zf_90_6, zf_90_7, zf_94_7, zf_100_6, zf_100_7, zf_118_0, zf_118_1, zf_118_2, zf_118_3, zg_119_0, zg_119_5, zg_119_9, zg_119_15, zg_119_19, zg_119_22, zg_119_1, zg_119_16, zg_120_0, zg_120_1, zg_120_2, zg_120_3, zg_121_0, zg_122_0, zg_124_0, zg_126_0, zg_127_0, zg_128_0, zg_129_0, zg_131_0, zg_131_1, zg_131_2, zg_131_3, Nat.reduceAdd, Nat.reduceMul, Int32.reduceAdd, Int32.reduceSub, Int32.reduceMul]
            first
            | refine ⟨vp_inb rfl, ?_⟩
            | refine ⟨fun h => absurd h (of_decide_eq_false rfl), fun _ => ?_⟩
            | refine ⟨fun _ => ?_, fun h => absurd (of_decide_eq_true rfl) h⟩
            | refine ⟨fun _ => ?_, fun h => absurd h (of_decide_eq_false rfl)⟩
            | refine ⟨fun h => absurd (of_decide_eq_true rfl) h, fun _ => ?_⟩
            | refine ⟨of_decide_eq_true rfl, ?_⟩
            | refine ⟨rfl, ?_⟩)
    try (conv => whnf)
    refine ⟨(v, n), rfl, rfl, trivial, ?_⟩
    try dsimp only
    repeat (conv => whnf
            try dsimp only
            try simp (decide := true) only [zu_same, zu_ne1, zu_ne2, zuL_same, zuL_ne1, zuL_ne2, zrow_n1, zx0, zx1, zx2, zx3, zf_0_13, zf_0_14, zf_0_15, zf_1_3, zf_15_0, zf_16_0, zf_17_10, zf_86_3, zf_90_6, zf_90_7, zf_94_7, zf_100_6, zf_100_7, zf_118_0, zf_118_1, zf_118_2, zf_118_3, zg_119_0, zg_119_5, zg_119_9, zg_119_15, zg_119_19, zg_119_22, zg_119_1, zg_119_16, zg_120_0, zg_120_1, zg_120_2, zg_120_3, zg_121_0, zg_122_0, zg_124_0, zg_126_0, zg_127_0, zg_128_0, zg_129_0, zg_131_0, zg_131_1, zg_131_2, zg_131_3, Nat.reduceAdd, Nat.reduceMul, Int32.reduceAdd, Int32.reduceSub, Int32.reduceMul]
            first
            | refine ⟨vp_inb rfl, ?_⟩
            | refine ⟨fun h => absurd h (of_decide_eq_false rfl), fun _ => ?_⟩
            | refine ⟨fun _ => ?_, fun h => absurd (of_decide_eq_true rfl) h⟩
            | refine ⟨fun _ => ?_, fun h => absurd h (of_decide_eq_false rfl)⟩
            | refine ⟨fun h => absurd (of_decide_eq_true rfl) h, fun _ => ?_⟩
            | refine ⟨of_decide_eq_true rfl, ?_⟩
            | refine ⟨rfl, ?_⟩)
    try (conv => whnf)
    exact hK _ _ ⟨rfl, zF0⟩
def spL_leansOn : zSp := zDQ (X := Int32) (fun x => match x with | v => [.ref 0, .int v, .ref 143]) (fun x => match x with | v => (145, zSH, zRH, zs0, zt0)) (fun x => match x with | v => True) (fun x r9 μ9 => match x with | v => r9 = some (.int 1) ∧ ∃ σ1 τ1, μ9 = (145, zSH, zRH, zmx σ1, zmxL τ1 0))
abbrev rmL_leansOn : Room := ({ frames := 8, cells := 8, slots := 48, locals := 123 } : Room)
set_option maxRecDepth 100000 in
set_option maxHeartbeats 4000000 in
theorem ctL_leansOn (l : Launch) (hlt : l.stackTraces = false) (D : va_G) (cA : Nat → ClassId) : zCtW false l D cA yL_leansOn cL_leansOn 4 (some .int) zhL_leansOn rmL_leansOn spL_leansOn := by
  refine zct_QK (zCL_leansOn [(55, 0, 1, spX7_leansOn, rmX7_leansOn.cells, rmX7_leansOn.slots)]) zpL_leansOn [] (by decide +kernel) zkL_leansOn (Or.inr (by decide +kernel)) trivial ⟨rfl, by decide +kernel⟩ (by decide +kernel) rfl (fun x ad => Nat.le_of_ble_eq_true rfl) ?_ ?_
  · intro p e s m args below meth c A H0 ad0 n0 Q F hml hNw hA hX
    exact ⟨zco_VX hX hA F hml hNw (ctX7_leansOn l hlt D cA) ⟨⟨zlL_leansOn_55, zwX7_leansOn.1.1, zwX7_leansOn.1.2⟩, zwX7_leansOn.2⟩ zdX7_leansOn ⟨Nat.le_of_ble_eq_true rfl, Nat.le_of_ble_eq_true rfl⟩ (ci := 7) (by decide) rfl (by rintro av μ K ⟨x, rfl, rfl, -⟩; exact ⟨_, _, rfl, rfl⟩), trivial⟩
  · rintro v Ret hP hK Gl hG
    try dsimp only at hP hK
    show Gl 0 (zent 4 [.ref 0, .int v, .ref 143]) [] (0, 0) ((145, zSH, zRH, zs0, zt0))
    refine hG 100 _ _ _ _ _ ?_
    repeat (conv => whnf
            try dsimp only
            try simp (decide := true) only [zu_same, zu_ne1, zu_ne2, zuL_same, zuL_ne1, zuL_ne2, zrow_n1, zx0, zx1, zx2, zx3, zf_0_13, zf_0_14, zf_0_15, zf_1_3, zf_15_0, zf_16_0, zf_17_10, zf_86_3, zf_90_6, zf_90_7, zf_94_7, zf_100_6, zf_100_7, zf_118_0, zf_118_1, zf_118_2, zf_118_3, zg_119_0, zg_119_5, zg_119_9, zg_119_15, zg_119_19, zg_119_22, zg_119_1, zg_119_16, zg_120_0, zg_120_1, zg_120_2, zg_120_3, zg_121_0, zg_122_0, zg_124_0, zg_126_0, zg_127_0, zg_128_0, zg_129_0, zg_131_0, zg_131_1, zg_131_2, zg_131_3, Nat.reduceAdd, Nat.reduceMul, Int32.reduceAdd, Int32.reduceSub, Int32.reduceMul]
            first
            | refine ⟨vp_inb rfl, ?_⟩
            | refine ⟨fun h => absurd h (of_decide_eq_false rfl), fun _ => ?_⟩
            | refine ⟨fun _ => ?_, fun h => absurd (of_decide_eq_true rfl) h⟩
            | refine ⟨fun _ => ?_, fun h => absurd h (of_decide_eq_false rfl)⟩
            | refine ⟨fun h => absurd (of_decide_eq_true rfl) h, fun _ => ?_⟩
            | refine ⟨of_decide_eq_true rfl, ?_⟩
            | refine ⟨rfl, ?_⟩)
    try (conv => whnf)
    refine ⟨v, rfl, rfl, trivial, ?_⟩
    try dsimp only
    repeat (conv => whnf
            try dsimp only
            try simp (decide := true) only [zu_same, zu_ne1, zu_ne2, zuL_same, zuL_ne1, zuL_ne2, zrow_n1, zx0, zx1, zx2, zx3, zf_0_13, zf_0_14, zf_0_15, zf_1_3, zf_15_0, zf_16_0, zf_17_10, zf_86_3, zf_90_6, zf_90_7, zf_94_7, zf_100_6, zf_100_7, zf_118_0, zf_118_1, zf_118_2, zf_118_3, zg_119_0, zg_119_5, zg_119_9, zg_119_15, zg_119_19, zg_119_22, zg_119_1, zg_119_16, zg_120_0, zg_120_1, zg_120_2, zg_120_3, zg_121_0, zg_122_0, zg_124_0, zg_126_0, zg_127_0, zg_128_0, zg_129_0, zg_131_0, zg_131_1, zg_131_2, zg_131_3, Nat.reduceAdd, Nat.reduceMul, Int32.reduceAdd, Int32.reduceSub, Int32.reduceMul]
            first
            | refine ⟨vp_inb rfl, ?_⟩
            | refine ⟨fun h => absurd h (of_decide_eq_false rfl), fun _ => ?_⟩
            | refine ⟨fun _ => ?_, fun h => absurd (of_decide_eq_true rfl) h⟩
            | refine ⟨fun _ => ?_, fun h => absurd h (of_decide_eq_false rfl)⟩
            | refine ⟨fun h => absurd (of_decide_eq_true rfl) h, fun _ => ?_⟩
            | refine ⟨of_decide_eq_true rfl, ?_⟩
            | refine ⟨rfl, ?_⟩)
    try (conv => whnf)
    exact hK _ _ ⟨rfl, zF0⟩
def spL_amount : zSp := zDQ (X := Int32) (fun x => match x with | v => [.ref 0, .int v, .ref 143]) (fun x => match x with | v => (145, zSH, zRH, zs0, zt0)) (fun x => match x with | v => True) (fun x r9 μ9 => match x with | v => r9 = some (.int 1) ∧ ∃ σ1 τ1, μ9 = (145, zSH, zRH, zmx σ1, zmxL τ1 0))
abbrev rmL_amount : Room := ({ frames := 8, cells := 8, slots := 48, locals := 123 } : Room)
set_option maxRecDepth 100000 in
set_option maxHeartbeats 4000000 in
theorem ctL_amount (l : Launch) (hlt : l.stackTraces = false) (D : va_G) (cA : Nat → ClassId) : zCtW false l D cA yL_amount cL_amount 4 (some .int) zhL_amount rmL_amount spL_amount := by
  refine zct_QK (zCL_amount [(61, 0, 1, spX7_amount, rmX7_amount.cells, rmX7_amount.slots)]) zpL_amount [] (by decide +kernel) zkL_amount (Or.inr (by decide +kernel)) trivial ⟨rfl, by decide +kernel⟩ (by decide +kernel) rfl (fun x ad => Nat.le_of_ble_eq_true rfl) ?_ ?_
  · intro p e s m args below meth c A H0 ad0 n0 Q F hml hNw hA hX
    exact ⟨zco_VX hX hA F hml hNw (ctX7_amount l hlt D cA) ⟨⟨zlL_amount_61, zwX7_amount.1.1, zwX7_amount.1.2⟩, zwX7_amount.2⟩ zdX7_amount ⟨Nat.le_of_ble_eq_true rfl, Nat.le_of_ble_eq_true rfl⟩ (ci := 7) (by decide) rfl (by rintro av μ K ⟨x, rfl, rfl, -⟩; exact ⟨_, _, rfl, rfl⟩), trivial⟩
  · rintro v Ret hP hK Gl hG
    try dsimp only at hP hK
    show Gl 0 (zent 4 [.ref 0, .int v, .ref 143]) [] (0, 0) ((145, zSH, zRH, zs0, zt0))
    refine hG 100 _ _ _ _ _ ?_
    repeat (conv => whnf
            try dsimp only
            try simp (decide := true) only [zu_same, zu_ne1, zu_ne2, zuL_same, zuL_ne1, zuL_ne2, zrow_n1, zx0, zx1, zx2, zx3, zf_0_13, zf_0_14, zf_0_15, zf_1_3, zf_15_0, zf_16_0, zf_17_10, zf_86_3, zf_90_6, zf_90_7, zf_94_7, zf_100_6, zf_100_7, zf_118_0, zf_118_1, zf_118_2, zf_118_3, zg_119_0, zg_119_5, zg_119_9, zg_119_15, zg_119_19, zg_119_22, zg_119_1, zg_119_16, zg_120_0, zg_120_1, zg_120_2, zg_120_3, zg_121_0, zg_122_0, zg_124_0, zg_126_0, zg_127_0, zg_128_0, zg_129_0, zg_131_0, zg_131_1, zg_131_2, zg_131_3, Nat.reduceAdd, Nat.reduceMul, Int32.reduceAdd, Int32.reduceSub, Int32.reduceMul]
            first
            | refine ⟨vp_inb rfl, ?_⟩
            | refine ⟨fun h => absurd h (of_decide_eq_false rfl), fun _ => ?_⟩
            | refine ⟨fun _ => ?_, fun h => absurd (of_decide_eq_true rfl) h⟩
            | refine ⟨fun _ => ?_, fun h => absurd h (of_decide_eq_false rfl)⟩
            | refine ⟨fun h => absurd (of_decide_eq_true rfl) h, fun _ => ?_⟩
            | refine ⟨of_decide_eq_true rfl, ?_⟩
            | refine ⟨rfl, ?_⟩)
    try (conv => whnf)
    refine ⟨v, rfl, rfl, trivial, ?_⟩
    try dsimp only
    repeat (conv => whnf
            try dsimp only
            try simp (decide := true) only [zu_same, zu_ne1, zu_ne2, zuL_same, zuL_ne1, zuL_ne2, zrow_n1, zx0, zx1, zx2, zx3, zf_0_13, zf_0_14, zf_0_15, zf_1_3, zf_15_0, zf_16_0, zf_17_10, zf_86_3, zf_90_6, zf_90_7, zf_94_7, zf_100_6, zf_100_7, zf_118_0, zf_118_1, zf_118_2, zf_118_3, zg_119_0, zg_119_5, zg_119_9, zg_119_15, zg_119_19, zg_119_22, zg_119_1, zg_119_16, zg_120_0, zg_120_1, zg_120_2, zg_120_3, zg_121_0, zg_122_0, zg_124_0, zg_126_0, zg_127_0, zg_128_0, zg_129_0, zg_131_0, zg_131_1, zg_131_2, zg_131_3, Nat.reduceAdd, Nat.reduceMul, Int32.reduceAdd, Int32.reduceSub, Int32.reduceMul]
            first
            | refine ⟨vp_inb rfl, ?_⟩
            | refine ⟨fun h => absurd h (of_decide_eq_false rfl), fun _ => ?_⟩
            | refine ⟨fun _ => ?_, fun h => absurd (of_decide_eq_true rfl) h⟩
            | refine ⟨fun _ => ?_, fun h => absurd h (of_decide_eq_false rfl)⟩
            | refine ⟨fun h => absurd (of_decide_eq_true rfl) h, fun _ => ?_⟩
            | refine ⟨of_decide_eq_true rfl, ?_⟩
            | refine ⟨rfl, ?_⟩)
    try (conv => whnf)
    exact hK _ _ ⟨rfl, zF0⟩
def spL_amountIn : zSp := zDQ (X := Int32 × Int32) (fun x => match x with | (v, u) => [.ref 0, .int v, .int u, .ref 143]) (fun x => match x with | (v, u) => (145, zSH, zRH, zs0, zt0)) (fun x => match x with | (v, u) => True) (fun x r9 μ9 => match x with | (v, u) => r9 = some (.int 1) ∧ ∃ σ1 τ1, μ9 = (145, zSH, zRH, zmx σ1, zmxL τ1 0))
abbrev rmL_amountIn : Room := ({ frames := 8, cells := 8, slots := 48, locals := 124 } : Room)
set_option maxRecDepth 100000 in
set_option maxHeartbeats 4000000 in
theorem ctL_amountIn (l : Launch) (hlt : l.stackTraces = false) (D : va_G) (cA : Nat → ClassId) : zCtW false l D cA yL_amountIn cL_amountIn 5 (some .int) zhL_amountIn rmL_amountIn spL_amountIn := by
  refine zct_QK (zCL_amountIn [(64, 0, 2, spX7_amountIn, rmX7_amountIn.cells, rmX7_amountIn.slots)]) zpL_amountIn [] (by decide +kernel) zkL_amountIn (Or.inr (by decide +kernel)) trivial ⟨rfl, by decide +kernel⟩ (by decide +kernel) rfl (fun x ad => Nat.le_of_ble_eq_true rfl) ?_ ?_
  · intro p e s m args below meth c A H0 ad0 n0 Q F hml hNw hA hX
    exact ⟨zco_VX hX hA F hml hNw (ctX7_amountIn l hlt D cA) ⟨⟨zlL_amountIn_64, zwX7_amountIn.1.1, zwX7_amountIn.1.2⟩, zwX7_amountIn.2⟩ zdX7_amountIn ⟨Nat.le_of_ble_eq_true rfl, Nat.le_of_ble_eq_true rfl⟩ (ci := 7) (by decide) rfl (by rintro av μ K ⟨x, rfl, rfl, -⟩; exact ⟨_, _, rfl, rfl⟩), trivial⟩
  · rintro ⟨v, u⟩ Ret hP hK Gl hG
    try dsimp only at hP hK
    show Gl 0 (zent 5 [.ref 0, .int v, .int u, .ref 143]) [] (0, 0) ((145, zSH, zRH, zs0, zt0))
    refine hG 100 _ _ _ _ _ ?_
    repeat (conv => whnf
            try dsimp only
            try simp (decide := true) only [zu_same, zu_ne1, zu_ne2, zuL_same, zuL_ne1, zuL_ne2, zrow_n1, zx0, zx1, zx2, zx3, zf_0_13, zf_0_14, zf_0_15, zf_1_3, zf_15_0, zf_16_0, zf_17_10, zf_86_3, zf_90_6, zf_90_7, zf_94_7, zf_100_6, zf_100_7, zf_118_0, zf_118_1, zf_118_2, zf_118_3, zg_119_0, zg_119_5, zg_119_9, zg_119_15, zg_119_19, zg_119_22, zg_119_1, zg_119_16, zg_120_0, zg_120_1, zg_120_2, zg_120_3, zg_121_0, zg_122_0, zg_124_0, zg_126_0, zg_127_0, zg_128_0, zg_129_0, zg_131_0, zg_131_1, zg_131_2, zg_131_3, Nat.reduceAdd, Nat.reduceMul, Int32.reduceAdd, Int32.reduceSub, Int32.reduceMul]
            first
            | refine ⟨vp_inb rfl, ?_⟩
            | refine ⟨fun h => absurd h (of_decide_eq_false rfl), fun _ => ?_⟩
            | refine ⟨fun _ => ?_, fun h => absurd (of_decide_eq_true rfl) h⟩
            | refine ⟨fun _ => ?_, fun h => absurd h (of_decide_eq_false rfl)⟩
            | refine ⟨fun h => absurd (of_decide_eq_true rfl) h, fun _ => ?_⟩
            | refine ⟨of_decide_eq_true rfl, ?_⟩
            | refine ⟨rfl, ?_⟩)
    try (conv => whnf)
    refine ⟨(v, u), rfl, rfl, trivial, ?_⟩
    try dsimp only
    repeat (conv => whnf
            try dsimp only
            try simp (decide := true) only [zu_same, zu_ne1, zu_ne2, zuL_same, zuL_ne1, zuL_ne2, zrow_n1, zx0, zx1, zx2, zx3, zf_0_13, zf_0_14, zf_0_15, zf_1_3, zf_15_0, zf_16_0, zf_17_10, zf_86_3, zf_90_6, zf_90_7, zf_94_7, zf_100_6, zf_100_7, zf_118_0, zf_118_1, zf_118_2, zf_118_3, zg_119_0, zg_119_5, zg_119_9, zg_119_15, zg_119_19, zg_119_22, zg_119_1, zg_119_16, zg_120_0, zg_120_1, zg_120_2, zg_120_3, zg_121_0, zg_122_0, zg_124_0, zg_126_0, zg_127_0, zg_128_0, zg_129_0, zg_131_0, zg_131_1, zg_131_2, zg_131_3, Nat.reduceAdd, Nat.reduceMul, Int32.reduceAdd, Int32.reduceSub, Int32.reduceMul]
            first
            | refine ⟨vp_inb rfl, ?_⟩
            | refine ⟨fun h => absurd h (of_decide_eq_false rfl), fun _ => ?_⟩
            | refine ⟨fun _ => ?_, fun h => absurd (of_decide_eq_true rfl) h⟩
            | refine ⟨fun _ => ?_, fun h => absurd h (of_decide_eq_false rfl)⟩
            | refine ⟨fun h => absurd (of_decide_eq_true rfl) h, fun _ => ?_⟩
            | refine ⟨of_decide_eq_true rfl, ?_⟩
            | refine ⟨rfl, ?_⟩)
    try (conv => whnf)
    exact hK _ _ ⟨rfl, zF0⟩
def spL_isBroken : zSp := zDQ (X := Int32) (fun x => match x with | v => [.ref 0, .int v, .ref 143]) (fun x => match x with | v => (145, zSH, zRH, zs0, zt0)) (fun x => match x with | v => True) (fun x r9 μ9 => match x with | v => r9 = some (.int 1) ∧ ∃ σ1 τ1, μ9 = (145, zSH, zRH, zmx σ1, zmxL τ1 0))
abbrev rmL_isBroken : Room := ({ frames := 8, cells := 8, slots := 48, locals := 123 } : Room)
set_option maxRecDepth 100000 in
set_option maxHeartbeats 4000000 in
theorem ctL_isBroken (l : Launch) (hlt : l.stackTraces = false) (D : va_G) (cA : Nat → ClassId) : zCtW false l D cA yL_isBroken cL_isBroken 4 (some .int) zhL_isBroken rmL_isBroken spL_isBroken := by
  refine zct_QK (zCL_isBroken [(67, 0, 1, spX7_isBroken, rmX7_isBroken.cells, rmX7_isBroken.slots)]) zpL_isBroken [] (by decide +kernel) zkL_isBroken (Or.inr (by decide +kernel)) trivial ⟨rfl, by decide +kernel⟩ (by decide +kernel) rfl (fun x ad => Nat.le_of_ble_eq_true rfl) ?_ ?_
  · intro p e s m args below meth c A H0 ad0 n0 Q F hml hNw hA hX
    exact ⟨zco_VX hX hA F hml hNw (ctX7_isBroken l hlt D cA) ⟨⟨zlL_isBroken_67, zwX7_isBroken.1.1, zwX7_isBroken.1.2⟩, zwX7_isBroken.2⟩ zdX7_isBroken ⟨Nat.le_of_ble_eq_true rfl, Nat.le_of_ble_eq_true rfl⟩ (ci := 7) (by decide) rfl (by rintro av μ K ⟨x, rfl, rfl, -⟩; exact ⟨_, _, rfl, rfl⟩), trivial⟩
  · rintro v Ret hP hK Gl hG
    try dsimp only at hP hK
    show Gl 0 (zent 4 [.ref 0, .int v, .ref 143]) [] (0, 0) ((145, zSH, zRH, zs0, zt0))
    refine hG 100 _ _ _ _ _ ?_
    repeat (conv => whnf
            try dsimp only
            try simp (decide := true) only [zu_same, zu_ne1, zu_ne2, zuL_same, zuL_ne1, zuL_ne2, zrow_n1, zx0, zx1, zx2, zx3, zf_0_13, zf_0_14, zf_0_15, zf_1_3, zf_15_0, zf_16_0, zf_17_10, zf_86_3, zf_90_6, zf_90_7, zf_94_7, zf_100_6, zf_100_7, zf_118_0, zf_118_1, zf_118_2, zf_118_3, zg_119_0, zg_119_5, zg_119_9, zg_119_15, zg_119_19, zg_119_22, zg_119_1, zg_119_16, zg_120_0, zg_120_1, zg_120_2, zg_120_3, zg_121_0, zg_122_0, zg_124_0, zg_126_0, zg_127_0, zg_128_0, zg_129_0, zg_131_0, zg_131_1, zg_131_2, zg_131_3, Nat.reduceAdd, Nat.reduceMul, Int32.reduceAdd, Int32.reduceSub, Int32.reduceMul]
            first
            | refine ⟨vp_inb rfl, ?_⟩
            | refine ⟨fun h => absurd h (of_decide_eq_false rfl), fun _ => ?_⟩
            | refine ⟨fun _ => ?_, fun h => absurd (of_decide_eq_true rfl) h⟩
            | refine ⟨fun _ => ?_, fun h => absurd h (of_decide_eq_false rfl)⟩
            | refine ⟨fun h => absurd (of_decide_eq_true rfl) h, fun _ => ?_⟩
            | refine ⟨of_decide_eq_true rfl, ?_⟩
            | refine ⟨rfl, ?_⟩)
    try (conv => whnf)
    refine ⟨v, rfl, rfl, trivial, ?_⟩
    try dsimp only
    repeat (conv => whnf
            try dsimp only
            try simp (decide := true) only [zu_same, zu_ne1, zu_ne2, zuL_same, zuL_ne1, zuL_ne2, zrow_n1, zx0, zx1, zx2, zx3, zf_0_13, zf_0_14, zf_0_15, zf_1_3, zf_15_0, zf_16_0, zf_17_10, zf_86_3, zf_90_6, zf_90_7, zf_94_7, zf_100_6, zf_100_7, zf_118_0, zf_118_1, zf_118_2, zf_118_3, zg_119_0, zg_119_5, zg_119_9, zg_119_15, zg_119_19, zg_119_22, zg_119_1, zg_119_16, zg_120_0, zg_120_1, zg_120_2, zg_120_3, zg_121_0, zg_122_0, zg_124_0, zg_126_0, zg_127_0, zg_128_0, zg_129_0, zg_131_0, zg_131_1, zg_131_2, zg_131_3, Nat.reduceAdd, Nat.reduceMul, Int32.reduceAdd, Int32.reduceSub, Int32.reduceMul]
            first
            | refine ⟨vp_inb rfl, ?_⟩
            | refine ⟨fun h => absurd h (of_decide_eq_false rfl), fun _ => ?_⟩
            | refine ⟨fun _ => ?_, fun h => absurd (of_decide_eq_true rfl) h⟩
            | refine ⟨fun _ => ?_, fun h => absurd h (of_decide_eq_false rfl)⟩
            | refine ⟨fun h => absurd (of_decide_eq_true rfl) h, fun _ => ?_⟩
            | refine ⟨of_decide_eq_true rfl, ?_⟩
            | refine ⟨rfl, ?_⟩)
    try (conv => whnf)
    exact hK _ _ ⟨rfl, zF0⟩
def spL_seek : zSp := zDQ (X := Int32 × Int32 × Int32 × Int32 × Int32) (fun x => match x with | (i, v, g, a, b) => [.ref 0, .int i, .int v, .int g, .int a, .int b, .ref 143]) (fun x => match x with | (i, v, g, a, b) => (145, zSH, zRH, zs0, zt0)) (fun x => match x with | (i, v, g, a, b) => True) (fun x r9 μ9 => match x with | (i, v, g, a, b) => r9 = some (.int 1) ∧ ∃ σ1 τ1, μ9 = (145, zSH, zRH, zmx σ1, zmxL τ1 0))
abbrev rmL_seek : Room := ({ frames := 8, cells := 8, slots := 48, locals := 132 } : Room)
set_option maxRecDepth 100000 in
set_option maxHeartbeats 4000000 in
theorem ctL_seek (l : Launch) (hlt : l.stackTraces = false) (D : va_G) (cA : Nat → ClassId) : zCtW false l D cA yL_seek cL_seek 8 (some .int) zhL_seek rmL_seek spL_seek := by
  refine zct_QK (zCL_seek [(74, 0, 5, spX7_seek, rmX7_seek.cells, rmX7_seek.slots)]) zpL_seek [] (by decide +kernel) zkL_seek (Or.inr (by decide +kernel)) trivial ⟨rfl, by decide +kernel⟩ (by decide +kernel) rfl (fun x ad => Nat.le_of_ble_eq_true rfl) ?_ ?_
  · intro p e s m args below meth c A H0 ad0 n0 Q F hml hNw hA hX
    exact ⟨zco_VX hX hA F hml hNw (ctX7_seek l hlt D cA) ⟨⟨zlL_seek_74, zwX7_seek.1.1, zwX7_seek.1.2⟩, zwX7_seek.2⟩ zdX7_seek ⟨Nat.le_of_ble_eq_true rfl, Nat.le_of_ble_eq_true rfl⟩ (ci := 7) (by decide) rfl (by rintro av μ K ⟨x, rfl, rfl, -⟩; exact ⟨_, _, rfl, rfl⟩), trivial⟩
  · rintro ⟨i, v, g, a, b⟩ Ret hP hK Gl hG
    try dsimp only at hP hK
    show Gl 0 (zent 8 [.ref 0, .int i, .int v, .int g, .int a, .int b, .ref 143]) [] (0, 0) ((145, zSH, zRH, zs0, zt0))
    refine hG 100 _ _ _ _ _ ?_
    repeat (conv => whnf
            try dsimp only
            try simp (decide := true) only [zu_same, zu_ne1, zu_ne2, zuL_same, zuL_ne1, zuL_ne2, zrow_n1, zx0, zx1, zx2, zx3, zf_0_13, zf_0_14, zf_0_15, zf_1_3, zf_15_0, zf_16_0, zf_17_10, zf_86_3, zf_90_6, zf_90_7, zf_94_7, zf_100_6, zf_100_7, zf_118_0, zf_118_1, zf_118_2, zf_118_3, zg_119_0, zg_119_5, zg_119_9, zg_119_15, zg_119_19, zg_119_22, zg_119_1, zg_119_16, zg_120_0, zg_120_1, zg_120_2, zg_120_3, zg_121_0, zg_122_0, zg_124_0, zg_126_0, zg_127_0, zg_128_0, zg_129_0, zg_131_0, zg_131_1, zg_131_2, zg_131_3, Nat.reduceAdd, Nat.reduceMul, Int32.reduceAdd, Int32.reduceSub, Int32.reduceMul]
            first
            | refine ⟨vp_inb rfl, ?_⟩
            | refine ⟨fun h => absurd h (of_decide_eq_false rfl), fun _ => ?_⟩
            | refine ⟨fun _ => ?_, fun h => absurd (of_decide_eq_true rfl) h⟩
            | refine ⟨fun _ => ?_, fun h => absurd h (of_decide_eq_false rfl)⟩
            | refine ⟨fun h => absurd (of_decide_eq_true rfl) h, fun _ => ?_⟩
            | refine ⟨of_decide_eq_true rfl, ?_⟩
            | refine ⟨rfl, ?_⟩)
    try (conv => whnf)
    refine ⟨(i, v, g, a, b), rfl, rfl, trivial, ?_⟩
    try dsimp only
    repeat (conv => whnf
            try dsimp only
            try simp (decide := true) only [zu_same, zu_ne1, zu_ne2, zuL_same, zuL_ne1, zuL_ne2, zrow_n1, zx0, zx1, zx2, zx3, zf_0_13, zf_0_14, zf_0_15, zf_1_3, zf_15_0, zf_16_0, zf_17_10, zf_86_3, zf_90_6, zf_90_7, zf_94_7, zf_100_6, zf_100_7, zf_118_0, zf_118_1, zf_118_2, zf_118_3, zg_119_0, zg_119_5, zg_119_9, zg_119_15, zg_119_19, zg_119_22, zg_119_1, zg_119_16, zg_120_0, zg_120_1, zg_120_2, zg_120_3, zg_121_0, zg_122_0, zg_124_0, zg_126_0, zg_127_0, zg_128_0, zg_129_0, zg_131_0, zg_131_1, zg_131_2, zg_131_3, Nat.reduceAdd, Nat.reduceMul, Int32.reduceAdd, Int32.reduceSub, Int32.reduceMul]
            first
            | refine ⟨vp_inb rfl, ?_⟩
            | refine ⟨fun h => absurd h (of_decide_eq_false rfl), fun _ => ?_⟩
            | refine ⟨fun _ => ?_, fun h => absurd (of_decide_eq_true rfl) h⟩
            | refine ⟨fun _ => ?_, fun h => absurd h (of_decide_eq_false rfl)⟩
            | refine ⟨fun h => absurd (of_decide_eq_true rfl) h, fun _ => ?_⟩
            | refine ⟨of_decide_eq_true rfl, ?_⟩
            | refine ⟨rfl, ?_⟩)
    try (conv => whnf)
    exact hK _ _ ⟨rfl, zF0⟩
def spL_amountWith : zSp := zDQ (X := Int32 × Int32 × Int32) (fun x => match x with | (i, v, n) => [.ref 0, .int i, .int v, .int n, .ref 143]) (fun x => match x with | (i, v, n) => (145, zSH, zRH, zs0, zt0)) (fun x => match x with | (i, v, n) => True) (fun x r9 μ9 => match x with | (i, v, n) => r9 = some (.int 1) ∧ ∃ σ1 τ1, μ9 = (145, zSH, zRH, zmx σ1, zmxL τ1 0))
abbrev rmL_amountWith : Room := ({ frames := 8, cells := 8, slots := 48, locals := 125 } : Room)
set_option maxRecDepth 100000 in
set_option maxHeartbeats 4000000 in
theorem ctL_amountWith (l : Launch) (hlt : l.stackTraces = false) (D : va_G) (cA : Nat → ClassId) : zCtW false l D cA yL_amountWith cL_amountWith 6 (some .int) zhL_amountWith rmL_amountWith spL_amountWith := by
  refine zct_QK (zCL_amountWith [(78, 0, 3, spX7_amountWith, rmX7_amountWith.cells, rmX7_amountWith.slots)]) zpL_amountWith [] (by decide +kernel) zkL_amountWith (Or.inr (by decide +kernel)) trivial ⟨rfl, by decide +kernel⟩ (by decide +kernel) rfl (fun x ad => Nat.le_of_ble_eq_true rfl) ?_ ?_
  · intro p e s m args below meth c A H0 ad0 n0 Q F hml hNw hA hX
    exact ⟨zco_VX hX hA F hml hNw (ctX7_amountWith l hlt D cA) ⟨⟨zlL_amountWith_78, zwX7_amountWith.1.1, zwX7_amountWith.1.2⟩, zwX7_amountWith.2⟩ zdX7_amountWith ⟨Nat.le_of_ble_eq_true rfl, Nat.le_of_ble_eq_true rfl⟩ (ci := 7) (by decide) rfl (by rintro av μ K ⟨x, rfl, rfl, -⟩; exact ⟨_, _, rfl, rfl⟩), trivial⟩
  · rintro ⟨i, v, n⟩ Ret hP hK Gl hG
    try dsimp only at hP hK
    show Gl 0 (zent 6 [.ref 0, .int i, .int v, .int n, .ref 143]) [] (0, 0) ((145, zSH, zRH, zs0, zt0))
    refine hG 100 _ _ _ _ _ ?_
    repeat (conv => whnf
            try dsimp only
            try simp (decide := true) only [zu_same, zu_ne1, zu_ne2, zuL_same, zuL_ne1, zuL_ne2, zrow_n1, zx0, zx1, zx2, zx3, zf_0_13, zf_0_14, zf_0_15, zf_1_3, zf_15_0, zf_16_0, zf_17_10, zf_86_3, zf_90_6, zf_90_7, zf_94_7, zf_100_6, zf_100_7, zf_118_0, zf_118_1, zf_118_2, zf_118_3, zg_119_0, zg_119_5, zg_119_9, zg_119_15, zg_119_19, zg_119_22, zg_119_1, zg_119_16, zg_120_0, zg_120_1, zg_120_2, zg_120_3, zg_121_0, zg_122_0, zg_124_0, zg_126_0, zg_127_0, zg_128_0, zg_129_0, zg_131_0, zg_131_1, zg_131_2, zg_131_3, Nat.reduceAdd, Nat.reduceMul, Int32.reduceAdd, Int32.reduceSub, Int32.reduceMul]
            first
            | refine ⟨vp_inb rfl, ?_⟩
            | refine ⟨fun h => absurd h (of_decide_eq_false rfl), fun _ => ?_⟩
            | refine ⟨fun _ => ?_, fun h => absurd (of_decide_eq_true rfl) h⟩
            | refine ⟨fun _ => ?_, fun h => absurd h (of_decide_eq_false rfl)⟩
            | refine ⟨fun h => absurd (of_decide_eq_true rfl) h, fun _ => ?_⟩
            | refine ⟨of_decide_eq_true rfl, ?_⟩
            | refine ⟨rfl, ?_⟩)
    try (conv => whnf)
    refine ⟨(i, v, n), rfl, rfl, trivial, ?_⟩
    try dsimp only
    repeat (conv => whnf
            try dsimp only
            try simp (decide := true) only [zu_same, zu_ne1, zu_ne2, zuL_same, zuL_ne1, zuL_ne2, zrow_n1, zx0, zx1, zx2, zx3, zf_0_13, zf_0_14, zf_0_15, zf_1_3, zf_15_0, zf_16_0, zf_17_10, zf_86_3, zf_90_6, zf_90_7, zf_94_7, zf_100_6, zf_100_7, zf_118_0, zf_118_1, zf_118_2, zf_118_3, zg_119_0, zg_119_5, zg_119_9, zg_119_15, zg_119_19, zg_119_22, zg_119_1, zg_119_16, zg_120_0, zg_120_1, zg_120_2, zg_120_3, zg_121_0, zg_122_0, zg_124_0, zg_126_0, zg_127_0, zg_128_0, zg_129_0, zg_131_0, zg_131_1, zg_131_2, zg_131_3, Nat.reduceAdd, Nat.reduceMul, Int32.reduceAdd, Int32.reduceSub, Int32.reduceMul]
            first
            | refine ⟨vp_inb rfl, ?_⟩
            | refine ⟨fun h => absurd h (of_decide_eq_false rfl), fun _ => ?_⟩
            | refine ⟨fun _ => ?_, fun h => absurd (of_decide_eq_true rfl) h⟩
            | refine ⟨fun _ => ?_, fun h => absurd h (of_decide_eq_false rfl)⟩
            | refine ⟨fun h => absurd (of_decide_eq_true rfl) h, fun _ => ?_⟩
            | refine ⟨of_decide_eq_true rfl, ?_⟩
            | refine ⟨rfl, ?_⟩)
    try (conv => whnf)
    exact hK _ _ ⟨rfl, zF0⟩
def spL_slope : zSp := zDQ (X := Int32 × Int32 × Int32) (fun x => match x with | (i, v, n) => [.ref 0, .int i, .int v, .int n, .ref 144]) (fun x => match x with | (i, v, n) => (145, zSH, zRH, zs0, zt0)) (fun x => match x with | (i, v, n) => True) (fun x r9 μ9 => match x with | (i, v, n) => r9 = some (.int 1) ∧ ∃ σ1 τ1, μ9 = (145, zSH, zRH, zmx σ1, zmxL τ1 0))
abbrev rmL_slope : Room := ({ frames := 8, cells := 8, slots := 48, locals := 129 } : Room)
set_option maxRecDepth 100000 in
set_option maxHeartbeats 4000000 in
theorem ctL_slope (l : Launch) (hlt : l.stackTraces = false) (D : va_G) (cA : Nat → ClassId) : zCtW false l D cA yL_slope cL_slope 6 (some .int) zhL_slope rmL_slope spL_slope := by
  refine zct_QK (zCL_slope [(81, 0, 3, spX7_slope, rmX7_slope.cells, rmX7_slope.slots)]) zpL_slope [] (by decide +kernel) zkL_slope (Or.inr (by decide +kernel)) trivial ⟨rfl, by decide +kernel⟩ (by decide +kernel) rfl (fun x ad => Nat.le_of_ble_eq_true rfl) ?_ ?_
  · intro p e s m args below meth c A H0 ad0 n0 Q F hml hNw hA hX
    exact ⟨zco_VX hX hA F hml hNw (ctX7_slope l hlt D cA) ⟨⟨zlL_slope_81, zwX7_slope.1.1, zwX7_slope.1.2⟩, zwX7_slope.2⟩ zdX7_slope ⟨Nat.le_of_ble_eq_true rfl, Nat.le_of_ble_eq_true rfl⟩ (ci := 7) (by decide) rfl (by rintro av μ K ⟨x, rfl, rfl, -⟩; exact ⟨_, _, rfl, rfl⟩), trivial⟩
  · rintro ⟨i, v, n⟩ Ret hP hK Gl hG
    try dsimp only at hP hK
    show Gl 0 (zent 6 [.ref 0, .int i, .int v, .int n, .ref 144]) [] (0, 0) ((145, zSH, zRH, zs0, zt0))
    refine hG 100 _ _ _ _ _ ?_
    repeat (conv => whnf
            try dsimp only
            try simp (decide := true) only [zu_same, zu_ne1, zu_ne2, zuL_same, zuL_ne1, zuL_ne2, zrow_n1, zx0, zx1, zx2, zx3, zf_0_13, zf_0_14, zf_0_15, zf_1_3, zf_15_0, zf_16_0, zf_17_10, zf_86_3, zf_90_6, zf_90_7, zf_94_7, zf_100_6, zf_100_7, zf_118_0, zf_118_1, zf_118_2, zf_118_3, zg_119_0, zg_119_5, zg_119_9, zg_119_15, zg_119_19, zg_119_22, zg_119_1, zg_119_16, zg_120_0, zg_120_1, zg_120_2, zg_120_3, zg_121_0, zg_122_0, zg_124_0, zg_126_0, zg_127_0, zg_128_0, zg_129_0, zg_131_0, zg_131_1, zg_131_2, zg_131_3, Nat.reduceAdd, Nat.reduceMul, Int32.reduceAdd, Int32.reduceSub, Int32.reduceMul]
            first
            | refine ⟨vp_inb rfl, ?_⟩
            | refine ⟨fun h => absurd h (of_decide_eq_false rfl), fun _ => ?_⟩
            | refine ⟨fun _ => ?_, fun h => absurd (of_decide_eq_true rfl) h⟩
            | refine ⟨fun _ => ?_, fun h => absurd h (of_decide_eq_false rfl)⟩
            | refine ⟨fun h => absurd (of_decide_eq_true rfl) h, fun _ => ?_⟩
            | refine ⟨of_decide_eq_true rfl, ?_⟩
            | refine ⟨rfl, ?_⟩)
    try (conv => whnf)
    refine ⟨(i, v, n), rfl, rfl, trivial, ?_⟩
    try dsimp only
    repeat (conv => whnf
            try dsimp only
            try simp (decide := true) only [zu_same, zu_ne1, zu_ne2, zuL_same, zuL_ne1, zuL_ne2, zrow_n1, zx0, zx1, zx2, zx3, zf_0_13, zf_0_14, zf_0_15, zf_1_3, zf_15_0, zf_16_0, zf_17_10, zf_86_3, zf_90_6, zf_90_7, zf_94_7, zf_100_6, zf_100_7, zf_118_0, zf_118_1, zf_118_2, zf_118_3, zg_119_0, zg_119_5, zg_119_9, zg_119_15, zg_119_19, zg_119_22, zg_119_1, zg_119_16, zg_120_0, zg_120_1, zg_120_2, zg_120_3, zg_121_0, zg_122_0, zg_124_0, zg_126_0, zg_127_0, zg_128_0, zg_129_0, zg_131_0, zg_131_1, zg_131_2, zg_131_3, Nat.reduceAdd, Nat.reduceMul, Int32.reduceAdd, Int32.reduceSub, Int32.reduceMul]
            first
            | refine ⟨vp_inb rfl, ?_⟩
            | refine ⟨fun h => absurd h (of_decide_eq_false rfl), fun _ => ?_⟩
            | refine ⟨fun _ => ?_, fun h => absurd (of_decide_eq_true rfl) h⟩
            | refine ⟨fun _ => ?_, fun h => absurd h (of_decide_eq_false rfl)⟩
            | refine ⟨fun h => absurd (of_decide_eq_true rfl) h, fun _ => ?_⟩
            | refine ⟨of_decide_eq_true rfl, ?_⟩
            | refine ⟨rfl, ?_⟩)
    try (conv => whnf)
    exact hK _ _ ⟨rfl, zF0⟩
def spL_movedBy : zSp := zDQ (X := Int32) (fun x => match x with | v => [.ref 0, .int v, .ref 143]) (fun x => match x with | v => (145, zSH, zRH, zs0, zt0)) (fun x => match x with | v => True) (fun x r9 μ9 => match x with | v => r9 = some (.int 1) ∧ ∃ σ1 τ1, μ9 = (145, zSH, zRH, zmx σ1, zmxL τ1 0))
abbrev rmL_movedBy : Room := ({ frames := 8, cells := 8, slots := 48, locals := 123 } : Room)
set_option maxRecDepth 100000 in
set_option maxHeartbeats 4000000 in
theorem ctL_movedBy (l : Launch) (hlt : l.stackTraces = false) (D : va_G) (cA : Nat → ClassId) : zCtW false l D cA yL_movedBy cL_movedBy 4 (some .int) zhL_movedBy rmL_movedBy spL_movedBy := by
  refine zct_QK (zCL_movedBy [(85, 0, 1, spX7_movedBy, rmX7_movedBy.cells, rmX7_movedBy.slots)]) zpL_movedBy [] (by decide +kernel) zkL_movedBy (Or.inr (by decide +kernel)) trivial ⟨rfl, by decide +kernel⟩ (by decide +kernel) rfl (fun x ad => Nat.le_of_ble_eq_true rfl) ?_ ?_
  · intro p e s m args below meth c A H0 ad0 n0 Q F hml hNw hA hX
    exact ⟨zco_VX hX hA F hml hNw (ctX7_movedBy l hlt D cA) ⟨⟨zlL_movedBy_85, zwX7_movedBy.1.1, zwX7_movedBy.1.2⟩, zwX7_movedBy.2⟩ zdX7_movedBy ⟨Nat.le_of_ble_eq_true rfl, Nat.le_of_ble_eq_true rfl⟩ (ci := 7) (by decide) rfl (by rintro av μ K ⟨x, rfl, rfl, -⟩; exact ⟨_, _, rfl, rfl⟩), trivial⟩
  · rintro v Ret hP hK Gl hG
    try dsimp only at hP hK
    show Gl 0 (zent 4 [.ref 0, .int v, .ref 143]) [] (0, 0) ((145, zSH, zRH, zs0, zt0))
    refine hG 100 _ _ _ _ _ ?_
    repeat (conv => whnf
            try dsimp only
            try simp (decide := true) only [zu_same, zu_ne1, zu_ne2, zuL_same, zuL_ne1, zuL_ne2, zrow_n1, zx0, zx1, zx2, zx3, zf_0_13, zf_0_14, zf_0_15, zf_1_3, zf_15_0, zf_16_0, zf_17_10, zf_86_3, zf_90_6, zf_90_7, zf_94_7, zf_100_6, zf_100_7, zf_118_0, zf_118_1, zf_118_2, zf_118_3, zg_119_0, zg_119_5, zg_119_9, zg_119_15, zg_119_19, zg_119_22, zg_119_1, zg_119_16, zg_120_0, zg_120_1, zg_120_2, zg_120_3, zg_121_0, zg_122_0, zg_124_0, zg_126_0, zg_127_0, zg_128_0, zg_129_0, zg_131_0, zg_131_1, zg_131_2, zg_131_3, Nat.reduceAdd, Nat.reduceMul, Int32.reduceAdd, Int32.reduceSub, Int32.reduceMul]
            first
            | refine ⟨vp_inb rfl, ?_⟩
            | refine ⟨fun h => absurd h (of_decide_eq_false rfl), fun _ => ?_⟩
            | refine ⟨fun _ => ?_, fun h => absurd (of_decide_eq_true rfl) h⟩
            | refine ⟨fun _ => ?_, fun h => absurd h (of_decide_eq_false rfl)⟩
            | refine ⟨fun h => absurd (of_decide_eq_true rfl) h, fun _ => ?_⟩
            | refine ⟨of_decide_eq_true rfl, ?_⟩
            | refine ⟨rfl, ?_⟩)
    try (conv => whnf)
    refine ⟨v, rfl, rfl, trivial, ?_⟩
    try dsimp only
    repeat (conv => whnf
            try dsimp only
            try simp (decide := true) only [zu_same, zu_ne1, zu_ne2, zuL_same, zuL_ne1, zuL_ne2, zrow_n1, zx0, zx1, zx2, zx3, zf_0_13, zf_0_14, zf_0_15, zf_1_3, zf_15_0, zf_16_0, zf_17_10, zf_86_3, zf_90_6, zf_90_7, zf_94_7, zf_100_6, zf_100_7, zf_118_0, zf_118_1, zf_118_2, zf_118_3, zg_119_0, zg_119_5, zg_119_9, zg_119_15, zg_119_19, zg_119_22, zg_119_1, zg_119_16, zg_120_0, zg_120_1, zg_120_2, zg_120_3, zg_121_0, zg_122_0, zg_124_0, zg_126_0, zg_127_0, zg_128_0, zg_129_0, zg_131_0, zg_131_1, zg_131_2, zg_131_3, Nat.reduceAdd, Nat.reduceMul, Int32.reduceAdd, Int32.reduceSub, Int32.reduceMul]
            first
            | refine ⟨vp_inb rfl, ?_⟩
            | refine ⟨fun h => absurd h (of_decide_eq_false rfl), fun _ => ?_⟩
            | refine ⟨fun _ => ?_, fun h => absurd (of_decide_eq_true rfl) h⟩
            | refine ⟨fun _ => ?_, fun h => absurd h (of_decide_eq_false rfl)⟩
            | refine ⟨fun h => absurd (of_decide_eq_true rfl) h, fun _ => ?_⟩
            | refine ⟨of_decide_eq_true rfl, ?_⟩
            | refine ⟨rfl, ?_⟩)
    try (conv => whnf)
    exact hK _ _ ⟨rfl, zF0⟩
def spL_best : zSp := zDQ (X := Int32 × Int32 × Int32 × Int32 × Int32) (fun x => match x with | (i, v, a, b, n) => [.ref 0, .int i, .int v, .int a, .int b, .int n, .ref 143]) (fun x => match x with | (i, v, a, b, n) => (145, zSH, zRH, zs0, zt0)) (fun x => match x with | (i, v, a, b, n) => True) (fun x r9 μ9 => match x with | (i, v, a, b, n) => r9 = some (.int 1) ∧ ∃ σ1 τ1, μ9 = (145, zSH, zRH, zmx σ1, zmxL τ1 0))
abbrev rmL_best : Room := ({ frames := 8, cells := 8, slots := 48, locals := 131 } : Room)
set_option maxRecDepth 100000 in
set_option maxHeartbeats 4000000 in
theorem ctL_best (l : Launch) (hlt : l.stackTraces = false) (D : va_G) (cA : Nat → ClassId) : zCtW false l D cA yL_best cL_best 8 (some .int) zhL_best rmL_best spL_best := by
  refine zct_QK (zCL_best [(88, 0, 5, spX7_best, rmX7_best.cells, rmX7_best.slots)]) zpL_best [] (by decide +kernel) zkL_best (Or.inr (by decide +kernel)) trivial ⟨rfl, by decide +kernel⟩ (by decide +kernel) rfl (fun x ad => Nat.le_of_ble_eq_true rfl) ?_ ?_
  · intro p e s m args below meth c A H0 ad0 n0 Q F hml hNw hA hX
    exact ⟨zco_VX hX hA F hml hNw (ctX7_best l hlt D cA) ⟨⟨zlL_best_88, zwX7_best.1.1, zwX7_best.1.2⟩, zwX7_best.2⟩ zdX7_best ⟨Nat.le_of_ble_eq_true rfl, Nat.le_of_ble_eq_true rfl⟩ (ci := 7) (by decide) rfl (by rintro av μ K ⟨x, rfl, rfl, -⟩; exact ⟨_, _, rfl, rfl⟩), trivial⟩
  · rintro ⟨i, v, a, b, n⟩ Ret hP hK Gl hG
    try dsimp only at hP hK
    show Gl 0 (zent 8 [.ref 0, .int i, .int v, .int a, .int b, .int n, .ref 143]) [] (0, 0) ((145, zSH, zRH, zs0, zt0))
    refine hG 100 _ _ _ _ _ ?_
    repeat (conv => whnf
            try dsimp only
            try simp (decide := true) only [zu_same, zu_ne1, zu_ne2, zuL_same, zuL_ne1, zuL_ne2, zrow_n1, zx0, zx1, zx2, zx3, zf_0_13, zf_0_14, zf_0_15, zf_1_3, zf_15_0, zf_16_0, zf_17_10, zf_86_3, zf_90_6, zf_90_7, zf_94_7, zf_100_6, zf_100_7, zf_118_0, zf_118_1, zf_118_2, zf_118_3, zg_119_0, zg_119_5, zg_119_9, zg_119_15, zg_119_19, zg_119_22, zg_119_1, zg_119_16, zg_120_0, zg_120_1, zg_120_2, zg_120_3, zg_121_0, zg_122_0, zg_124_0, zg_126_0, zg_127_0, zg_128_0, zg_129_0, zg_131_0, zg_131_1, zg_131_2, zg_131_3, Nat.reduceAdd, Nat.reduceMul, Int32.reduceAdd, Int32.reduceSub, Int32.reduceMul]
            first
            | refine ⟨vp_inb rfl, ?_⟩
            | refine ⟨fun h => absurd h (of_decide_eq_false rfl), fun _ => ?_⟩
            | refine ⟨fun _ => ?_, fun h => absurd (of_decide_eq_true rfl) h⟩
            | refine ⟨fun _ => ?_, fun h => absurd h (of_decide_eq_false rfl)⟩
            | refine ⟨fun h => absurd (of_decide_eq_true rfl) h, fun _ => ?_⟩
            | refine ⟨of_decide_eq_true rfl, ?_⟩
            | refine ⟨rfl, ?_⟩)
    try (conv => whnf)
    refine ⟨(i, v, a, b, n), rfl, rfl, trivial, ?_⟩
    try dsimp only
    repeat (conv => whnf
            try dsimp only
            try simp (decide := true) only [zu_same, zu_ne1, zu_ne2, zuL_same, zuL_ne1, zuL_ne2, zrow_n1, zx0, zx1, zx2, zx3, zf_0_13, zf_0_14, zf_0_15, zf_1_3, zf_15_0, zf_16_0, zf_17_10, zf_86_3, zf_90_6, zf_90_7, zf_94_7, zf_100_6, zf_100_7, zf_118_0, zf_118_1, zf_118_2, zf_118_3, zg_119_0, zg_119_5, zg_119_9, zg_119_15, zg_119_19, zg_119_22, zg_119_1, zg_119_16, zg_120_0, zg_120_1, zg_120_2, zg_120_3, zg_121_0, zg_122_0, zg_124_0, zg_126_0, zg_127_0, zg_128_0, zg_129_0, zg_131_0, zg_131_1, zg_131_2, zg_131_3, Nat.reduceAdd, Nat.reduceMul, Int32.reduceAdd, Int32.reduceSub, Int32.reduceMul]
            first
            | refine ⟨vp_inb rfl, ?_⟩
            | refine ⟨fun h => absurd h (of_decide_eq_false rfl), fun _ => ?_⟩
            | refine ⟨fun _ => ?_, fun h => absurd (of_decide_eq_true rfl) h⟩
            | refine ⟨fun _ => ?_, fun h => absurd h (of_decide_eq_false rfl)⟩
            | refine ⟨fun h => absurd (of_decide_eq_true rfl) h, fun _ => ?_⟩
            | refine ⟨of_decide_eq_true rfl, ?_⟩
            | refine ⟨rfl, ?_⟩)
    try (conv => whnf)
    exact hK _ _ ⟨rfl, zF0⟩
def spL_faultsWith : zSp := zDQ (X := Int32 × Int32) (fun x => match x with | (v, p) => [.ref 0, .int v, .int p, .ref 143]) (fun x => match x with | (v, p) => (145, zSH, zRH, zs0, zt0)) (fun x => match x with | (v, p) => True) (fun x r9 μ9 => match x with | (v, p) => r9 = some (.int 1) ∧ ∃ σ1 τ1, μ9 = (145, zSH, zRH, zmx σ1, zmxL τ1 0))
abbrev rmL_faultsWith : Room := ({ frames := 8, cells := 8, slots := 48, locals := 125 } : Room)
set_option maxRecDepth 100000 in
set_option maxHeartbeats 4000000 in
theorem ctL_faultsWith (l : Launch) (hlt : l.stackTraces = false) (D : va_G) (cA : Nat → ClassId) : zCtW false l D cA yL_faultsWith cL_faultsWith 5 (some .int) zhL_faultsWith rmL_faultsWith spL_faultsWith := by
  refine zct_QK (zCL_faultsWith [(91, 0, 2, spX7_faultsWith, rmX7_faultsWith.cells, rmX7_faultsWith.slots)]) zpL_faultsWith [] (by decide +kernel) zkL_faultsWith (Or.inr (by decide +kernel)) trivial ⟨rfl, by decide +kernel⟩ (by decide +kernel) rfl (fun x ad => Nat.le_of_ble_eq_true rfl) ?_ ?_
  · intro p e s m args below meth c A H0 ad0 n0 Q F hml hNw hA hX
    exact ⟨zco_VX hX hA F hml hNw (ctX7_faultsWith l hlt D cA) ⟨⟨zlL_faultsWith_91, zwX7_faultsWith.1.1, zwX7_faultsWith.1.2⟩, zwX7_faultsWith.2⟩ zdX7_faultsWith ⟨Nat.le_of_ble_eq_true rfl, Nat.le_of_ble_eq_true rfl⟩ (ci := 7) (by decide) rfl (by rintro av μ K ⟨x, rfl, rfl, -⟩; exact ⟨_, _, rfl, rfl⟩), trivial⟩
  · rintro ⟨v, p⟩ Ret hP hK Gl hG
    try dsimp only at hP hK
    show Gl 0 (zent 5 [.ref 0, .int v, .int p, .ref 143]) [] (0, 0) ((145, zSH, zRH, zs0, zt0))
    refine hG 100 _ _ _ _ _ ?_
    repeat (conv => whnf
            try dsimp only
            try simp (decide := true) only [zu_same, zu_ne1, zu_ne2, zuL_same, zuL_ne1, zuL_ne2, zrow_n1, zx0, zx1, zx2, zx3, zf_0_13, zf_0_14, zf_0_15, zf_1_3, zf_15_0, zf_16_0, zf_17_10, zf_86_3, zf_90_6, zf_90_7, zf_94_7, zf_100_6, zf_100_7, zf_118_0, zf_118_1, zf_118_2, zf_118_3, zg_119_0, zg_119_5, zg_119_9, zg_119_15, zg_119_19, zg_119_22, zg_119_1, zg_119_16, zg_120_0, zg_120_1, zg_120_2, zg_120_3, zg_121_0, zg_122_0, zg_124_0, zg_126_0, zg_127_0, zg_128_0, zg_129_0, zg_131_0, zg_131_1, zg_131_2, zg_131_3, Nat.reduceAdd, Nat.reduceMul, Int32.reduceAdd, Int32.reduceSub, Int32.reduceMul]
            first
            | refine ⟨vp_inb rfl, ?_⟩
            | refine ⟨fun h => absurd h (of_decide_eq_false rfl), fun _ => ?_⟩
            | refine ⟨fun _ => ?_, fun h => absurd (of_decide_eq_true rfl) h⟩
            | refine ⟨fun _ => ?_, fun h => absurd h (of_decide_eq_false rfl)⟩
            | refine ⟨fun h => absurd (of_decide_eq_true rfl) h, fun _ => ?_⟩
            | refine ⟨of_decide_eq_true rfl, ?_⟩
            | refine ⟨rfl, ?_⟩)
    try (conv => whnf)
    refine ⟨(v, p), rfl, rfl, trivial, ?_⟩
    try dsimp only
    repeat (conv => whnf
            try dsimp only
            try simp (decide := true) only [zu_same, zu_ne1, zu_ne2, zuL_same, zuL_ne1, zuL_ne2, zrow_n1, zx0, zx1, zx2, zx3, zf_0_13, zf_0_14, zf_0_15, zf_1_3, zf_15_0, zf_16_0, zf_17_10, zf_86_3, zf_90_6, zf_90_7, zf_94_7, zf_100_6, zf_100_7, zf_118_0, zf_118_1, zf_118_2, zf_118_3, zg_119_0, zg_119_5, zg_119_9, zg_119_15, zg_119_19, zg_119_22, zg_119_1, zg_119_16, zg_120_0, zg_120_1, zg_120_2, zg_120_3, zg_121_0, zg_122_0, zg_124_0, zg_126_0, zg_127_0, zg_128_0, zg_129_0, zg_131_0, zg_131_1, zg_131_2, zg_131_3, Nat.reduceAdd, Nat.reduceMul, Int32.reduceAdd, Int32.reduceSub, Int32.reduceMul]
            first
            | refine ⟨vp_inb rfl, ?_⟩
            | refine ⟨fun h => absurd h (of_decide_eq_false rfl), fun _ => ?_⟩
            | refine ⟨fun _ => ?_, fun h => absurd (of_decide_eq_true rfl) h⟩
            | refine ⟨fun _ => ?_, fun h => absurd h (of_decide_eq_false rfl)⟩
            | refine ⟨fun h => absurd (of_decide_eq_true rfl) h, fun _ => ?_⟩
            | refine ⟨of_decide_eq_true rfl, ?_⟩
            | refine ⟨rfl, ?_⟩)
    try (conv => whnf)
    exact hK _ _ ⟨rfl, zF0⟩
def spL_join : zSp := zDQ (X := Int32 × Int32 × Int32) (fun x => match x with | (k, a, b) => [.ref 0, .int k, .int a, .int b, .ref 143]) (fun x => match x with | (k, a, b) => (145, zSH, zRH, zs0, zt0)) (fun x => match x with | (k, a, b) => True) (fun x r9 μ9 => match x with | (k, a, b) => r9 = some (.int 1) ∧ ∃ σ1 τ1, μ9 = (145, zSH, zRH, zmx σ1, zmxL τ1 0))
abbrev rmL_join : Room := ({ frames := 8, cells := 8, slots := 48, locals := 125 } : Room)
set_option maxRecDepth 100000 in
set_option maxHeartbeats 4000000 in
theorem ctL_join (l : Launch) (hlt : l.stackTraces = false) (D : va_G) (cA : Nat → ClassId) : zCtW false l D cA yL_join cL_join 6 (some .int) zhL_join rmL_join spL_join := by
  refine zct_QK (zCL_join [(30, 0, 3, spX7_join, rmX7_join.cells, rmX7_join.slots)]) zpL_join [] (by decide +kernel) zkL_join (Or.inr (by decide +kernel)) trivial ⟨rfl, by decide +kernel⟩ (by decide +kernel) rfl (fun x ad => Nat.le_of_ble_eq_true rfl) ?_ ?_
  · intro p e s m args below meth c A H0 ad0 n0 Q F hml hNw hA hX
    exact ⟨zco_VX hX hA F hml hNw (ctX7_join l hlt D cA) ⟨⟨zlL_join_30, zwX7_join.1.1, zwX7_join.1.2⟩, zwX7_join.2⟩ zdX7_join ⟨Nat.le_of_ble_eq_true rfl, Nat.le_of_ble_eq_true rfl⟩ (ci := 7) (by decide) rfl (by rintro av μ K ⟨x, rfl, rfl, -⟩; exact ⟨_, _, rfl, rfl⟩), trivial⟩
  · rintro ⟨k, a, b⟩ Ret hP hK Gl hG
    try dsimp only at hP hK
    show Gl 0 (zent 6 [.ref 0, .int k, .int a, .int b, .ref 143]) [] (0, 0) ((145, zSH, zRH, zs0, zt0))
    refine hG 100 _ _ _ _ _ ?_
    repeat (conv => whnf
            try dsimp only
            try simp (decide := true) only [zu_same, zu_ne1, zu_ne2, zuL_same, zuL_ne1, zuL_ne2, zrow_n1, zx0, zx1, zx2, zx3, zf_0_13, zf_0_14, zf_0_15, zf_1_3, zf_15_0, zf_16_0, zf_17_10, zf_86_3, zf_90_6, zf_90_7, zf_94_7, zf_100_6, zf_100_7, zf_118_0, zf_118_1, zf_118_2, zf_118_3, zg_119_0, zg_119_5, zg_119_9, zg_119_15, zg_119_19, zg_119_22, zg_119_1, zg_119_16, zg_120_0, zg_120_1, zg_120_2, zg_120_3, zg_121_0, zg_122_0, zg_124_0, zg_126_0, zg_127_0, zg_128_0, zg_129_0, zg_131_0, zg_131_1, zg_131_2, zg_131_3, Nat.reduceAdd, Nat.reduceMul, Int32.reduceAdd, Int32.reduceSub, Int32.reduceMul]
            first
            | refine ⟨vp_inb rfl, ?_⟩
            | refine ⟨fun h => absurd h (of_decide_eq_false rfl), fun _ => ?_⟩
            | refine ⟨fun _ => ?_, fun h => absurd (of_decide_eq_true rfl) h⟩
            | refine ⟨fun _ => ?_, fun h => absurd h (of_decide_eq_false rfl)⟩
            | refine ⟨fun h => absurd (of_decide_eq_true rfl) h, fun _ => ?_⟩
            | refine ⟨of_decide_eq_true rfl, ?_⟩
            | refine ⟨rfl, ?_⟩)
    try (conv => whnf)
    refine ⟨(k, a, b), rfl, rfl, trivial, ?_⟩
    try dsimp only
    repeat (conv => whnf
            try dsimp only
            try simp (decide := true) only [zu_same, zu_ne1, zu_ne2, zuL_same, zuL_ne1, zuL_ne2, zrow_n1, zx0, zx1, zx2, zx3, zf_0_13, zf_0_14, zf_0_15, zf_1_3, zf_15_0, zf_16_0, zf_17_10, zf_86_3, zf_90_6, zf_90_7, zf_94_7, zf_100_6, zf_100_7, zf_118_0, zf_118_1, zf_118_2, zf_118_3, zg_119_0, zg_119_5, zg_119_9, zg_119_15, zg_119_19, zg_119_22, zg_119_1, zg_119_16, zg_120_0, zg_120_1, zg_120_2, zg_120_3, zg_121_0, zg_122_0, zg_124_0, zg_126_0, zg_127_0, zg_128_0, zg_129_0, zg_131_0, zg_131_1, zg_131_2, zg_131_3, Nat.reduceAdd, Nat.reduceMul, Int32.reduceAdd, Int32.reduceSub, Int32.reduceMul]
            first
            | refine ⟨vp_inb rfl, ?_⟩
            | refine ⟨fun h => absurd h (of_decide_eq_false rfl), fun _ => ?_⟩
            | refine ⟨fun _ => ?_, fun h => absurd (of_decide_eq_true rfl) h⟩
            | refine ⟨fun _ => ?_, fun h => absurd h (of_decide_eq_false rfl)⟩
            | refine ⟨fun h => absurd (of_decide_eq_true rfl) h, fun _ => ?_⟩
            | refine ⟨of_decide_eq_true rfl, ?_⟩
            | refine ⟨rfl, ?_⟩)
    try (conv => whnf)
    exact hK _ _ ⟨rfl, zF0⟩
def spL_when : zSp := zDQ (X := Int32 × Int32 × Int32) (fun x => match x with | (a, b, c) => [.ref 0, .int a, .int b, .int c, .ref 143]) (fun x => match x with | (a, b, c) => (145, zSH, zRH, zs0, zt0)) (fun x => match x with | (a, b, c) => True) (fun x r9 μ9 => match x with | (a, b, c) => r9 = some (.int 1) ∧ ∃ σ1 τ1, μ9 = (145, zSH, zRH, zmx σ1, zmxL τ1 0))
abbrev rmL_when : Room := ({ frames := 8, cells := 8, slots := 48, locals := 125 } : Room)
set_option maxRecDepth 100000 in
set_option maxHeartbeats 4000000 in
theorem ctL_when (l : Launch) (hlt : l.stackTraces = false) (D : va_G) (cA : Nat → ClassId) : zCtW false l D cA yL_when cL_when 6 (some .int) zhL_when rmL_when spL_when := by
  refine zct_QK (zCL_when [(34, 0, 3, spX7_when, rmX7_when.cells, rmX7_when.slots)]) zpL_when [] (by decide +kernel) zkL_when (Or.inr (by decide +kernel)) trivial ⟨rfl, by decide +kernel⟩ (by decide +kernel) rfl (fun x ad => Nat.le_of_ble_eq_true rfl) ?_ ?_
  · intro p e s m args below meth c A H0 ad0 n0 Q F hml hNw hA hX
    exact ⟨zco_VX hX hA F hml hNw (ctX7_when l hlt D cA) ⟨⟨zlL_when_34, zwX7_when.1.1, zwX7_when.1.2⟩, zwX7_when.2⟩ zdX7_when ⟨Nat.le_of_ble_eq_true rfl, Nat.le_of_ble_eq_true rfl⟩ (ci := 7) (by decide) rfl (by rintro av μ K ⟨x, rfl, rfl, -⟩; exact ⟨_, _, rfl, rfl⟩), trivial⟩
  · rintro ⟨a, b, c⟩ Ret hP hK Gl hG
    try dsimp only at hP hK
    show Gl 0 (zent 6 [.ref 0, .int a, .int b, .int c, .ref 143]) [] (0, 0) ((145, zSH, zRH, zs0, zt0))
    refine hG 100 _ _ _ _ _ ?_
    repeat (conv => whnf
            try dsimp only
            try simp (decide := true) only [zu_same, zu_ne1, zu_ne2, zuL_same, zuL_ne1, zuL_ne2, zrow_n1, zx0, zx1, zx2, zx3, zf_0_13, zf_0_14, zf_0_15, zf_1_3, zf_15_0, zf_16_0, zf_17_10, zf_86_3, zf_90_6, zf_90_7, zf_94_7, zf_100_6, zf_100_7, zf_118_0, zf_118_1, zf_118_2, zf_118_3, zg_119_0, zg_119_5, zg_119_9, zg_119_15, zg_119_19, zg_119_22, zg_119_1, zg_119_16, zg_120_0, zg_120_1, zg_120_2, zg_120_3, zg_121_0, zg_122_0, zg_124_0, zg_126_0, zg_127_0, zg_128_0, zg_129_0, zg_131_0, zg_131_1, zg_131_2, zg_131_3, Nat.reduceAdd, Nat.reduceMul, Int32.reduceAdd, Int32.reduceSub, Int32.reduceMul]
            first
            | refine ⟨vp_inb rfl, ?_⟩
            | refine ⟨fun h => absurd h (of_decide_eq_false rfl), fun _ => ?_⟩
            | refine ⟨fun _ => ?_, fun h => absurd (of_decide_eq_true rfl) h⟩
            | refine ⟨fun _ => ?_, fun h => absurd h (of_decide_eq_false rfl)⟩
            | refine ⟨fun h => absurd (of_decide_eq_true rfl) h, fun _ => ?_⟩
            | refine ⟨of_decide_eq_true rfl, ?_⟩
            | refine ⟨rfl, ?_⟩)
    try (conv => whnf)
    refine ⟨(a, b, c), rfl, rfl, trivial, ?_⟩
    try dsimp only
    repeat (conv => whnf
            try dsimp only
            try simp (decide := true) only [zu_same, zu_ne1, zu_ne2, zuL_same, zuL_ne1, zuL_ne2, zrow_n1, zx0, zx1, zx2, zx3, zf_0_13, zf_0_14, zf_0_15, zf_1_3, zf_15_0, zf_16_0, zf_17_10, zf_86_3, zf_90_6, zf_90_7, zf_94_7, zf_100_6, zf_100_7, zf_118_0, zf_118_1, zf_118_2, zf_118_3, zg_119_0, zg_119_5, zg_119_9, zg_119_15, zg_119_19, zg_119_22, zg_119_1, zg_119_16, zg_120_0, zg_120_1, zg_120_2, zg_120_3, zg_121_0, zg_122_0, zg_124_0, zg_126_0, zg_127_0, zg_128_0, zg_129_0, zg_131_0, zg_131_1, zg_131_2, zg_131_3, Nat.reduceAdd, Nat.reduceMul, Int32.reduceAdd, Int32.reduceSub, Int32.reduceMul]
            first
            | refine ⟨vp_inb rfl, ?_⟩
            | refine ⟨fun h => absurd h (of_decide_eq_false rfl), fun _ => ?_⟩
            | refine ⟨fun _ => ?_, fun h => absurd (of_decide_eq_true rfl) h⟩
            | refine ⟨fun _ => ?_, fun h => absurd h (of_decide_eq_false rfl)⟩
            | refine ⟨fun h => absurd (of_decide_eq_true rfl) h, fun _ => ?_⟩
            | refine ⟨of_decide_eq_true rfl, ?_⟩
            | refine ⟨rfl, ?_⟩)
    try (conv => whnf)
    exact hK _ _ ⟨rfl, zF0⟩
def spL_root : zSp := zDQ (X := Int32) (fun x => match x with | a => [.ref 0, .int a, .ref 143]) (fun x => match x with | a => (145, zSH, zRH, zs0, zt0)) (fun x => match x with | a => True) (fun x r9 μ9 => match x with | a => r9 = some (.int 1) ∧ ∃ σ1 τ1, μ9 = (145, zSH, zRH, zmx σ1, zmxL τ1 0))
abbrev rmL_root : Room := ({ frames := 8, cells := 8, slots := 48, locals := 123 } : Room)
set_option maxRecDepth 100000 in
set_option maxHeartbeats 4000000 in
theorem ctL_root (l : Launch) (hlt : l.stackTraces = false) (D : va_G) (cA : Nat → ClassId) : zCtW false l D cA yL_root cL_root 4 (some .int) zhL_root rmL_root spL_root := by
  refine zct_QK (zCL_root [(37, 0, 1, spX7_root, rmX7_root.cells, rmX7_root.slots)]) zpL_root [] (by decide +kernel) zkL_root (Or.inr (by decide +kernel)) trivial ⟨rfl, by decide +kernel⟩ (by decide +kernel) rfl (fun x ad => Nat.le_of_ble_eq_true rfl) ?_ ?_
  · intro p e s m args below meth c A H0 ad0 n0 Q F hml hNw hA hX
    exact ⟨zco_VX hX hA F hml hNw (ctX7_root l hlt D cA) ⟨⟨zlL_root_37, zwX7_root.1.1, zwX7_root.1.2⟩, zwX7_root.2⟩ zdX7_root ⟨Nat.le_of_ble_eq_true rfl, Nat.le_of_ble_eq_true rfl⟩ (ci := 7) (by decide) rfl (by rintro av μ K ⟨x, rfl, rfl, -⟩; exact ⟨_, _, rfl, rfl⟩), trivial⟩
  · rintro a Ret hP hK Gl hG
    try dsimp only at hP hK
    show Gl 0 (zent 4 [.ref 0, .int a, .ref 143]) [] (0, 0) ((145, zSH, zRH, zs0, zt0))
    refine hG 100 _ _ _ _ _ ?_
    repeat (conv => whnf
            try dsimp only
            try simp (decide := true) only [zu_same, zu_ne1, zu_ne2, zuL_same, zuL_ne1, zuL_ne2, zrow_n1, zx0, zx1, zx2, zx3, zf_0_13, zf_0_14, zf_0_15, zf_1_3, zf_15_0, zf_16_0, zf_17_10, zf_86_3, zf_90_6, zf_90_7, zf_94_7, zf_100_6, zf_100_7, zf_118_0, zf_118_1, zf_118_2, zf_118_3, zg_119_0, zg_119_5, zg_119_9, zg_119_15, zg_119_19, zg_119_22, zg_119_1, zg_119_16, zg_120_0, zg_120_1, zg_120_2, zg_120_3, zg_121_0, zg_122_0, zg_124_0, zg_126_0, zg_127_0, zg_128_0, zg_129_0, zg_131_0, zg_131_1, zg_131_2, zg_131_3, Nat.reduceAdd, Nat.reduceMul, Int32.reduceAdd, Int32.reduceSub, Int32.reduceMul]
            first
            | refine ⟨vp_inb rfl, ?_⟩
            | refine ⟨fun h => absurd h (of_decide_eq_false rfl), fun _ => ?_⟩
            | refine ⟨fun _ => ?_, fun h => absurd (of_decide_eq_true rfl) h⟩
            | refine ⟨fun _ => ?_, fun h => absurd h (of_decide_eq_false rfl)⟩
            | refine ⟨fun h => absurd (of_decide_eq_true rfl) h, fun _ => ?_⟩
            | refine ⟨of_decide_eq_true rfl, ?_⟩
            | refine ⟨rfl, ?_⟩)
    try (conv => whnf)
    refine ⟨a, rfl, rfl, trivial, ?_⟩
    try dsimp only
    repeat (conv => whnf
            try dsimp only
            try simp (decide := true) only [zu_same, zu_ne1, zu_ne2, zuL_same, zuL_ne1, zuL_ne2, zrow_n1, zx0, zx1, zx2, zx3, zf_0_13, zf_0_14, zf_0_15, zf_1_3, zf_15_0, zf_16_0, zf_17_10, zf_86_3, zf_90_6, zf_90_7, zf_94_7, zf_100_6, zf_100_7, zf_118_0, zf_118_1, zf_118_2, zf_118_3, zg_119_0, zg_119_5, zg_119_9, zg_119_15, zg_119_19, zg_119_22, zg_119_1, zg_119_16, zg_120_0, zg_120_1, zg_120_2, zg_120_3, zg_121_0, zg_122_0, zg_124_0, zg_126_0, zg_127_0, zg_128_0, zg_129_0, zg_131_0, zg_131_1, zg_131_2, zg_131_3, Nat.reduceAdd, Nat.reduceMul, Int32.reduceAdd, Int32.reduceSub, Int32.reduceMul]
            first
            | refine ⟨vp_inb rfl, ?_⟩
            | refine ⟨fun h => absurd h (of_decide_eq_false rfl), fun _ => ?_⟩
            | refine ⟨fun _ => ?_, fun h => absurd (of_decide_eq_true rfl) h⟩
            | refine ⟨fun _ => ?_, fun h => absurd h (of_decide_eq_false rfl)⟩
            | refine ⟨fun h => absurd (of_decide_eq_true rfl) h, fun _ => ?_⟩
            | refine ⟨of_decide_eq_true rfl, ?_⟩
            | refine ⟨rfl, ?_⟩)
    try (conv => whnf)
    exact hK _ _ ⟨rfl, zF0⟩
def spL_exponent : zSp := zDQ (X := Int32 × Int32) (fun x => match x with | (p, d) => [.ref 0, .int p, .int d, .ref 143]) (fun x => match x with | (p, d) => (145, zSH, zRH, zs0, zt0)) (fun x => match x with | (p, d) => True) (fun x r9 μ9 => match x with | (p, d) => r9 = some (.int 1) ∧ ∃ σ1 τ1, μ9 = (145, zSH, zRH, zmx σ1, zmxL τ1 0))
abbrev rmL_exponent : Room := ({ frames := 8, cells := 8, slots := 48, locals := 124 } : Room)
set_option maxRecDepth 100000 in
set_option maxHeartbeats 4000000 in
theorem ctL_exponent (l : Launch) (hlt : l.stackTraces = false) (D : va_G) (cA : Nat → ClassId) : zCtW false l D cA yL_exponent cL_exponent 5 (some .int) zhL_exponent rmL_exponent spL_exponent := by
  refine zct_QK (zCL_exponent [(49, 0, 2, spX7_exponent, rmX7_exponent.cells, rmX7_exponent.slots)]) zpL_exponent [] (by decide +kernel) zkL_exponent (Or.inr (by decide +kernel)) trivial ⟨rfl, by decide +kernel⟩ (by decide +kernel) rfl (fun x ad => Nat.le_of_ble_eq_true rfl) ?_ ?_
  · intro p e s m args below meth c A H0 ad0 n0 Q F hml hNw hA hX
    exact ⟨zco_VX hX hA F hml hNw (ctX7_exponent l hlt D cA) ⟨⟨zlL_exponent_49, zwX7_exponent.1.1, zwX7_exponent.1.2⟩, zwX7_exponent.2⟩ zdX7_exponent ⟨Nat.le_of_ble_eq_true rfl, Nat.le_of_ble_eq_true rfl⟩ (ci := 7) (by decide) rfl (by rintro av μ K ⟨x, rfl, rfl, -⟩; exact ⟨_, _, rfl, rfl⟩), trivial⟩
  · rintro ⟨p, d⟩ Ret hP hK Gl hG
    try dsimp only at hP hK
    show Gl 0 (zent 5 [.ref 0, .int p, .int d, .ref 143]) [] (0, 0) ((145, zSH, zRH, zs0, zt0))
    refine hG 100 _ _ _ _ _ ?_
    repeat (conv => whnf
            try dsimp only
            try simp (decide := true) only [zu_same, zu_ne1, zu_ne2, zuL_same, zuL_ne1, zuL_ne2, zrow_n1, zx0, zx1, zx2, zx3, zf_0_13, zf_0_14, zf_0_15, zf_1_3, zf_15_0, zf_16_0, zf_17_10, zf_86_3, zf_90_6, zf_90_7, zf_94_7, zf_100_6, zf_100_7, zf_118_0, zf_118_1, zf_118_2, zf_118_3, zg_119_0, zg_119_5, zg_119_9, zg_119_15, zg_119_19, zg_119_22, zg_119_1, zg_119_16, zg_120_0, zg_120_1, zg_120_2, zg_120_3, zg_121_0, zg_122_0, zg_124_0, zg_126_0, zg_127_0, zg_128_0, zg_129_0, zg_131_0, zg_131_1, zg_131_2, zg_131_3, Nat.reduceAdd, Nat.reduceMul, Int32.reduceAdd, Int32.reduceSub, Int32.reduceMul]
            first
            | refine ⟨vp_inb rfl, ?_⟩
            | refine ⟨fun h => absurd h (of_decide_eq_false rfl), fun _ => ?_⟩
            | refine ⟨fun _ => ?_, fun h => absurd (of_decide_eq_true rfl) h⟩
            | refine ⟨fun _ => ?_, fun h => absurd h (of_decide_eq_false rfl)⟩
            | refine ⟨fun h => absurd (of_decide_eq_true rfl) h, fun _ => ?_⟩
            | refine ⟨of_decide_eq_true rfl, ?_⟩
            | refine ⟨rfl, ?_⟩)
    try (conv => whnf)
    refine ⟨(p, d), rfl, rfl, trivial, ?_⟩
    try dsimp only
    repeat (conv => whnf
            try dsimp only
            try simp (decide := true) only [zu_same, zu_ne1, zu_ne2, zuL_same, zuL_ne1, zuL_ne2, zrow_n1, zx0, zx1, zx2, zx3, zf_0_13, zf_0_14, zf_0_15, zf_1_3, zf_15_0, zf_16_0, zf_17_10, zf_86_3, zf_90_6, zf_90_7, zf_94_7, zf_100_6, zf_100_7, zf_118_0, zf_118_1, zf_118_2, zf_118_3, zg_119_0, zg_119_5, zg_119_9, zg_119_15, zg_119_19, zg_119_22, zg_119_1, zg_119_16, zg_120_0, zg_120_1, zg_120_2, zg_120_3, zg_121_0, zg_122_0, zg_124_0, zg_126_0, zg_127_0, zg_128_0, zg_129_0, zg_131_0, zg_131_1, zg_131_2, zg_131_3, Nat.reduceAdd, Nat.reduceMul, Int32.reduceAdd, Int32.reduceSub, Int32.reduceMul]
            first
            | refine ⟨vp_inb rfl, ?_⟩
            | refine ⟨fun h => absurd h (of_decide_eq_false rfl), fun _ => ?_⟩
            | refine ⟨fun _ => ?_, fun h => absurd (of_decide_eq_true rfl) h⟩
            | refine ⟨fun _ => ?_, fun h => absurd h (of_decide_eq_false rfl)⟩
            | refine ⟨fun h => absurd (of_decide_eq_true rfl) h, fun _ => ?_⟩
            | refine ⟨of_decide_eq_true rfl, ?_⟩
            | refine ⟨rfl, ?_⟩)
    try (conv => whnf)
    exact hK _ _ ⟨rfl, zF0⟩
def spL_worth : zSp := zDQ (X := Int32) (fun x => match x with | p => [.ref 0, .int p, .ref 143]) (fun x => match x with | p => (145, zSH, zRH, zs0, zt0)) (fun x => match x with | p => True) (fun x r9 μ9 => match x with | p => r9 = some (.int 1) ∧ ∃ σ1 τ1, μ9 = (145, zSH, zRH, zmx σ1, zmxL τ1 0))
abbrev rmL_worth : Room := ({ frames := 8, cells := 8, slots := 48, locals := 123 } : Room)
set_option maxRecDepth 100000 in
set_option maxHeartbeats 4000000 in
theorem ctL_worth (l : Launch) (hlt : l.stackTraces = false) (D : va_G) (cA : Nat → ClassId) : zCtW false l D cA yL_worth cL_worth 4 (some .int) zhL_worth rmL_worth spL_worth := by
  refine zct_QK (zCL_worth [(71, 0, 1, spX7_worth, rmX7_worth.cells, rmX7_worth.slots)]) zpL_worth [] (by decide +kernel) zkL_worth (Or.inr (by decide +kernel)) trivial ⟨rfl, by decide +kernel⟩ (by decide +kernel) rfl (fun x ad => Nat.le_of_ble_eq_true rfl) ?_ ?_
  · intro p e s m args below meth c A H0 ad0 n0 Q F hml hNw hA hX
    exact ⟨zco_VX hX hA F hml hNw (ctX7_worth l hlt D cA) ⟨⟨zlL_worth_71, zwX7_worth.1.1, zwX7_worth.1.2⟩, zwX7_worth.2⟩ zdX7_worth ⟨Nat.le_of_ble_eq_true rfl, Nat.le_of_ble_eq_true rfl⟩ (ci := 7) (by decide) rfl (by rintro av μ K ⟨x, rfl, rfl, -⟩; exact ⟨_, _, rfl, rfl⟩), trivial⟩
  · rintro p Ret hP hK Gl hG
    try dsimp only at hP hK
    show Gl 0 (zent 4 [.ref 0, .int p, .ref 143]) [] (0, 0) ((145, zSH, zRH, zs0, zt0))
    refine hG 100 _ _ _ _ _ ?_
    repeat (conv => whnf
            try dsimp only
            try simp (decide := true) only [zu_same, zu_ne1, zu_ne2, zuL_same, zuL_ne1, zuL_ne2, zrow_n1, zx0, zx1, zx2, zx3, zf_0_13, zf_0_14, zf_0_15, zf_1_3, zf_15_0, zf_16_0, zf_17_10, zf_86_3, zf_90_6, zf_90_7, zf_94_7, zf_100_6, zf_100_7, zf_118_0, zf_118_1, zf_118_2, zf_118_3, zg_119_0, zg_119_5, zg_119_9, zg_119_15, zg_119_19, zg_119_22, zg_119_1, zg_119_16, zg_120_0, zg_120_1, zg_120_2, zg_120_3, zg_121_0, zg_122_0, zg_124_0, zg_126_0, zg_127_0, zg_128_0, zg_129_0, zg_131_0, zg_131_1, zg_131_2, zg_131_3, Nat.reduceAdd, Nat.reduceMul, Int32.reduceAdd, Int32.reduceSub, Int32.reduceMul]
            first
            | refine ⟨vp_inb rfl, ?_⟩
            | refine ⟨fun h => absurd h (of_decide_eq_false rfl), fun _ => ?_⟩
            | refine ⟨fun _ => ?_, fun h => absurd (of_decide_eq_true rfl) h⟩
            | refine ⟨fun _ => ?_, fun h => absurd h (of_decide_eq_false rfl)⟩
            | refine ⟨fun h => absurd (of_decide_eq_true rfl) h, fun _ => ?_⟩
            | refine ⟨of_decide_eq_true rfl, ?_⟩
            | refine ⟨rfl, ?_⟩)
    try (conv => whnf)
    refine ⟨p, rfl, rfl, trivial, ?_⟩
    try dsimp only
    repeat (conv => whnf
            try dsimp only
            try simp (decide := true) only [zu_same, zu_ne1, zu_ne2, zuL_same, zuL_ne1, zuL_ne2, zrow_n1, zx0, zx1, zx2, zx3, zf_0_13, zf_0_14, zf_0_15, zf_1_3, zf_15_0, zf_16_0, zf_17_10, zf_86_3, zf_90_6, zf_90_7, zf_94_7, zf_100_6, zf_100_7, zf_118_0, zf_118_1, zf_118_2, zf_118_3, zg_119_0, zg_119_5, zg_119_9, zg_119_15, zg_119_19, zg_119_22, zg_119_1, zg_119_16, zg_120_0, zg_120_1, zg_120_2, zg_120_3, zg_121_0, zg_122_0, zg_124_0, zg_126_0, zg_127_0, zg_128_0, zg_129_0, zg_131_0, zg_131_1, zg_131_2, zg_131_3, Nat.reduceAdd, Nat.reduceMul, Int32.reduceAdd, Int32.reduceSub, Int32.reduceMul]
            first
            | refine ⟨vp_inb rfl, ?_⟩
            | refine ⟨fun h => absurd h (of_decide_eq_false rfl), fun _ => ?_⟩
            | refine ⟨fun _ => ?_, fun h => absurd (of_decide_eq_true rfl) h⟩
            | refine ⟨fun _ => ?_, fun h => absurd h (of_decide_eq_false rfl)⟩
            | refine ⟨fun h => absurd (of_decide_eq_true rfl) h, fun _ => ?_⟩
            | refine ⟨of_decide_eq_true rfl, ?_⟩
            | refine ⟨rfl, ?_⟩)
    try (conv => whnf)
    exact hK _ _ ⟨rfl, zF0⟩
def spL_amountOf : zSp := zDQ (X := Int32 × Int32) (fun x => match x with | (q, v) => [.ref 0, .int q, .int v, .ref 143]) (fun x => match x with | (q, v) => (145, zSH, zRH, zs0, zt0)) (fun x => match x with | (q, v) => True) (fun x r9 μ9 => match x with | (q, v) => r9 = some (.int 1) ∧ ∃ σ1 τ1, μ9 = (145, zSH, zRH, zmx σ1, zmxL τ1 0))
abbrev rmL_amountOf : Room := ({ frames := 8, cells := 8, slots := 48, locals := 124 } : Room)
set_option maxRecDepth 100000 in
set_option maxHeartbeats 4000000 in
theorem ctL_amountOf (l : Launch) (hlt : l.stackTraces = false) (D : va_G) (cA : Nat → ClassId) : zCtW false l D cA yL_amountOf cL_amountOf 5 (some .int) zhL_amountOf rmL_amountOf spL_amountOf := by
  refine zct_QK (zCL_amountOf [(100, 0, 2, spX7_amountOf, rmX7_amountOf.cells, rmX7_amountOf.slots)]) zpL_amountOf [] (by decide +kernel) zkL_amountOf (Or.inr (by decide +kernel)) trivial ⟨rfl, by decide +kernel⟩ (by decide +kernel) rfl (fun x ad => Nat.le_of_ble_eq_true rfl) ?_ ?_
  · intro p e s m args below meth c A H0 ad0 n0 Q F hml hNw hA hX
    exact ⟨zco_VX hX hA F hml hNw (ctX7_amountOf l hlt D cA) ⟨⟨zlL_amountOf_100, zwX7_amountOf.1.1, zwX7_amountOf.1.2⟩, zwX7_amountOf.2⟩ zdX7_amountOf ⟨Nat.le_of_ble_eq_true rfl, Nat.le_of_ble_eq_true rfl⟩ (ci := 7) (by decide) rfl (by rintro av μ K ⟨x, rfl, rfl, -⟩; exact ⟨_, _, rfl, rfl⟩), trivial⟩
  · rintro ⟨q, v⟩ Ret hP hK Gl hG
    try dsimp only at hP hK
    show Gl 0 (zent 5 [.ref 0, .int q, .int v, .ref 143]) [] (0, 0) ((145, zSH, zRH, zs0, zt0))
    refine hG 100 _ _ _ _ _ ?_
    repeat (conv => whnf
            try dsimp only
            try simp (decide := true) only [zu_same, zu_ne1, zu_ne2, zuL_same, zuL_ne1, zuL_ne2, zrow_n1, zx0, zx1, zx2, zx3, zf_0_13, zf_0_14, zf_0_15, zf_1_3, zf_15_0, zf_16_0, zf_17_10, zf_86_3, zf_90_6, zf_90_7, zf_94_7, zf_100_6, zf_100_7, zf_118_0, zf_118_1, zf_118_2, zf_118_3, zg_119_0, zg_119_5, zg_119_9, zg_119_15, zg_119_19, zg_119_22, zg_119_1, zg_119_16, zg_120_0, zg_120_1, zg_120_2, zg_120_3, zg_121_0, zg_122_0, zg_124_0, zg_126_0, zg_127_0, zg_128_0, zg_129_0, zg_131_0, zg_131_1, zg_131_2, zg_131_3, Nat.reduceAdd, Nat.reduceMul, Int32.reduceAdd, Int32.reduceSub, Int32.reduceMul]
            first
            | refine ⟨vp_inb rfl, ?_⟩
            | refine ⟨fun h => absurd h (of_decide_eq_false rfl), fun _ => ?_⟩
            | refine ⟨fun _ => ?_, fun h => absurd (of_decide_eq_true rfl) h⟩
            | refine ⟨fun _ => ?_, fun h => absurd h (of_decide_eq_false rfl)⟩
            | refine ⟨fun h => absurd (of_decide_eq_true rfl) h, fun _ => ?_⟩
            | refine ⟨of_decide_eq_true rfl, ?_⟩
            | refine ⟨rfl, ?_⟩)
    try (conv => whnf)
    refine ⟨(q, v), rfl, rfl, trivial, ?_⟩
    try dsimp only
    repeat (conv => whnf
            try dsimp only
            try simp (decide := true) only [zu_same, zu_ne1, zu_ne2, zuL_same, zuL_ne1, zuL_ne2, zrow_n1, zx0, zx1, zx2, zx3, zf_0_13, zf_0_14, zf_0_15, zf_1_3, zf_15_0, zf_16_0, zf_17_10, zf_86_3, zf_90_6, zf_90_7, zf_94_7, zf_100_6, zf_100_7, zf_118_0, zf_118_1, zf_118_2, zf_118_3, zg_119_0, zg_119_5, zg_119_9, zg_119_15, zg_119_19, zg_119_22, zg_119_1, zg_119_16, zg_120_0, zg_120_1, zg_120_2, zg_120_3, zg_121_0, zg_122_0, zg_124_0, zg_126_0, zg_127_0, zg_128_0, zg_129_0, zg_131_0, zg_131_1, zg_131_2, zg_131_3, Nat.reduceAdd, Nat.reduceMul, Int32.reduceAdd, Int32.reduceSub, Int32.reduceMul]
            first
            | refine ⟨vp_inb rfl, ?_⟩
            | refine ⟨fun h => absurd h (of_decide_eq_false rfl), fun _ => ?_⟩
            | refine ⟨fun _ => ?_, fun h => absurd (of_decide_eq_true rfl) h⟩
            | refine ⟨fun _ => ?_, fun h => absurd h (of_decide_eq_false rfl)⟩
            | refine ⟨fun h => absurd (of_decide_eq_true rfl) h, fun _ => ?_⟩
            | refine ⟨of_decide_eq_true rfl, ?_⟩
            | refine ⟨rfl, ?_⟩)
    try (conv => whnf)
    exact hK _ _ ⟨rfl, zF0⟩
def spL_ofFault : zSp := zDQ (X := Int32 × Int32) (fun x => match x with | (a, b) => [.ref 0, .int a, .int b, .ref 143]) (fun x => match x with | (a, b) => (145, zSH, zRH, zs0, zt0)) (fun x => match x with | (a, b) => True) (fun x r9 μ9 => match x with | (a, b) => r9 = some (.int 1) ∧ ∃ σ1 τ1, μ9 = (145, zSH, zRH, zmx σ1, zmxL τ1 0))
abbrev rmL_ofFault : Room := ({ frames := 7, cells := 8, slots := 48, locals := 103 } : Room)
set_option maxRecDepth 100000 in
set_option maxHeartbeats 4000000 in
theorem ctL_ofFault (l : Launch) (hlt : l.stackTraces = false) (D : va_G) (cA : Nat → ClassId) : zCtW false l D cA yL_ofFault cL_ofFault 5 (some .int) zhL_ofFault rmL_ofFault spL_ofFault := by
  refine zct_QK (zCL_ofFault [(52, 0, 2, spX7_ofFault, rmX7_ofFault.cells, rmX7_ofFault.slots)]) zpL_ofFault [] (by decide +kernel) zkL_ofFault (Or.inr (by decide +kernel)) trivial ⟨rfl, by decide +kernel⟩ (by decide +kernel) rfl (fun x ad => Nat.le_of_ble_eq_true rfl) ?_ ?_
  · intro p e s m args below meth c A H0 ad0 n0 Q F hml hNw hA hX
    exact ⟨zco_VX hX hA F hml hNw (ctX7_ofFault l hlt D cA) ⟨⟨zlL_ofFault_52, zwX7_ofFault.1.1, zwX7_ofFault.1.2⟩, zwX7_ofFault.2⟩ zdX7_ofFault ⟨Nat.le_of_ble_eq_true rfl, Nat.le_of_ble_eq_true rfl⟩ (ci := 7) (by decide) rfl (by rintro av μ K ⟨x, rfl, rfl, -⟩; exact ⟨_, _, rfl, rfl⟩), trivial⟩
  · rintro ⟨a, b⟩ Ret hP hK Gl hG
    try dsimp only at hP hK
    show Gl 0 (zent 5 [.ref 0, .int a, .int b, .ref 143]) [] (0, 0) ((145, zSH, zRH, zs0, zt0))
    refine hG 100 _ _ _ _ _ ?_
    repeat (conv => whnf
            try dsimp only
            try simp (decide := true) only [zu_same, zu_ne1, zu_ne2, zuL_same, zuL_ne1, zuL_ne2, zrow_n1, zx0, zx1, zx2, zx3, zf_0_13, zf_0_14, zf_0_15, zf_1_3, zf_15_0, zf_16_0, zf_17_10, zf_86_3, zf_90_6, zf_90_7, zf_94_7, zf_100_6, zf_100_7, zf_118_0, zf_118_1, zf_118_2, zf_118_3, zg_119_0, zg_119_5, zg_119_9, zg_119_15, zg_119_19, zg_119_22, zg_119_1, zg_119_16, zg_120_0, zg_120_1, zg_120_2, zg_120_3, zg_121_0, zg_122_0, zg_124_0, zg_126_0, zg_127_0, zg_128_0, zg_129_0, zg_131_0, zg_131_1, zg_131_2, zg_131_3, Nat.reduceAdd, Nat.reduceMul, Int32.reduceAdd, Int32.reduceSub, Int32.reduceMul]
            first
            | refine ⟨vp_inb rfl, ?_⟩
            | refine ⟨fun h => absurd h (of_decide_eq_false rfl), fun _ => ?_⟩
            | refine ⟨fun _ => ?_, fun h => absurd (of_decide_eq_true rfl) h⟩
            | refine ⟨fun _ => ?_, fun h => absurd h (of_decide_eq_false rfl)⟩
            | refine ⟨fun h => absurd (of_decide_eq_true rfl) h, fun _ => ?_⟩
            | refine ⟨of_decide_eq_true rfl, ?_⟩
            | refine ⟨rfl, ?_⟩)
    try (conv => whnf)
    refine ⟨(a, b), rfl, rfl, trivial, ?_⟩
    try dsimp only
    rintro _ _ ⟨rfl, σ1, τ1, rfl⟩
    repeat (conv => whnf
            try dsimp only
            try simp (decide := true) only [zu_same, zu_ne1, zu_ne2, zuL_same, zuL_ne1, zuL_ne2, zrow_n1, zx0, zx1, zx2, zx3, zf_0_13, zf_0_14, zf_0_15, zf_1_3, zf_15_0, zf_16_0, zf_17_10, zf_86_3, zf_90_6, zf_90_7, zf_94_7, zf_100_6, zf_100_7, zf_118_0, zf_118_1, zf_118_2, zf_118_3, zg_119_0, zg_119_5, zg_119_9, zg_119_15, zg_119_19, zg_119_22, zg_119_1, zg_119_16, zg_120_0, zg_120_1, zg_120_2, zg_120_3, zg_121_0, zg_122_0, zg_124_0, zg_126_0, zg_127_0, zg_128_0, zg_129_0, zg_131_0, zg_131_1, zg_131_2, zg_131_3, Nat.reduceAdd, Nat.reduceMul, Int32.reduceAdd, Int32.reduceSub, Int32.reduceMul]
            first
            | refine ⟨vp_inb rfl, ?_⟩
            | refine ⟨fun h => absurd h (of_decide_eq_false rfl), fun _ => ?_⟩
            | refine ⟨fun _ => ?_, fun h => absurd (of_decide_eq_true rfl) h⟩
            | refine ⟨fun _ => ?_, fun h => absurd h (of_decide_eq_false rfl)⟩
            | refine ⟨fun h => absurd (of_decide_eq_true rfl) h, fun _ => ?_⟩
            | refine ⟨of_decide_eq_true rfl, ?_⟩
            | refine ⟨rfl, ?_⟩)
    try (conv => whnf)
    exact hK _ _ ⟨rfl, _, _, rfl⟩
def spL_circle : zSp := zDQ (X := Int32 × Int32) (fun x => match x with | (a, b) => [.ref 0, .int a, .int b, .ref 143]) (fun x => match x with | (a, b) => (145, zSH, zRH, zs0, zt0)) (fun x => match x with | (a, b) => True) (fun x r9 μ9 => match x with | (a, b) => r9 = some (.int 1) ∧ ∃ σ1 τ1, μ9 = (145, zSH, zRH, zmx σ1, zmxL τ1 0))
abbrev rmL_circle : Room := ({ frames := 7, cells := 8, slots := 48, locals := 103 } : Room)
set_option maxRecDepth 100000 in
set_option maxHeartbeats 4000000 in
theorem ctL_circle (l : Launch) (hlt : l.stackTraces = false) (D : va_G) (cA : Nat → ClassId) : zCtW false l D cA yL_circle cL_circle 5 (some .int) zhL_circle rmL_circle spL_circle := by
  refine zct_QK (zCL_circle [(58, 0, 2, spX7_circle, rmX7_circle.cells, rmX7_circle.slots)]) zpL_circle [] (by decide +kernel) zkL_circle (Or.inr (by decide +kernel)) trivial ⟨rfl, by decide +kernel⟩ (by decide +kernel) rfl (fun x ad => Nat.le_of_ble_eq_true rfl) ?_ ?_
  · intro p e s m args below meth c A H0 ad0 n0 Q F hml hNw hA hX
    exact ⟨zco_VX hX hA F hml hNw (ctX7_circle l hlt D cA) ⟨⟨zlL_circle_58, zwX7_circle.1.1, zwX7_circle.1.2⟩, zwX7_circle.2⟩ zdX7_circle ⟨Nat.le_of_ble_eq_true rfl, Nat.le_of_ble_eq_true rfl⟩ (ci := 7) (by decide) rfl (by rintro av μ K ⟨x, rfl, rfl, -⟩; exact ⟨_, _, rfl, rfl⟩), trivial⟩
  · rintro ⟨a, b⟩ Ret hP hK Gl hG
    try dsimp only at hP hK
    show Gl 0 (zent 5 [.ref 0, .int a, .int b, .ref 143]) [] (0, 0) ((145, zSH, zRH, zs0, zt0))
    refine hG 100 _ _ _ _ _ ?_
    repeat (conv => whnf
            try dsimp only
            try simp (decide := true) only [zu_same, zu_ne1, zu_ne2, zuL_same, zuL_ne1, zuL_ne2, zrow_n1, zx0, zx1, zx2, zx3, zf_0_13, zf_0_14, zf_0_15, zf_1_3, zf_15_0, zf_16_0, zf_17_10, zf_86_3, zf_90_6, zf_90_7, zf_94_7, zf_100_6, zf_100_7, zf_118_0, zf_118_1, zf_118_2, zf_118_3, zg_119_0, zg_119_5, zg_119_9, zg_119_15, zg_119_19, zg_119_22, zg_119_1, zg_119_16, zg_120_0, zg_120_1, zg_120_2, zg_120_3, zg_121_0, zg_122_0, zg_124_0, zg_126_0, zg_127_0, zg_128_0, zg_129_0, zg_131_0, zg_131_1, zg_131_2, zg_131_3, Nat.reduceAdd, Nat.reduceMul, Int32.reduceAdd, Int32.reduceSub, Int32.reduceMul]
            first
            | refine ⟨vp_inb rfl, ?_⟩
            | refine ⟨fun h => absurd h (of_decide_eq_false rfl), fun _ => ?_⟩
            | refine ⟨fun _ => ?_, fun h => absurd (of_decide_eq_true rfl) h⟩
            | refine ⟨fun _ => ?_, fun h => absurd h (of_decide_eq_false rfl)⟩
            | refine ⟨fun h => absurd (of_decide_eq_true rfl) h, fun _ => ?_⟩
            | refine ⟨of_decide_eq_true rfl, ?_⟩
            | refine ⟨rfl, ?_⟩)
    try (conv => whnf)
    refine ⟨(a, b), rfl, rfl, trivial, ?_⟩
    try dsimp only
    rintro _ _ ⟨rfl, σ1, τ1, rfl⟩
    repeat (conv => whnf
            try dsimp only
            try simp (decide := true) only [zu_same, zu_ne1, zu_ne2, zuL_same, zuL_ne1, zuL_ne2, zrow_n1, zx0, zx1, zx2, zx3, zf_0_13, zf_0_14, zf_0_15, zf_1_3, zf_15_0, zf_16_0, zf_17_10, zf_86_3, zf_90_6, zf_90_7, zf_94_7, zf_100_6, zf_100_7, zf_118_0, zf_118_1, zf_118_2, zf_118_3, zg_119_0, zg_119_5, zg_119_9, zg_119_15, zg_119_19, zg_119_22, zg_119_1, zg_119_16, zg_120_0, zg_120_1, zg_120_2, zg_120_3, zg_121_0, zg_122_0, zg_124_0, zg_126_0, zg_127_0, zg_128_0, zg_129_0, zg_131_0, zg_131_1, zg_131_2, zg_131_3, Nat.reduceAdd, Nat.reduceMul, Int32.reduceAdd, Int32.reduceSub, Int32.reduceMul]
            first
            | refine ⟨vp_inb rfl, ?_⟩
            | refine ⟨fun h => absurd h (of_decide_eq_false rfl), fun _ => ?_⟩
            | refine ⟨fun _ => ?_, fun h => absurd (of_decide_eq_true rfl) h⟩
            | refine ⟨fun _ => ?_, fun h => absurd h (of_decide_eq_false rfl)⟩
            | refine ⟨fun h => absurd (of_decide_eq_true rfl) h, fun _ => ?_⟩
            | refine ⟨of_decide_eq_true rfl, ?_⟩
            | refine ⟨rfl, ?_⟩)
    try (conv => whnf)
    exact hK _ _ ⟨rfl, _, _, rfl⟩
def spL_unit : zSp := zDQ (X := Int32 × Int32 × Int32 × Int32 × Int32 × Int32) (fun x => match x with | (a, b, c, d, p, q) => [.ref 0, .int a, .int b, .int c, .int d, .int p, .int q, .ref 143]) (fun x => match x with | (a, b, c, d, p, q) => (145, zSH, zRH, zs0, zt0)) (fun x => match x with | (a, b, c, d, p, q) => True) (fun x r9 μ9 => match x with | (a, b, c, d, p, q) => r9 = some (.int (if (-3 ≤ a ∧ a ≤ 3) ∧ (-3 ≤ b ∧ b ≤ 3) ∧ (-3 ≤ c ∧ c ≤ 3) ∧ (-3 ≤ d ∧ d ≤ 3) ∧ (1 ≤ p ∧ p ≤ 100000) ∧ (1 ≤ q ∧ q ≤ 100000) then 0 else 1)) ∧ ∃ σ1 τ1, μ9 = (145, zSH, zRH, zmx σ1, zmxL τ1 (if (-3 ≤ a ∧ a ≤ 3) ∧ (-3 ≤ b ∧ b ≤ 3) ∧ (-3 ≤ c ∧ c ≤ 3) ∧ (-3 ≤ d ∧ d ≤ 3) ∧ (1 ≤ p ∧ p ≤ 100000) ∧ (1 ≤ q ∧ q ≤ 100000) then 1 else 0)))
abbrev rmL_unit : Room := ({ frames := 7, cells := 8, slots := 48, locals := 107 } : Room)
set_option maxRecDepth 100000 in
set_option maxHeartbeats 4000000 in
theorem ctL_unit (l : Launch) (hlt : l.stackTraces = false) (D : va_G) (cA : Nat → ClassId) : zCtW false l D cA yL_unit cL_unit 9 (some .int) zhL_unit rmL_unit spL_unit := by
  refine zct_QK (zCL_unit [(7, 0, 6, spX7_unit, rmX7_unit.cells, rmX7_unit.slots)]) zpL_unit [] (by decide +kernel) zkL_unit (Or.inr (by decide +kernel)) trivial ⟨rfl, by decide +kernel⟩ (by decide +kernel) rfl (fun x ad => Nat.le_of_ble_eq_true rfl) ?_ ?_
  · intro p e s m args below meth c A H0 ad0 n0 Q F hml hNw hA hX
    exact ⟨zco_VX hX hA F hml hNw (ctX7_unit l hlt D cA) ⟨⟨zlL_unit_7, zwX7_unit.1.1, zwX7_unit.1.2⟩, zwX7_unit.2⟩ zdX7_unit ⟨Nat.le_of_ble_eq_true rfl, Nat.le_of_ble_eq_true rfl⟩ (ci := 7) (by decide) rfl (by rintro av μ K ⟨x, rfl, rfl, -⟩; exact ⟨_, _, rfl, rfl⟩), trivial⟩
  · rintro ⟨a, b, c, d, p, q⟩ Ret hP hK Gl hG
    try dsimp only at hP hK
    show Gl 0 (zent 9 [.ref 0, .int a, .int b, .int c, .int d, .int p, .int q, .ref 143]) [] (0, 0) ((145, zSH, zRH, zs0, zt0))
    refine hG 100 _ _ _ _ _ ?_
    repeat (conv => whnf
            try dsimp only
            try simp (decide := true) only [zu_same, zu_ne1, zu_ne2, zuL_same, zuL_ne1, zuL_ne2, zrow_n1, zx0, zx1, zx2, zx3, zf_0_13, zf_0_14, zf_0_15, zf_1_3, zf_15_0, zf_16_0, zf_17_10, zf_86_3, zf_90_6, zf_90_7, zf_94_7, zf_100_6, zf_100_7, zf_118_0, zf_118_1, zf_118_2, zf_118_3, zg_119_0, zg_119_5, zg_119_9, zg_119_15, zg_119_19, zg_119_22, zg_119_1, zg_119_16, zg_120_0, zg_120_1, zg_120_2, zg_120_3, zg_121_0, zg_122_0, zg_124_0, zg_126_0, zg_127_0, zg_128_0, zg_129_0, zg_131_0, zg_131_1, zg_131_2, zg_131_3, Nat.reduceAdd, Nat.reduceMul, Int32.reduceAdd, Int32.reduceSub, Int32.reduceMul]
            first
            | refine ⟨vp_inb rfl, ?_⟩
            | refine ⟨fun h => absurd h (of_decide_eq_false rfl), fun _ => ?_⟩
            | refine ⟨fun _ => ?_, fun h => absurd (of_decide_eq_true rfl) h⟩
            | refine ⟨fun _ => ?_, fun h => absurd h (of_decide_eq_false rfl)⟩
            | refine ⟨fun h => absurd (of_decide_eq_true rfl) h, fun _ => ?_⟩
            | refine ⟨of_decide_eq_true rfl, ?_⟩
            | refine ⟨rfl, ?_⟩)
    try (conv => whnf)
    refine ⟨(a, b, c, d, p, q), rfl, rfl, trivial, ?_⟩
    try dsimp only
    by_cases hc : (-3 ≤ a ∧ a ≤ 3) ∧ (-3 ≤ b ∧ b ≤ 3) ∧ (-3 ≤ c ∧ c ≤ 3) ∧ (-3 ≤ d ∧ d ≤ 3) ∧ (1 ≤ p ∧ p ≤ 100000) ∧ (1 ≤ q ∧ q ≤ 100000)
    · simp only [if_pos hc] at hK ⊢
      rintro _ _ ⟨rfl, σ1, τ1, rfl⟩
      repeat (conv => whnf
              try dsimp only
              try simp (decide := true) only [zu_same, zu_ne1, zu_ne2, zuL_same, zuL_ne1, zuL_ne2, zrow_n1, zx0, zx1, zx2, zx3, zf_0_13, zf_0_14, zf_0_15, zf_1_3, zf_15_0, zf_16_0, zf_17_10, zf_86_3, zf_90_6, zf_90_7, zf_94_7, zf_100_6, zf_100_7, zf_118_0, zf_118_1, zf_118_2, zf_118_3, zg_119_0, zg_119_5, zg_119_9, zg_119_15, zg_119_19, zg_119_22, zg_119_1, zg_119_16, zg_120_0, zg_120_1, zg_120_2, zg_120_3, zg_121_0, zg_122_0, zg_124_0, zg_126_0, zg_127_0, zg_128_0, zg_129_0, zg_131_0, zg_131_1, zg_131_2, zg_131_3, Nat.reduceAdd, Nat.reduceMul, Int32.reduceAdd, Int32.reduceSub, Int32.reduceMul]
              first
              | refine ⟨vp_inb rfl, ?_⟩
              | refine ⟨fun h => absurd h (of_decide_eq_false rfl), fun _ => ?_⟩
              | refine ⟨fun _ => ?_, fun h => absurd (of_decide_eq_true rfl) h⟩
              | refine ⟨fun _ => ?_, fun h => absurd h (of_decide_eq_false rfl)⟩
              | refine ⟨fun h => absurd (of_decide_eq_true rfl) h, fun _ => ?_⟩
              | refine ⟨of_decide_eq_true rfl, ?_⟩
              | refine ⟨rfl, ?_⟩)
      try (conv => whnf)
      exact hK _ _ ⟨rfl, _, _, by rw [zmxL_w]; rfl⟩
    · simp only [if_neg hc] at hK ⊢
      rintro _ _ ⟨rfl, σ1, τ1, rfl⟩
      repeat (conv => whnf
              try dsimp only
              try simp (decide := true) only [zu_same, zu_ne1, zu_ne2, zuL_same, zuL_ne1, zuL_ne2, zrow_n1, zx0, zx1, zx2, zx3, zf_0_13, zf_0_14, zf_0_15, zf_1_3, zf_15_0, zf_16_0, zf_17_10, zf_86_3, zf_90_6, zf_90_7, zf_94_7, zf_100_6, zf_100_7, zf_118_0, zf_118_1, zf_118_2, zf_118_3, zg_119_0, zg_119_5, zg_119_9, zg_119_15, zg_119_19, zg_119_22, zg_119_1, zg_119_16, zg_120_0, zg_120_1, zg_120_2, zg_120_3, zg_121_0, zg_122_0, zg_124_0, zg_126_0, zg_127_0, zg_128_0, zg_129_0, zg_131_0, zg_131_1, zg_131_2, zg_131_3, Nat.reduceAdd, Nat.reduceMul, Int32.reduceAdd, Int32.reduceSub, Int32.reduceMul]
              first
              | refine ⟨vp_inb rfl, ?_⟩
              | refine ⟨fun h => absurd h (of_decide_eq_false rfl), fun _ => ?_⟩
              | refine ⟨fun _ => ?_, fun h => absurd (of_decide_eq_true rfl) h⟩
              | refine ⟨fun _ => ?_, fun h => absurd h (of_decide_eq_false rfl)⟩
              | refine ⟨fun h => absurd (of_decide_eq_true rfl) h, fun _ => ?_⟩
              | refine ⟨of_decide_eq_true rfl, ?_⟩
              | refine ⟨rfl, ?_⟩)
      try (conv => whnf)
      exact hK _ _ ⟨rfl, _, _, rfl⟩
def spL_variable : zSp := zDQ (X := Int32) (fun x => match x with | u => [.ref 0, .int u, .ref 143]) (fun x => match x with | u => (145, zSH, zRH, zs0, zt0)) (fun x => match x with | u => True) (fun x r9 μ9 => match x with | u => r9 = some (.int (if 0 ≤ u ∧ u < 1 then 0 else 1)) ∧ ∃ σ1 τ1, μ9 = (145, zSH, zRH, zmx σ1, zmxL τ1 0))
abbrev rmL_variable : Room := ({ frames := 8, cells := 8, slots := 48, locals := 123 } : Room)
set_option maxRecDepth 100000 in
set_option maxHeartbeats 4000000 in
theorem ctL_variable (l : Launch) (hlt : l.stackTraces = false) (D : va_G) (cA : Nat → ClassId) : zCtW false l D cA yL_variable cL_variable 4 (some .int) zhL_variable rmL_variable spL_variable := by
  refine zct_QK (zCL_variable [(17, 0, 1, spX7_variable, rmX7_variable.cells, rmX7_variable.slots)]) zpL_variable [] (by decide +kernel) zkL_variable (Or.inr (by decide +kernel)) trivial ⟨rfl, by decide +kernel⟩ (by decide +kernel) rfl (fun x ad => Nat.le_of_ble_eq_true rfl) ?_ ?_
  · intro p e s m args below meth c A H0 ad0 n0 Q F hml hNw hA hX
    exact ⟨zco_VX hX hA F hml hNw (ctX7_variable l hlt D cA) ⟨⟨zlL_variable_17, zwX7_variable.1.1, zwX7_variable.1.2⟩, zwX7_variable.2⟩ zdX7_variable ⟨Nat.le_of_ble_eq_true rfl, Nat.le_of_ble_eq_true rfl⟩ (ci := 7) (by decide) rfl (by rintro av μ K ⟨x, rfl, rfl, -⟩; exact ⟨_, _, rfl, rfl⟩), trivial⟩
  · rintro u Ret hP hK Gl hG
    try dsimp only at hP hK
    show Gl 0 (zent 4 [.ref 0, .int u, .ref 143]) [] (0, 0) ((145, zSH, zRH, zs0, zt0))
    refine hG 100 _ _ _ _ _ ?_
    repeat (conv => whnf
            try dsimp only
            try simp (decide := true) only [zu_same, zu_ne1, zu_ne2, zuL_same, zuL_ne1, zuL_ne2, zrow_n1, zx0, zx1, zx2, zx3, zf_0_13, zf_0_14, zf_0_15, zf_1_3, zf_15_0, zf_16_0, zf_17_10, zf_86_3, zf_90_6, zf_90_7, zf_94_7, zf_100_6, zf_100_7, zf_118_0, zf_118_1, zf_118_2, zf_118_3, zg_119_0, zg_119_5, zg_119_9, zg_119_15, zg_119_19, zg_119_22, zg_119_1, zg_119_16, zg_120_0, zg_120_1, zg_120_2, zg_120_3, zg_121_0, zg_122_0, zg_124_0, zg_126_0, zg_127_0, zg_128_0, zg_129_0, zg_131_0, zg_131_1, zg_131_2, zg_131_3, Nat.reduceAdd, Nat.reduceMul, Int32.reduceAdd, Int32.reduceSub, Int32.reduceMul]
            first
            | refine ⟨vp_inb rfl, ?_⟩
            | refine ⟨fun h => absurd h (of_decide_eq_false rfl), fun _ => ?_⟩
            | refine ⟨fun _ => ?_, fun h => absurd (of_decide_eq_true rfl) h⟩
            | refine ⟨fun _ => ?_, fun h => absurd h (of_decide_eq_false rfl)⟩
            | refine ⟨fun h => absurd (of_decide_eq_true rfl) h, fun _ => ?_⟩
            | refine ⟨of_decide_eq_true rfl, ?_⟩
            | refine ⟨rfl, ?_⟩)
    try (conv => whnf)
    refine ⟨u, rfl, rfl, trivial, ?_⟩
    try dsimp only
    by_cases hc : 0 ≤ u ∧ u < 1
    · simp only [if_pos hc] at hK ⊢
      rintro _ _ ⟨rfl, σ1, τ1, rfl⟩
      repeat (conv => whnf
              try dsimp only
              try simp (decide := true) only [zu_same, zu_ne1, zu_ne2, zuL_same, zuL_ne1, zuL_ne2, zrow_n1, zx0, zx1, zx2, zx3, zf_0_13, zf_0_14, zf_0_15, zf_1_3, zf_15_0, zf_16_0, zf_17_10, zf_86_3, zf_90_6, zf_90_7, zf_94_7, zf_100_6, zf_100_7, zf_118_0, zf_118_1, zf_118_2, zf_118_3, zg_119_0, zg_119_5, zg_119_9, zg_119_15, zg_119_19, zg_119_22, zg_119_1, zg_119_16, zg_120_0, zg_120_1, zg_120_2, zg_120_3, zg_121_0, zg_122_0, zg_124_0, zg_126_0, zg_127_0, zg_128_0, zg_129_0, zg_131_0, zg_131_1, zg_131_2, zg_131_3, Nat.reduceAdd, Nat.reduceMul, Int32.reduceAdd, Int32.reduceSub, Int32.reduceMul]
              first
              | refine ⟨vp_inb rfl, ?_⟩
              | refine ⟨fun h => absurd h (of_decide_eq_false rfl), fun _ => ?_⟩
              | refine ⟨fun _ => ?_, fun h => absurd (of_decide_eq_true rfl) h⟩
              | refine ⟨fun _ => ?_, fun h => absurd h (of_decide_eq_false rfl)⟩
              | refine ⟨fun h => absurd (of_decide_eq_true rfl) h, fun _ => ?_⟩
              | refine ⟨of_decide_eq_true rfl, ?_⟩
              | refine ⟨rfl, ?_⟩)
      try (conv => whnf)
      exact hK _ _ ⟨rfl, _, _, by rw [zmxL_w]; rfl⟩
    · simp only [if_neg hc] at hK ⊢
      rintro _ _ ⟨rfl, σ1, τ1, rfl⟩
      repeat (conv => whnf
              try dsimp only
              try simp (decide := true) only [zu_same, zu_ne1, zu_ne2, zuL_same, zuL_ne1, zuL_ne2, zrow_n1, zx0, zx1, zx2, zx3, zf_0_13, zf_0_14, zf_0_15, zf_1_3, zf_15_0, zf_16_0, zf_17_10, zf_86_3, zf_90_6, zf_90_7, zf_94_7, zf_100_6, zf_100_7, zf_118_0, zf_118_1, zf_118_2, zf_118_3, zg_119_0, zg_119_5, zg_119_9, zg_119_15, zg_119_19, zg_119_22, zg_119_1, zg_119_16, zg_120_0, zg_120_1, zg_120_2, zg_120_3, zg_121_0, zg_122_0, zg_124_0, zg_126_0, zg_127_0, zg_128_0, zg_129_0, zg_131_0, zg_131_1, zg_131_2, zg_131_3, Nat.reduceAdd, Nat.reduceMul, Int32.reduceAdd, Int32.reduceSub, Int32.reduceMul]
              first
              | refine ⟨vp_inb rfl, ?_⟩
              | refine ⟨fun h => absurd h (of_decide_eq_false rfl), fun _ => ?_⟩
              | refine ⟨fun _ => ?_, fun h => absurd (of_decide_eq_true rfl) h⟩
              | refine ⟨fun _ => ?_, fun h => absurd h (of_decide_eq_false rfl)⟩
              | refine ⟨fun h => absurd (of_decide_eq_true rfl) h, fun _ => ?_⟩
              | refine ⟨of_decide_eq_true rfl, ?_⟩
              | refine ⟨rfl, ?_⟩)
      try (conv => whnf)
      exact hK _ _ ⟨rfl, _, _, rfl⟩
def spL_setTurns : zSp := zDQ (X := Int32 × Int32) (fun x => match x with | (s, d) => [.ref 0, .int s, .int d, .ref 143]) (fun x => match x with | (s, d) => (145, zSH, zRH, zs0, zt0)) (fun x => match x with | (s, d) => True) (fun x r9 μ9 => match x with | (s, d) => r9 = some (.int (if (0 ≤ s ∧ s ≤ 10000) ∧ 1 ≤ d ∧ d ≤ 100 then 0 else 1)) ∧ ∃ σ1 τ1, μ9 = (145, zSH, zRH, zmx σ1, zmxL τ1 0))
abbrev rmL_setTurns : Room := ({ frames := 7, cells := 8, slots := 48, locals := 104 } : Room)
set_option maxRecDepth 100000 in
set_option maxHeartbeats 4000000 in
theorem ctL_setTurns (l : Launch) (hlt : l.stackTraces = false) (D : va_G) (cA : Nat → ClassId) : zCtW false l D cA yL_setTurns cL_setTurns 5 (some .int) zhL_setTurns rmL_setTurns spL_setTurns := by
  refine zct_QK (zCL_setTurns [(46, 0, 2, spX7_setTurns, rmX7_setTurns.cells, rmX7_setTurns.slots)]) zpL_setTurns [] (by decide +kernel) zkL_setTurns (Or.inr (by decide +kernel)) trivial ⟨rfl, by decide +kernel⟩ (by decide +kernel) rfl (fun x ad => Nat.le_of_ble_eq_true rfl) ?_ ?_
  · intro p e s m args below meth c A H0 ad0 n0 Q F hml hNw hA hX
    exact ⟨zco_VX hX hA F hml hNw (ctX7_setTurns l hlt D cA) ⟨⟨zlL_setTurns_46, zwX7_setTurns.1.1, zwX7_setTurns.1.2⟩, zwX7_setTurns.2⟩ zdX7_setTurns ⟨Nat.le_of_ble_eq_true rfl, Nat.le_of_ble_eq_true rfl⟩ (ci := 7) (by decide) rfl (by rintro av μ K ⟨x, rfl, rfl, -⟩; exact ⟨_, _, rfl, rfl⟩), trivial⟩
  · rintro ⟨s, d⟩ Ret hP hK Gl hG
    try dsimp only at hP hK
    show Gl 0 (zent 5 [.ref 0, .int s, .int d, .ref 143]) [] (0, 0) ((145, zSH, zRH, zs0, zt0))
    refine hG 100 _ _ _ _ _ ?_
    repeat (conv => whnf
            try dsimp only
            try simp (decide := true) only [zu_same, zu_ne1, zu_ne2, zuL_same, zuL_ne1, zuL_ne2, zrow_n1, zx0, zx1, zx2, zx3, zf_0_13, zf_0_14, zf_0_15, zf_1_3, zf_15_0, zf_16_0, zf_17_10, zf_86_3, zf_90_6, zf_90_7, zf_94_7, zf_100_6, zf_100_7, zf_118_0, zf_118_1, zf_118_2, zf_118_3, zg_119_0, zg_119_5, zg_119_9, zg_119_15, zg_119_19, zg_119_22, zg_119_1, zg_119_16, zg_120_0, zg_120_1, zg_120_2, zg_120_3, zg_121_0, zg_122_0, zg_124_0, zg_126_0, zg_127_0, zg_128_0, zg_129_0, zg_131_0, zg_131_1, zg_131_2, zg_131_3, Nat.reduceAdd, Nat.reduceMul, Int32.reduceAdd, Int32.reduceSub, Int32.reduceMul]
            first
            | refine ⟨vp_inb rfl, ?_⟩
            | refine ⟨fun h => absurd h (of_decide_eq_false rfl), fun _ => ?_⟩
            | refine ⟨fun _ => ?_, fun h => absurd (of_decide_eq_true rfl) h⟩
            | refine ⟨fun _ => ?_, fun h => absurd h (of_decide_eq_false rfl)⟩
            | refine ⟨fun h => absurd (of_decide_eq_true rfl) h, fun _ => ?_⟩
            | refine ⟨of_decide_eq_true rfl, ?_⟩
            | refine ⟨rfl, ?_⟩)
    try (conv => whnf)
    refine ⟨(s, d), rfl, rfl, trivial, ?_⟩
    try dsimp only
    by_cases hc : (0 ≤ s ∧ s ≤ 10000) ∧ 1 ≤ d ∧ d ≤ 100
    · simp only [if_pos hc] at hK ⊢
      rintro _ _ ⟨rfl, σ1, τ1, rfl⟩
      repeat (conv => whnf
              try dsimp only
              try simp (decide := true) only [zu_same, zu_ne1, zu_ne2, zuL_same, zuL_ne1, zuL_ne2, zrow_n1, zx0, zx1, zx2, zx3, zf_0_13, zf_0_14, zf_0_15, zf_1_3, zf_15_0, zf_16_0, zf_17_10, zf_86_3, zf_90_6, zf_90_7, zf_94_7, zf_100_6, zf_100_7, zf_118_0, zf_118_1, zf_118_2, zf_118_3, zg_119_0, zg_119_5, zg_119_9, zg_119_15, zg_119_19, zg_119_22, zg_119_1, zg_119_16, zg_120_0, zg_120_1, zg_120_2, zg_120_3, zg_121_0, zg_122_0, zg_124_0, zg_126_0, zg_127_0, zg_128_0, zg_129_0, zg_131_0, zg_131_1, zg_131_2, zg_131_3, Nat.reduceAdd, Nat.reduceMul, Int32.reduceAdd, Int32.reduceSub, Int32.reduceMul]
              first
              | refine ⟨vp_inb rfl, ?_⟩
              | refine ⟨fun h => absurd h (of_decide_eq_false rfl), fun _ => ?_⟩
              | refine ⟨fun _ => ?_, fun h => absurd (of_decide_eq_true rfl) h⟩
              | refine ⟨fun _ => ?_, fun h => absurd h (of_decide_eq_false rfl)⟩
              | refine ⟨fun h => absurd (of_decide_eq_true rfl) h, fun _ => ?_⟩
              | refine ⟨of_decide_eq_true rfl, ?_⟩
              | refine ⟨rfl, ?_⟩)
      try (conv => whnf)
      exact hK _ _ ⟨rfl, _, _, by rw [zmxL_w]; rfl⟩
    · simp only [if_neg hc] at hK ⊢
      rintro _ _ ⟨rfl, σ1, τ1, rfl⟩
      repeat (conv => whnf
              try dsimp only
              try simp (decide := true) only [zu_same, zu_ne1, zu_ne2, zuL_same, zuL_ne1, zuL_ne2, zrow_n1, zx0, zx1, zx2, zx3, zf_0_13, zf_0_14, zf_0_15, zf_1_3, zf_15_0, zf_16_0, zf_17_10, zf_86_3, zf_90_6, zf_90_7, zf_94_7, zf_100_6, zf_100_7, zf_118_0, zf_118_1, zf_118_2, zf_118_3, zg_119_0, zg_119_5, zg_119_9, zg_119_15, zg_119_19, zg_119_22, zg_119_1, zg_119_16, zg_120_0, zg_120_1, zg_120_2, zg_120_3, zg_121_0, zg_122_0, zg_124_0, zg_126_0, zg_127_0, zg_128_0, zg_129_0, zg_131_0, zg_131_1, zg_131_2, zg_131_3, Nat.reduceAdd, Nat.reduceMul, Int32.reduceAdd, Int32.reduceSub, Int32.reduceMul]
              first
              | refine ⟨vp_inb rfl, ?_⟩
              | refine ⟨fun h => absurd h (of_decide_eq_false rfl), fun _ => ?_⟩
              | refine ⟨fun _ => ?_, fun h => absurd (of_decide_eq_true rfl) h⟩
              | refine ⟨fun _ => ?_, fun h => absurd h (of_decide_eq_false rfl)⟩
              | refine ⟨fun h => absurd (of_decide_eq_true rfl) h, fun _ => ?_⟩
              | refine ⟨of_decide_eq_true rfl, ?_⟩
              | refine ⟨rfl, ?_⟩)
      try (conv => whnf)
      exact hK _ _ ⟨rfl, _, _, rfl⟩
def spL_keep : zSp := zDQ (X := Int32) (fun x => match x with | q => [.ref 0, .int q, .ref 143]) (fun x => match x with | q => (145, zSH, zRH, zs0, zt0)) (fun x => match x with | q => True) (fun x r9 μ9 => match x with | q => r9 = some (.int (if 0 ≤ q ∧ q < 4 then 0 else 1)) ∧ ∃ σ1 τ1, μ9 = (145, zSH, zRH, zmx σ1, zmxL τ1 (if 0 ≤ q ∧ q < 4 then 1 else 0)))
abbrev rmL_keep : Room := ({ frames := 8, cells := 8, slots := 48, locals := 125 } : Room)
set_option maxRecDepth 100000 in
set_option maxHeartbeats 4000000 in
theorem ctL_keep (l : Launch) (hlt : l.stackTraces = false) (D : va_G) (cA : Nat → ClassId) : zCtW false l D cA yL_keep cL_keep 4 (some .int) zhL_keep rmL_keep spL_keep := by
  refine zct_QK (zCL_keep [(94, 0, 1, spX7_keep, rmX7_keep.cells, rmX7_keep.slots)]) zpL_keep [] (by decide +kernel) zkL_keep (Or.inr (by decide +kernel)) trivial ⟨rfl, by decide +kernel⟩ (by decide +kernel) rfl (fun x ad => Nat.le_of_ble_eq_true rfl) ?_ ?_
  · intro p e s m args below meth c A H0 ad0 n0 Q F hml hNw hA hX
    exact ⟨zco_VX hX hA F hml hNw (ctX7_keep l hlt D cA) ⟨⟨zlL_keep_94, zwX7_keep.1.1, zwX7_keep.1.2⟩, zwX7_keep.2⟩ zdX7_keep ⟨Nat.le_of_ble_eq_true rfl, Nat.le_of_ble_eq_true rfl⟩ (ci := 7) (by decide) rfl (by rintro av μ K ⟨x, rfl, rfl, -⟩; exact ⟨_, _, rfl, rfl⟩), trivial⟩
  · rintro q Ret hP hK Gl hG
    try dsimp only at hP hK
    show Gl 0 (zent 4 [.ref 0, .int q, .ref 143]) [] (0, 0) ((145, zSH, zRH, zs0, zt0))
    refine hG 100 _ _ _ _ _ ?_
    repeat (conv => whnf
            try dsimp only
            try simp (decide := true) only [zu_same, zu_ne1, zu_ne2, zuL_same, zuL_ne1, zuL_ne2, zrow_n1, zx0, zx1, zx2, zx3, zf_0_13, zf_0_14, zf_0_15, zf_1_3, zf_15_0, zf_16_0, zf_17_10, zf_86_3, zf_90_6, zf_90_7, zf_94_7, zf_100_6, zf_100_7, zf_118_0, zf_118_1, zf_118_2, zf_118_3, zg_119_0, zg_119_5, zg_119_9, zg_119_15, zg_119_19, zg_119_22, zg_119_1, zg_119_16, zg_120_0, zg_120_1, zg_120_2, zg_120_3, zg_121_0, zg_122_0, zg_124_0, zg_126_0, zg_127_0, zg_128_0, zg_129_0, zg_131_0, zg_131_1, zg_131_2, zg_131_3, Nat.reduceAdd, Nat.reduceMul, Int32.reduceAdd, Int32.reduceSub, Int32.reduceMul]
            first
            | refine ⟨vp_inb rfl, ?_⟩
            | refine ⟨fun h => absurd h (of_decide_eq_false rfl), fun _ => ?_⟩
            | refine ⟨fun _ => ?_, fun h => absurd (of_decide_eq_true rfl) h⟩
            | refine ⟨fun _ => ?_, fun h => absurd h (of_decide_eq_false rfl)⟩
            | refine ⟨fun h => absurd (of_decide_eq_true rfl) h, fun _ => ?_⟩
            | refine ⟨of_decide_eq_true rfl, ?_⟩
            | refine ⟨rfl, ?_⟩)
    try (conv => whnf)
    refine ⟨q, rfl, rfl, trivial, ?_⟩
    try dsimp only
    by_cases hc : 0 ≤ q ∧ q < 4
    · simp only [if_pos hc] at hK ⊢
      rintro _ _ ⟨rfl, σ1, τ1, rfl⟩
      repeat (conv => whnf
              try dsimp only
              try simp (decide := true) only [zu_same, zu_ne1, zu_ne2, zuL_same, zuL_ne1, zuL_ne2, zrow_n1, zx0, zx1, zx2, zx3, zf_0_13, zf_0_14, zf_0_15, zf_1_3, zf_15_0, zf_16_0, zf_17_10, zf_86_3, zf_90_6, zf_90_7, zf_94_7, zf_100_6, zf_100_7, zf_118_0, zf_118_1, zf_118_2, zf_118_3, zg_119_0, zg_119_5, zg_119_9, zg_119_15, zg_119_19, zg_119_22, zg_119_1, zg_119_16, zg_120_0, zg_120_1, zg_120_2, zg_120_3, zg_121_0, zg_122_0, zg_124_0, zg_126_0, zg_127_0, zg_128_0, zg_129_0, zg_131_0, zg_131_1, zg_131_2, zg_131_3, Nat.reduceAdd, Nat.reduceMul, Int32.reduceAdd, Int32.reduceSub, Int32.reduceMul]
              first
              | refine ⟨vp_inb rfl, ?_⟩
              | refine ⟨fun h => absurd h (of_decide_eq_false rfl), fun _ => ?_⟩
              | refine ⟨fun _ => ?_, fun h => absurd (of_decide_eq_true rfl) h⟩
              | refine ⟨fun _ => ?_, fun h => absurd h (of_decide_eq_false rfl)⟩
              | refine ⟨fun h => absurd (of_decide_eq_true rfl) h, fun _ => ?_⟩
              | refine ⟨of_decide_eq_true rfl, ?_⟩
              | refine ⟨rfl, ?_⟩)
      try (conv => whnf)
      exact hK _ _ ⟨rfl, _, _, by rw [zmxL_w]; rfl⟩
    · simp only [if_neg hc] at hK ⊢
      rintro _ _ ⟨rfl, σ1, τ1, rfl⟩
      repeat (conv => whnf
              try dsimp only
              try simp (decide := true) only [zu_same, zu_ne1, zu_ne2, zuL_same, zuL_ne1, zuL_ne2, zrow_n1, zx0, zx1, zx2, zx3, zf_0_13, zf_0_14, zf_0_15, zf_1_3, zf_15_0, zf_16_0, zf_17_10, zf_86_3, zf_90_6, zf_90_7, zf_94_7, zf_100_6, zf_100_7, zf_118_0, zf_118_1, zf_118_2, zf_118_3, zg_119_0, zg_119_5, zg_119_9, zg_119_15, zg_119_19, zg_119_22, zg_119_1, zg_119_16, zg_120_0, zg_120_1, zg_120_2, zg_120_3, zg_121_0, zg_122_0, zg_124_0, zg_126_0, zg_127_0, zg_128_0, zg_129_0, zg_131_0, zg_131_1, zg_131_2, zg_131_3, Nat.reduceAdd, Nat.reduceMul, Int32.reduceAdd, Int32.reduceSub, Int32.reduceMul]
              first
              | refine ⟨vp_inb rfl, ?_⟩
              | refine ⟨fun h => absurd h (of_decide_eq_false rfl), fun _ => ?_⟩
              | refine ⟨fun _ => ?_, fun h => absurd (of_decide_eq_true rfl) h⟩
              | refine ⟨fun _ => ?_, fun h => absurd h (of_decide_eq_false rfl)⟩
              | refine ⟨fun h => absurd (of_decide_eq_true rfl) h, fun _ => ?_⟩
              | refine ⟨of_decide_eq_true rfl, ?_⟩
              | refine ⟨rfl, ?_⟩)
      try (conv => whnf)
      exact hK _ _ ⟨rfl, _, _, rfl⟩
def spL_number : zSp := zDQ (X := Int32 × Int32) (fun x => match x with | (n, u) => [.ref 0, .int n, .int u, .ref 143]) (fun x => match x with | (n, u) => (145, zSH, zRH, zs0, zt0)) (fun x => match x with | (n, u) => True) (fun x r9 μ9 => match x with | (n, u) => r9 = some (.int (if 0 ≤ u ∧ u < 1 then (if -1000000000 ≤ n ∧ n ≤ 1000000000 then 0 else 2) else 1)) ∧ ∃ σ1 τ1, μ9 = (145, zSH, zRH, zmx σ1, zmxL τ1 0))
abbrev rmL_number : Room := ({ frames := 8, cells := 8, slots := 48, locals := 124 } : Room)
set_option maxRecDepth 100000 in
set_option maxHeartbeats 4000000 in
theorem ctL_number (l : Launch) (hlt : l.stackTraces = false) (D : va_G) (cA : Nat → ClassId) : zCtW false l D cA yL_number cL_number 5 (some .int) zhL_number rmL_number spL_number := by
  refine zct_QK (zCL_number [(23, 0, 2, spX7_number, rmX7_number.cells, rmX7_number.slots)]) zpL_number [] (by decide +kernel) zkL_number (Or.inr (by decide +kernel)) trivial ⟨rfl, by decide +kernel⟩ (by decide +kernel) rfl (fun x ad => Nat.le_of_ble_eq_true rfl) ?_ ?_
  · intro p e s m args below meth c A H0 ad0 n0 Q F hml hNw hA hX
    exact ⟨zco_VX hX hA F hml hNw (ctX7_number l hlt D cA) ⟨⟨zlL_number_23, zwX7_number.1.1, zwX7_number.1.2⟩, zwX7_number.2⟩ zdX7_number ⟨Nat.le_of_ble_eq_true rfl, Nat.le_of_ble_eq_true rfl⟩ (ci := 7) (by decide) rfl (by rintro av μ K ⟨x, rfl, rfl, -⟩; exact ⟨_, _, rfl, rfl⟩), trivial⟩
  · rintro ⟨n, u⟩ Ret hP hK Gl hG
    try dsimp only at hP hK
    show Gl 0 (zent 5 [.ref 0, .int n, .int u, .ref 143]) [] (0, 0) ((145, zSH, zRH, zs0, zt0))
    refine hG 100 _ _ _ _ _ ?_
    repeat (conv => whnf
            try dsimp only
            try simp (decide := true) only [zu_same, zu_ne1, zu_ne2, zuL_same, zuL_ne1, zuL_ne2, zrow_n1, zx0, zx1, zx2, zx3, zf_0_13, zf_0_14, zf_0_15, zf_1_3, zf_15_0, zf_16_0, zf_17_10, zf_86_3, zf_90_6, zf_90_7, zf_94_7, zf_100_6, zf_100_7, zf_118_0, zf_118_1, zf_118_2, zf_118_3, zg_119_0, zg_119_5, zg_119_9, zg_119_15, zg_119_19, zg_119_22, zg_119_1, zg_119_16, zg_120_0, zg_120_1, zg_120_2, zg_120_3, zg_121_0, zg_122_0, zg_124_0, zg_126_0, zg_127_0, zg_128_0, zg_129_0, zg_131_0, zg_131_1, zg_131_2, zg_131_3, Nat.reduceAdd, Nat.reduceMul, Int32.reduceAdd, Int32.reduceSub, Int32.reduceMul]
            first
            | refine ⟨vp_inb rfl, ?_⟩
            | refine ⟨fun h => absurd h (of_decide_eq_false rfl), fun _ => ?_⟩
            | refine ⟨fun _ => ?_, fun h => absurd (of_decide_eq_true rfl) h⟩
            | refine ⟨fun _ => ?_, fun h => absurd h (of_decide_eq_false rfl)⟩
            | refine ⟨fun h => absurd (of_decide_eq_true rfl) h, fun _ => ?_⟩
            | refine ⟨of_decide_eq_true rfl, ?_⟩
            | refine ⟨rfl, ?_⟩)
    try (conv => whnf)
    refine ⟨(n, u), rfl, rfl, trivial, ?_⟩
    try dsimp only
    by_cases hc : 0 ≤ u ∧ u < 1
    · simp only [if_pos hc] at hK ⊢
      by_cases hd : -1000000000 ≤ n ∧ n ≤ 1000000000
      · simp only [if_pos hd] at hK ⊢
        rintro _ _ ⟨rfl, σ1, τ1, rfl⟩
        repeat (conv => whnf
                try dsimp only
                try simp (decide := true) only [zu_same, zu_ne1, zu_ne2, zuL_same, zuL_ne1, zuL_ne2, zrow_n1, zx0, zx1, zx2, zx3, zf_0_13, zf_0_14, zf_0_15, zf_1_3, zf_15_0, zf_16_0, zf_17_10, zf_86_3, zf_90_6, zf_90_7, zf_94_7, zf_100_6, zf_100_7, zf_118_0, zf_118_1, zf_118_2, zf_118_3, zg_119_0, zg_119_5, zg_119_9, zg_119_15, zg_119_19, zg_119_22, zg_119_1, zg_119_16, zg_120_0, zg_120_1, zg_120_2, zg_120_3, zg_121_0, zg_122_0, zg_124_0, zg_126_0, zg_127_0, zg_128_0, zg_129_0, zg_131_0, zg_131_1, zg_131_2, zg_131_3, Nat.reduceAdd, Nat.reduceMul, Int32.reduceAdd, Int32.reduceSub, Int32.reduceMul]
                first
                | refine ⟨vp_inb rfl, ?_⟩
                | refine ⟨fun h => absurd h (of_decide_eq_false rfl), fun _ => ?_⟩
                | refine ⟨fun _ => ?_, fun h => absurd (of_decide_eq_true rfl) h⟩
                | refine ⟨fun _ => ?_, fun h => absurd h (of_decide_eq_false rfl)⟩
                | refine ⟨fun h => absurd (of_decide_eq_true rfl) h, fun _ => ?_⟩
                | refine ⟨of_decide_eq_true rfl, ?_⟩
                | refine ⟨rfl, ?_⟩)
        try (conv => whnf)
        exact hK _ _ ⟨rfl, _, _, by rw [zmxL_w]; rfl⟩
      · simp only [if_neg hd] at hK ⊢
        rintro _ _ ⟨rfl, σ1, τ1, rfl⟩
        repeat (conv => whnf
                try dsimp only
                try simp (decide := true) only [zu_same, zu_ne1, zu_ne2, zuL_same, zuL_ne1, zuL_ne2, zrow_n1, zx0, zx1, zx2, zx3, zf_0_13, zf_0_14, zf_0_15, zf_1_3, zf_15_0, zf_16_0, zf_17_10, zf_86_3, zf_90_6, zf_90_7, zf_94_7, zf_100_6, zf_100_7, zf_118_0, zf_118_1, zf_118_2, zf_118_3, zg_119_0, zg_119_5, zg_119_9, zg_119_15, zg_119_19, zg_119_22, zg_119_1, zg_119_16, zg_120_0, zg_120_1, zg_120_2, zg_120_3, zg_121_0, zg_122_0, zg_124_0, zg_126_0, zg_127_0, zg_128_0, zg_129_0, zg_131_0, zg_131_1, zg_131_2, zg_131_3, Nat.reduceAdd, Nat.reduceMul, Int32.reduceAdd, Int32.reduceSub, Int32.reduceMul]
                first
                | refine ⟨vp_inb rfl, ?_⟩
                | refine ⟨fun h => absurd h (of_decide_eq_false rfl), fun _ => ?_⟩
                | refine ⟨fun _ => ?_, fun h => absurd (of_decide_eq_true rfl) h⟩
                | refine ⟨fun _ => ?_, fun h => absurd h (of_decide_eq_false rfl)⟩
                | refine ⟨fun h => absurd (of_decide_eq_true rfl) h, fun _ => ?_⟩
                | refine ⟨of_decide_eq_true rfl, ?_⟩
                | refine ⟨rfl, ?_⟩)
        try (conv => whnf)
        exact hK _ _ ⟨rfl, _, _, rfl⟩
    · simp only [if_neg hc] at hK ⊢
      rintro _ _ ⟨rfl, σ1, τ1, rfl⟩
      repeat (conv => whnf
              try dsimp only
              try simp (decide := true) only [zu_same, zu_ne1, zu_ne2, zuL_same, zuL_ne1, zuL_ne2, zrow_n1, zx0, zx1, zx2, zx3, zf_0_13, zf_0_14, zf_0_15, zf_1_3, zf_15_0, zf_16_0, zf_17_10, zf_86_3, zf_90_6, zf_90_7, zf_94_7, zf_100_6, zf_100_7, zf_118_0, zf_118_1, zf_118_2, zf_118_3, zg_119_0, zg_119_5, zg_119_9, zg_119_15, zg_119_19, zg_119_22, zg_119_1, zg_119_16, zg_120_0, zg_120_1, zg_120_2, zg_120_3, zg_121_0, zg_122_0, zg_124_0, zg_126_0, zg_127_0, zg_128_0, zg_129_0, zg_131_0, zg_131_1, zg_131_2, zg_131_3, Nat.reduceAdd, Nat.reduceMul, Int32.reduceAdd, Int32.reduceSub, Int32.reduceMul]
              first
              | refine ⟨vp_inb rfl, ?_⟩
              | refine ⟨fun h => absurd h (of_decide_eq_false rfl), fun _ => ?_⟩
              | refine ⟨fun _ => ?_, fun h => absurd (of_decide_eq_true rfl) h⟩
              | refine ⟨fun _ => ?_, fun h => absurd h (of_decide_eq_false rfl)⟩
              | refine ⟨fun h => absurd (of_decide_eq_true rfl) h, fun _ => ?_⟩
              | refine ⟨of_decide_eq_true rfl, ?_⟩
              | refine ⟨rfl, ?_⟩)
      try (conv => whnf)
      exact hK _ _ ⟨rfl, _, _, rfl⟩
def spL_load : zSp := zDQ (X := Int32) (fun x => match x with | q => [.ref 0, .int q, .ref 143]) (fun x => match x with | q => (145, zSH, zRH, zs0, zt0)) (fun x => match x with | q => True) (fun x r9 μ9 => match x with | q => r9 = some (.int (if 0 ≤ q ∧ q < 4 then 2 else 1)) ∧ ∃ σ1 τ1, μ9 = (145, zSH, zRH, zmx σ1, zmxL τ1 0))
abbrev rmL_load : Room := ({ frames := 8, cells := 8, slots := 48, locals := 125 } : Room)
set_option maxRecDepth 100000 in
set_option maxHeartbeats 4000000 in
theorem ctL_load (l : Launch) (hlt : l.stackTraces = false) (D : va_G) (cA : Nat → ClassId) : zCtW false l D cA yL_load cL_load 4 (some .int) zhL_load rmL_load spL_load := by
  refine zct_QK (zCL_load [(97, 0, 1, spX7_load, rmX7_load.cells, rmX7_load.slots)]) zpL_load [] (by decide +kernel) zkL_load (Or.inr (by decide +kernel)) trivial ⟨rfl, by decide +kernel⟩ (by decide +kernel) rfl (fun x ad => Nat.le_of_ble_eq_true rfl) ?_ ?_
  · intro p e s m args below meth c A H0 ad0 n0 Q F hml hNw hA hX
    exact ⟨zco_VX hX hA F hml hNw (ctX7_load l hlt D cA) ⟨⟨zlL_load_97, zwX7_load.1.1, zwX7_load.1.2⟩, zwX7_load.2⟩ zdX7_load ⟨Nat.le_of_ble_eq_true rfl, Nat.le_of_ble_eq_true rfl⟩ (ci := 7) (by decide) rfl (by rintro av μ K ⟨x, rfl, rfl, -⟩; exact ⟨_, _, rfl, rfl⟩), trivial⟩
  · rintro q Ret hP hK Gl hG
    try dsimp only at hP hK
    show Gl 0 (zent 4 [.ref 0, .int q, .ref 143]) [] (0, 0) ((145, zSH, zRH, zs0, zt0))
    refine hG 100 _ _ _ _ _ ?_
    repeat (conv => whnf
            try dsimp only
            try simp (decide := true) only [zu_same, zu_ne1, zu_ne2, zuL_same, zuL_ne1, zuL_ne2, zrow_n1, zx0, zx1, zx2, zx3, zf_0_13, zf_0_14, zf_0_15, zf_1_3, zf_15_0, zf_16_0, zf_17_10, zf_86_3, zf_90_6, zf_90_7, zf_94_7, zf_100_6, zf_100_7, zf_118_0, zf_118_1, zf_118_2, zf_118_3, zg_119_0, zg_119_5, zg_119_9, zg_119_15, zg_119_19, zg_119_22, zg_119_1, zg_119_16, zg_120_0, zg_120_1, zg_120_2, zg_120_3, zg_121_0, zg_122_0, zg_124_0, zg_126_0, zg_127_0, zg_128_0, zg_129_0, zg_131_0, zg_131_1, zg_131_2, zg_131_3, Nat.reduceAdd, Nat.reduceMul, Int32.reduceAdd, Int32.reduceSub, Int32.reduceMul]
            first
            | refine ⟨vp_inb rfl, ?_⟩
            | refine ⟨fun h => absurd h (of_decide_eq_false rfl), fun _ => ?_⟩
            | refine ⟨fun _ => ?_, fun h => absurd (of_decide_eq_true rfl) h⟩
            | refine ⟨fun _ => ?_, fun h => absurd h (of_decide_eq_false rfl)⟩
            | refine ⟨fun h => absurd (of_decide_eq_true rfl) h, fun _ => ?_⟩
            | refine ⟨of_decide_eq_true rfl, ?_⟩
            | refine ⟨rfl, ?_⟩)
    try (conv => whnf)
    refine ⟨q, rfl, rfl, trivial, ?_⟩
    try dsimp only
    by_cases hc : 0 ≤ q ∧ q < 4
    · rw [if_pos hc]
      simp only [if_pos hc] at hK
      repeat (conv => whnf
              try dsimp only
              try simp (decide := true) only [zu_same, zu_ne1, zu_ne2, zuL_same, zuL_ne1, zuL_ne2, zrow_n1, zx0, zx1, zx2, zx3, zf_0_13, zf_0_14, zf_0_15, zf_1_3, zf_15_0, zf_16_0, zf_17_10, zf_86_3, zf_90_6, zf_90_7, zf_94_7, zf_100_6, zf_100_7, zf_118_0, zf_118_1, zf_118_2, zf_118_3, zg_119_0, zg_119_5, zg_119_9, zg_119_15, zg_119_19, zg_119_22, zg_119_1, zg_119_16, zg_120_0, zg_120_1, zg_120_2, zg_120_3, zg_121_0, zg_122_0, zg_124_0, zg_126_0, zg_127_0, zg_128_0, zg_129_0, zg_131_0, zg_131_1, zg_131_2, zg_131_3, Nat.reduceAdd, Nat.reduceMul, Int32.reduceAdd, Int32.reduceSub, Int32.reduceMul]
              first
              | refine ⟨vp_inb rfl, ?_⟩
              | refine ⟨fun h => absurd h (of_decide_eq_false rfl), fun _ => ?_⟩
              | refine ⟨fun _ => ?_, fun h => absurd (of_decide_eq_true rfl) h⟩
              | refine ⟨fun _ => ?_, fun h => absurd h (of_decide_eq_false rfl)⟩
              | refine ⟨fun h => absurd (of_decide_eq_true rfl) h, fun _ => ?_⟩
              | refine ⟨of_decide_eq_true rfl, ?_⟩
              | refine ⟨rfl, ?_⟩)
      try (conv => whnf)
      exact hK _ _ ⟨rfl, zF0⟩
    · rw [if_neg hc]
      simp only [if_neg hc] at hK
      repeat (conv => whnf
              try dsimp only
              try simp (decide := true) only [zu_same, zu_ne1, zu_ne2, zuL_same, zuL_ne1, zuL_ne2, zrow_n1, zx0, zx1, zx2, zx3, zf_0_13, zf_0_14, zf_0_15, zf_1_3, zf_15_0, zf_16_0, zf_17_10, zf_86_3, zf_90_6, zf_90_7, zf_94_7, zf_100_6, zf_100_7, zf_118_0, zf_118_1, zf_118_2, zf_118_3, zg_119_0, zg_119_5, zg_119_9, zg_119_15, zg_119_19, zg_119_22, zg_119_1, zg_119_16, zg_120_0, zg_120_1, zg_120_2, zg_120_3, zg_121_0, zg_122_0, zg_124_0, zg_126_0, zg_127_0, zg_128_0, zg_129_0, zg_131_0, zg_131_1, zg_131_2, zg_131_3, Nat.reduceAdd, Nat.reduceMul, Int32.reduceAdd, Int32.reduceSub, Int32.reduceMul]
              first
              | refine ⟨vp_inb rfl, ?_⟩
              | refine ⟨fun h => absurd h (of_decide_eq_false rfl), fun _ => ?_⟩
              | refine ⟨fun _ => ?_, fun h => absurd (of_decide_eq_true rfl) h⟩
              | refine ⟨fun _ => ?_, fun h => absurd h (of_decide_eq_false rfl)⟩
              | refine ⟨fun h => absurd (of_decide_eq_true rfl) h, fun _ => ?_⟩
              | refine ⟨of_decide_eq_true rfl, ?_⟩
              | refine ⟨rfl, ?_⟩)
      try (conv => whnf)
      exact hK _ _ ⟨rfl, zF0⟩

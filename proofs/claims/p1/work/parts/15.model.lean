/-! ===== the model, fresh ===== -/
theorem zg_119_0 {σ : zIn} : zmx σ 119 0 = 0 := rfl
theorem zg_119_5 {σ : zIn} : zmx σ 119 5 = 0 := rfl
theorem zg_119_9 {σ : zIn} : zmx σ 119 9 = 0 := rfl
theorem zg_119_15 {σ : zIn} : zmx σ 119 15 = 0 := rfl
theorem zg_119_19 {σ : zIn} : zmx σ 119 19 = 0 := rfl
theorem zg_119_22 {σ : zIn} : zmx σ 119 22 = 0 := rfl
theorem zg_119_1 {σ : zIn} : zmx σ 119 1 = 1 := rfl
theorem zg_119_16 {σ : zIn} : zmx σ 119 16 = 100 := rfl
theorem zg_120_0 {σ : zIn} : zmx σ 120 0 = 0 := rfl
theorem zg_120_1 {σ : zIn} : zmx σ 120 1 = 0 := rfl
theorem zg_120_2 {σ : zIn} : zmx σ 120 2 = 0 := rfl
theorem zg_120_3 {σ : zIn} : zmx σ 120 3 = 0 := rfl
theorem zg_121_0 {σ : zIn} : zmx σ 121 0 = 1 := rfl
theorem zg_122_0 {σ : zIn} : zmx σ 122 0 = 1 := rfl
theorem zg_124_0 {σ : zIn} : zmx σ 124 0 = 0 := rfl
theorem zg_126_0 {σ : zIn} : zmx σ 126 0 = 0 := rfl
theorem zg_127_0 {σ : zIn} : zmx σ 127 0 = 0 := rfl
theorem zg_128_0 {σ : zIn} : zmx σ 128 0 = 0 := rfl
theorem zg_129_0 {σ : zIn} : zmx σ 129 0 = 0 := rfl
theorem zg_131_0 {σ : zIn} : zmx σ 131 0 = -1 := rfl
theorem zg_131_1 {σ : zIn} : zmx σ 131 1 = -1 := rfl
theorem zg_131_2 {σ : zIn} : zmx σ 131 2 = -1 := rfl
theorem zg_131_3 {σ : zIn} : zmx σ 131 3 = -1 := rfl
theorem znoR {v : Int32} : ¬ (0 ≤ v ∧ v ≤ 0 - 1) := fun q => absurd (Int32.le_trans q.1 q.2) (by decide)
def zSH1 : zSh := zuS zSH 145 (100, 16)
def zRH1 : zRf := zrowR zRH 145 (fun _ => none)
def zmW (b : Bool) (σ : zIn) (τ : zLo) : zM := cond b ((146, zSH1, zRH1, σ, τ) : zM) (145, zSH, zRH, σ, τ)
def zT2 (μ : zM) : zM := ((znew (znew μ (100, 16)) (100, 16)).1, (znew (znew μ (100, 16)) (100, 16)).2.1, (znew (znew μ (100, 16)) (100, 16)).2.2.1, zu (znew (znew μ (100, 16)) (100, 16)).2.2.2.1 119 22 0, (znew (znew μ (100, 16)) (100, 16)).2.2.2.2)
def spX8_isIn : zSp := zD (X := Int32 × Int32 × Int32 × zM) (fun x => match x with | (v, a, b, μ) => [.int v, .int a, .int b]) (fun x => match x with | (v, a, b, μ) => μ) (fun x => match x with | (v, a, b, μ) => True) (fun x => match x with | (v, a, b, μ) => some (.int (if a ≤ v ∧ v ≤ b then 1 else 0))) (fun x => match x with | (v, a, b, μ) => μ)
abbrev rmX8_isIn : Room := ({ frames := 0, cells := 0, slots := 0, locals := 0 } : Room)
set_option maxRecDepth 100000 in
set_option maxHeartbeats 4000000 in
theorem ctX8_isIn (l : Launch) (D : va_G) (cA : Nat → ClassId) : zCt false l D cA yX8_isIn cX8_isIn 3 (some .boolean) rmX8_isIn spX8_isIn := by
  refine zct_D (zCX8_isIn []) zpX8_isIn [] (by decide +kernel) zkX8_isIn (Or.inr (by decide +kernel)) trivial ⟨by decide +kernel, by decide +kernel⟩ (fun x ad => Nat.le_of_ble_eq_true rfl) ?_ ?_
  · intro p e s m args below meth c A H0 ad0 n0 Q F hml hNw hA hX
    exact trivial
  · rintro ⟨v, a, b, μ⟩ Ret hP hK Gl hG
    try dsimp only at hP hK
    show Gl 0 (zent 3 [.int v, .int a, .int b]) [] (0, 0) (μ)
    refine hG 40 _ _ _ _ _ ?_
    conv => whnf
    refine ⟨fun h => ?_, fun h => ?_⟩
    · conv => whnf
      rw [if_neg (fun q => Int32.not_le.mpr h q.1)] at hK
      exact ⟨rfl, hK⟩
    · conv => whnf
      refine ⟨fun h2 => ?_, fun h2 => ?_⟩
      · conv => whnf
        rw [if_neg (fun q => Int32.not_le.mpr h2 q.2)] at hK
        exact ⟨rfl, hK⟩
      · conv => whnf
        rw [if_pos ⟨Int32.not_lt.mp h, Int32.not_lt.mp h2⟩] at hK
        exact ⟨rfl, hK⟩
def spX8_thrown : zSp := zD (X := zM × Unit) (fun x => match x with | (μ, _) => [.ref 119]) (fun x => match x with | (μ, _) => μ) (fun x => match x with | (μ, _) => μ.2.1 119 = (8, 0) ∧ True) (fun x => match x with | (μ, _) => some (.int (μ.2.2.2.1 119 0))) (fun x => match x with | (μ, _) => μ)
abbrev rmX8_thrown : Room := ({ frames := 0, cells := 0, slots := 0, locals := 0 } : Room)
set_option maxRecDepth 100000 in
set_option maxHeartbeats 4000000 in
theorem ctX8_thrown (l : Launch) (D : va_G) (cA : Nat → ClassId) : zCt false l D cA yX8_thrown cX8_thrown 1 (some .int) rmX8_thrown spX8_thrown := by
  refine zct_D (zCX8_thrown []) zpX8_thrown [] (by decide +kernel) zkX8_thrown (Or.inr (by decide +kernel)) trivial ⟨by decide +kernel, by decide +kernel⟩ (fun x ad => Nat.le_of_ble_eq_true rfl) ?_ ?_
  · intro p e s m args below meth c A H0 ad0 n0 Q F hml hNw hA hX
    exact trivial
  · rintro ⟨μ, _⟩ Ret hP hK Gl hG
    try dsimp only at hP hK
    show Gl 0 (zent 1 [.ref 119]) [] (0, 0) (μ)
    refine hG 1000 _ _ _ _ _ ?_
    repeat (first
      | (conv => whnf
         try dsimp only
         try simp (decide := true) only [hP.1, zu_same, zu_ne1, zu_ne2, zuL_same, zuL_ne1, zuL_ne2, zrow_n1, zx0, zx1, zx2, zx3, zf_0_13, zf_0_14, zf_0_15, zf_1_3, zf_15_0, zf_16_0, zf_17_10, zf_86_3, zf_90_6, zf_90_7, zf_94_7, zf_100_6, zf_100_7, zf_118_0, zf_118_1, zf_118_2, zf_118_3, zg_119_0, zg_119_5, zg_119_9, zg_119_15, zg_119_19, zg_119_22, zg_119_1, zg_119_16, zg_120_0, zg_120_1, zg_120_2, zg_120_3, zg_121_0, zg_122_0, zg_124_0, zg_126_0, zg_127_0, zg_128_0, zg_129_0, zg_131_0, zg_131_1, zg_131_2, zg_131_3, Nat.reduceAdd, Nat.reduceMul, Int32.reduceAdd, Int32.reduceSub, Int32.reduceMul]
         first
         | refine ⟨vp_inb rfl, ?_⟩
         | refine ⟨fun h => absurd h (of_decide_eq_false rfl), fun _ => ?_⟩
         | refine ⟨fun _ => ?_, fun h => absurd (of_decide_eq_true rfl) h⟩
         | refine ⟨fun _ => ?_, fun h => absurd h (of_decide_eq_false rfl)⟩
         | refine ⟨fun h => absurd (of_decide_eq_true rfl) h, fun _ => ?_⟩
         | refine ⟨of_decide_eq_true rfl, ?_⟩
         | refine ⟨rfl, ?_⟩)
      | (conv => whnf
         fail_if_success refine Exists.intro ?_ ?_
         simp only [hP.1]))
    try (conv => whnf)
    exact hK
def spX8_no : zSp := zD (X := zM × Int32) (fun x => match x with | (μ, k) => [.ref 119, .int k]) (fun x => match x with | (μ, k) => μ) (fun x => match x with | (μ, k) => μ.2.1 119 = (8, 0) ∧ True) (fun x => match x with | (μ, k) => some (.int 0)) (fun x => match x with | (μ, k) => (μ.1, μ.2.1, μ.2.2.1, zu μ.2.2.2.1 119 0 k, μ.2.2.2.2))
abbrev rmX8_no : Room := ({ frames := 0, cells := 0, slots := 0, locals := 0 } : Room)
set_option maxRecDepth 100000 in
set_option maxHeartbeats 4000000 in
theorem ctX8_no (l : Launch) (D : va_G) (cA : Nat → ClassId) : zCt false l D cA yX8_no cX8_no 2 (some .int) rmX8_no spX8_no := by
  refine zct_D (zCX8_no []) zpX8_no [] (by decide +kernel) zkX8_no (Or.inr (by decide +kernel)) trivial ⟨by decide +kernel, by decide +kernel⟩ (fun x ad => Nat.le_of_ble_eq_true rfl) ?_ ?_
  · intro p e s m args below meth c A H0 ad0 n0 Q F hml hNw hA hX
    exact trivial
  · rintro ⟨μ, k⟩ Ret hP hK Gl hG
    try dsimp only at hP hK
    show Gl 0 (zent 2 [.ref 119, .int k]) [] (0, 0) (μ)
    refine hG 1000 _ _ _ _ _ ?_
    repeat (first
      | (conv => whnf
         try dsimp only
         try simp (decide := true) only [hP.1, zu_same, zu_ne1, zu_ne2, zuL_same, zuL_ne1, zuL_ne2, zrow_n1, zx0, zx1, zx2, zx3, zf_0_13, zf_0_14, zf_0_15, zf_1_3, zf_15_0, zf_16_0, zf_17_10, zf_86_3, zf_90_6, zf_90_7, zf_94_7, zf_100_6, zf_100_7, zf_118_0, zf_118_1, zf_118_2, zf_118_3, zg_119_0, zg_119_5, zg_119_9, zg_119_15, zg_119_19, zg_119_22, zg_119_1, zg_119_16, zg_120_0, zg_120_1, zg_120_2, zg_120_3, zg_121_0, zg_122_0, zg_124_0, zg_126_0, zg_127_0, zg_128_0, zg_129_0, zg_131_0, zg_131_1, zg_131_2, zg_131_3, Nat.reduceAdd, Nat.reduceMul, Int32.reduceAdd, Int32.reduceSub, Int32.reduceMul]
         first
         | refine ⟨vp_inb rfl, ?_⟩
         | refine ⟨fun h => absurd h (of_decide_eq_false rfl), fun _ => ?_⟩
         | refine ⟨fun _ => ?_, fun h => absurd (of_decide_eq_true rfl) h⟩
         | refine ⟨fun _ => ?_, fun h => absurd h (of_decide_eq_false rfl)⟩
         | refine ⟨fun h => absurd (of_decide_eq_true rfl) h, fun _ => ?_⟩
         | refine ⟨of_decide_eq_true rfl, ?_⟩
         | refine ⟨rfl, ?_⟩)
      | (conv => whnf
         fail_if_success refine Exists.intro ?_ ?_
         simp only [hP.1]))
    try (conv => whnf)
    exact hK
def spX8_ok : zSp := zD (X := zIn × zLo × Int32) (fun x => match x with | (σ, τ, k) => [.ref 119, .int k]) (fun x => match x with | (σ, τ, k) => (145, zSH, zRH, σ, τ)) (fun x => match x with | (σ, τ, k) => True) (fun x => match x with | (σ, τ, k) => some (.int k)) (fun x => match x with | (σ, τ, k) => (145, zSH, zRH, zu σ 119 0 0, τ))
abbrev rmX8_ok : Room := ({ frames := 0, cells := 0, slots := 0, locals := 0 } : Room)
set_option maxRecDepth 100000 in
set_option maxHeartbeats 4000000 in
theorem ctX8_ok (l : Launch) (D : va_G) (cA : Nat → ClassId) : zCt false l D cA yX8_ok cX8_ok 2 (some .int) rmX8_ok spX8_ok := by
  refine zct_D (zCX8_ok []) zpX8_ok [] (by decide +kernel) zkX8_ok (Or.inr (by decide +kernel)) trivial ⟨by decide +kernel, by decide +kernel⟩ (fun x ad => Nat.le_of_ble_eq_true rfl) ?_ ?_
  · intro p e s m args below meth c A H0 ad0 n0 Q F hml hNw hA hX
    exact trivial
  · rintro ⟨σ, τ, k⟩ Ret hP hK Gl hG
    try dsimp only at hP hK
    show Gl 0 (zent 2 [.ref 119, .int k]) [] (0, 0) ((145, zSH, zRH, σ, τ))
    refine hG 1000 _ _ _ _ _ ?_
    repeat (conv => whnf
            try dsimp only
            try simp (decide := true) only [zu_same, zu_ne1, zu_ne2, zuL_same, zuL_ne1, zuL_ne2, zrow_n1, zx0, zx1, zx2, zx3, zf_0_13, zf_0_14, zf_0_15, zf_1_3, zf_15_0, zf_16_0, zf_17_10, zf_86_3, zf_90_6, zf_90_7, zf_94_7, zf_100_6, zf_100_7, zf_118_0, zf_118_1, zf_118_2, zf_118_3, zg_119_0, zg_119_5, zg_119_9, zg_119_15, zg_119_19, zg_119_22, zg_119_1, zg_119_16, zg_120_0, zg_120_1, zg_120_2, zg_120_3, zg_121_0, zg_122_0, zg_124_0, zg_126_0, zg_127_0, zg_128_0, zg_129_0, zg_131_0, zg_131_1, zg_131_2, zg_131_3, Nat.reduceAdd, Nat.reduceMul, Int32.reduceAdd, Int32.reduceSub, Int32.reduceMul]
            first
            | refine ⟨vp_inb rfl, ?_⟩
            | refine ⟨fun h => absurd h (of_decide_eq_false rfl), fun _ => ?_⟩
            | refine ⟨fun _ => ?_, fun h => absurd (of_decide_eq_true rfl) h⟩
            | refine ⟨fun _ => ?_, fun h => absurd h (of_decide_eq_false rfl)⟩
            | refine ⟨fun h => absurd (of_decide_eq_true rfl) h, fun _ => ?_⟩
            | refine ⟨of_decide_eq_true rfl, ?_⟩
            | refine ⟨rfl, ?_⟩)
    try (conv => whnf)
    exact hK
def spX8_isVariable : zSp := zD (X := zIn × zLo × Int32) (fun x => match x with | (σ, τ, v) => [.ref 119, .int v]) (fun x => match x with | (σ, τ, v) => (145, zSH, zRH, σ, τ)) (fun x => match x with | (σ, τ, v) => σ 119 5 = 0) (fun x => match x with | (σ, τ, v) => some (.int 0)) (fun x => match x with | (σ, τ, v) => (145, zSH, zRH, σ, τ))
abbrev rmX8_isVariable : Room := ({ frames := 1, cells := 0, slots := 0, locals := 22 } : Room)
set_option maxRecDepth 100000 in
set_option maxHeartbeats 4000000 in
theorem ctX8_isVariable (l : Launch) (D : va_G) (cA : Nat → ClassId) : zCt false l D cA yX8_isVariable cX8_isVariable 2 (some .boolean) rmX8_isVariable spX8_isVariable := by
  refine zct_D (zCX8_isVariable [(90, 1, 3, spX8_isIn, rmX8_isIn.cells, rmX8_isIn.slots)]) zpX8_isVariable [] (by decide +kernel) zkX8_isVariable (Or.inr (by decide +kernel)) trivial ⟨by decide +kernel, by decide +kernel⟩ (fun x ad => Nat.le_of_ble_eq_true rfl) ?_ ?_
  · intro p e s m args below meth c A H0 ad0 n0 Q F hml hNw hA hX
    exact ⟨zco_S hX hA F hml hNw (ctX8_isIn l D cA) ⟨⟨zlX8_isVariable_90, zwX8_isIn.1⟩, zwX8_isIn.2⟩ zdX8_isIn ⟨Nat.le_of_ble_eq_true rfl, Nat.le_of_ble_eq_true rfl⟩, trivial⟩
  · rintro ⟨σ, τ, v⟩ Ret hP hK Gl hG
    try dsimp only at hP hK
    show Gl 0 (zent 2 [.ref 119, .int v]) [] (0, 0) ((145, zSH, zRH, σ, τ))
    refine hG 1000 _ _ _ _ _ ?_
    repeat (conv => whnf
            try dsimp only
            try simp (decide := true) only [zu_same, zu_ne1, zu_ne2, zuL_same, zuL_ne1, zuL_ne2, zrow_n1, zx0, zx1, zx2, zx3, zf_0_13, zf_0_14, zf_0_15, zf_1_3, zf_15_0, zf_16_0, zf_17_10, zf_86_3, zf_90_6, zf_90_7, zf_94_7, zf_100_6, zf_100_7, zf_118_0, zf_118_1, zf_118_2, zf_118_3, zg_119_0, zg_119_5, zg_119_9, zg_119_15, zg_119_19, zg_119_22, zg_119_1, zg_119_16, zg_120_0, zg_120_1, zg_120_2, zg_120_3, zg_121_0, zg_122_0, zg_124_0, zg_126_0, zg_127_0, zg_128_0, zg_129_0, zg_131_0, zg_131_1, zg_131_2, zg_131_3, Nat.reduceAdd, Nat.reduceMul, Int32.reduceAdd, Int32.reduceSub, Int32.reduceMul]
            first
            | refine ⟨vp_inb rfl, ?_⟩
            | refine ⟨fun h => absurd h (of_decide_eq_false rfl), fun _ => ?_⟩
            | refine ⟨fun _ => ?_, fun h => absurd (of_decide_eq_true rfl) h⟩
            | refine ⟨fun _ => ?_, fun h => absurd h (of_decide_eq_false rfl)⟩
            | refine ⟨fun h => absurd (of_decide_eq_true rfl) h, fun _ => ?_⟩
            | refine ⟨of_decide_eq_true rfl, ?_⟩
            | refine ⟨rfl, ?_⟩)
    try (conv => whnf)
    refine ⟨(v, 0, σ 119 5 - 1, (145, zSH, zRH, σ, τ)), rfl, rfl, trivial, ?_⟩
    try dsimp only
    rw [hP, if_neg znoR]
    repeat (conv => whnf
            try dsimp only
            try simp (decide := true) only [zu_same, zu_ne1, zu_ne2, zuL_same, zuL_ne1, zuL_ne2, zrow_n1, zx0, zx1, zx2, zx3, zf_0_13, zf_0_14, zf_0_15, zf_1_3, zf_15_0, zf_16_0, zf_17_10, zf_86_3, zf_90_6, zf_90_7, zf_94_7, zf_100_6, zf_100_7, zf_118_0, zf_118_1, zf_118_2, zf_118_3, zg_119_0, zg_119_5, zg_119_9, zg_119_15, zg_119_19, zg_119_22, zg_119_1, zg_119_16, zg_120_0, zg_120_1, zg_120_2, zg_120_3, zg_121_0, zg_122_0, zg_124_0, zg_126_0, zg_127_0, zg_128_0, zg_129_0, zg_131_0, zg_131_1, zg_131_2, zg_131_3, Nat.reduceAdd, Nat.reduceMul, Int32.reduceAdd, Int32.reduceSub, Int32.reduceMul]
            first
            | refine ⟨vp_inb rfl, ?_⟩
            | refine ⟨fun h => absurd h (of_decide_eq_false rfl), fun _ => ?_⟩
            | refine ⟨fun _ => ?_, fun h => absurd (of_decide_eq_true rfl) h⟩
            | refine ⟨fun _ => ?_, fun h => absurd h (of_decide_eq_false rfl)⟩
            | refine ⟨fun h => absurd (of_decide_eq_true rfl) h, fun _ => ?_⟩
            | refine ⟨of_decide_eq_true rfl, ?_⟩
            | refine ⟨rfl, ?_⟩)
    try (conv => whnf)
    exact hK
def spX8_isPart : zSp := zD (X := zIn × zLo × Int32) (fun x => match x with | (σ, τ, v) => [.ref 119, .int v]) (fun x => match x with | (σ, τ, v) => (145, zSH, zRH, σ, τ)) (fun x => match x with | (σ, τ, v) => σ 119 9 = 0) (fun x => match x with | (σ, τ, v) => some (.int 0)) (fun x => match x with | (σ, τ, v) => (145, zSH, zRH, σ, τ))
abbrev rmX8_isPart : Room := ({ frames := 1, cells := 0, slots := 0, locals := 22 } : Room)
set_option maxRecDepth 100000 in
set_option maxHeartbeats 4000000 in
theorem ctX8_isPart (l : Launch) (D : va_G) (cA : Nat → ClassId) : zCt false l D cA yX8_isPart cX8_isPart 2 (some .boolean) rmX8_isPart spX8_isPart := by
  refine zct_D (zCX8_isPart [(90, 1, 3, spX8_isIn, rmX8_isIn.cells, rmX8_isIn.slots)]) zpX8_isPart [] (by decide +kernel) zkX8_isPart (Or.inr (by decide +kernel)) trivial ⟨by decide +kernel, by decide +kernel⟩ (fun x ad => Nat.le_of_ble_eq_true rfl) ?_ ?_
  · intro p e s m args below meth c A H0 ad0 n0 Q F hml hNw hA hX
    exact ⟨zco_S hX hA F hml hNw (ctX8_isIn l D cA) ⟨⟨zlX8_isPart_90, zwX8_isIn.1⟩, zwX8_isIn.2⟩ zdX8_isIn ⟨Nat.le_of_ble_eq_true rfl, Nat.le_of_ble_eq_true rfl⟩, trivial⟩
  · rintro ⟨σ, τ, v⟩ Ret hP hK Gl hG
    try dsimp only at hP hK
    show Gl 0 (zent 2 [.ref 119, .int v]) [] (0, 0) ((145, zSH, zRH, σ, τ))
    refine hG 1000 _ _ _ _ _ ?_
    repeat (conv => whnf
            try dsimp only
            try simp (decide := true) only [zu_same, zu_ne1, zu_ne2, zuL_same, zuL_ne1, zuL_ne2, zrow_n1, zx0, zx1, zx2, zx3, zf_0_13, zf_0_14, zf_0_15, zf_1_3, zf_15_0, zf_16_0, zf_17_10, zf_86_3, zf_90_6, zf_90_7, zf_94_7, zf_100_6, zf_100_7, zf_118_0, zf_118_1, zf_118_2, zf_118_3, zg_119_0, zg_119_5, zg_119_9, zg_119_15, zg_119_19, zg_119_22, zg_119_1, zg_119_16, zg_120_0, zg_120_1, zg_120_2, zg_120_3, zg_121_0, zg_122_0, zg_124_0, zg_126_0, zg_127_0, zg_128_0, zg_129_0, zg_131_0, zg_131_1, zg_131_2, zg_131_3, Nat.reduceAdd, Nat.reduceMul, Int32.reduceAdd, Int32.reduceSub, Int32.reduceMul]
            first
            | refine ⟨vp_inb rfl, ?_⟩
            | refine ⟨fun h => absurd h (of_decide_eq_false rfl), fun _ => ?_⟩
            | refine ⟨fun _ => ?_, fun h => absurd (of_decide_eq_true rfl) h⟩
            | refine ⟨fun _ => ?_, fun h => absurd h (of_decide_eq_false rfl)⟩
            | refine ⟨fun h => absurd (of_decide_eq_true rfl) h, fun _ => ?_⟩
            | refine ⟨of_decide_eq_true rfl, ?_⟩
            | refine ⟨rfl, ?_⟩)
    try (conv => whnf)
    refine ⟨(v, 0, σ 119 9 - 1, (145, zSH, zRH, σ, τ)), rfl, rfl, trivial, ?_⟩
    try dsimp only
    rw [hP, if_neg znoR]
    repeat (conv => whnf
            try dsimp only
            try simp (decide := true) only [zu_same, zu_ne1, zu_ne2, zuL_same, zuL_ne1, zuL_ne2, zrow_n1, zx0, zx1, zx2, zx3, zf_0_13, zf_0_14, zf_0_15, zf_1_3, zf_15_0, zf_16_0, zf_17_10, zf_86_3, zf_90_6, zf_90_7, zf_94_7, zf_100_6, zf_100_7, zf_118_0, zf_118_1, zf_118_2, zf_118_3, zg_119_0, zg_119_5, zg_119_9, zg_119_15, zg_119_19, zg_119_22, zg_119_1, zg_119_16, zg_120_0, zg_120_1, zg_120_2, zg_120_3, zg_121_0, zg_122_0, zg_124_0, zg_126_0, zg_127_0, zg_128_0, zg_129_0, zg_131_0, zg_131_1, zg_131_2, zg_131_3, Nat.reduceAdd, Nat.reduceMul, Int32.reduceAdd, Int32.reduceSub, Int32.reduceMul]
            first
            | refine ⟨vp_inb rfl, ?_⟩
            | refine ⟨fun h => absurd h (of_decide_eq_false rfl), fun _ => ?_⟩
            | refine ⟨fun _ => ?_, fun h => absurd (of_decide_eq_true rfl) h⟩
            | refine ⟨fun _ => ?_, fun h => absurd h (of_decide_eq_false rfl)⟩
            | refine ⟨fun h => absurd (of_decide_eq_true rfl) h, fun _ => ?_⟩
            | refine ⟨of_decide_eq_true rfl, ?_⟩
            | refine ⟨rfl, ?_⟩)
    try (conv => whnf)
    exact hK
def spX8_isUnit : zSp := zD (X := zIn × zLo × Int32) (fun x => match x with | (σ, τ, v) => [.ref 119, .int v]) (fun x => match x with | (σ, τ, v) => (145, zSH, zRH, σ, τ)) (fun x => match x with | (σ, τ, v) => σ 119 1 = 1) (fun x => match x with | (σ, τ, v) => some (.int (if 0 ≤ v ∧ v ≤ 0 then 1 else 0))) (fun x => match x with | (σ, τ, v) => (145, zSH, zRH, σ, τ))
abbrev rmX8_isUnit : Room := ({ frames := 1, cells := 0, slots := 0, locals := 22 } : Room)
set_option maxRecDepth 100000 in
set_option maxHeartbeats 4000000 in
theorem ctX8_isUnit (l : Launch) (D : va_G) (cA : Nat → ClassId) : zCt false l D cA yX8_isUnit cX8_isUnit 2 (some .boolean) rmX8_isUnit spX8_isUnit := by
  refine zct_D (zCX8_isUnit [(90, 1, 3, spX8_isIn, rmX8_isIn.cells, rmX8_isIn.slots)]) zpX8_isUnit [] (by decide +kernel) zkX8_isUnit (Or.inr (by decide +kernel)) trivial ⟨by decide +kernel, by decide +kernel⟩ (fun x ad => Nat.le_of_ble_eq_true rfl) ?_ ?_
  · intro p e s m args below meth c A H0 ad0 n0 Q F hml hNw hA hX
    exact ⟨zco_S hX hA F hml hNw (ctX8_isIn l D cA) ⟨⟨zlX8_isUnit_90, zwX8_isIn.1⟩, zwX8_isIn.2⟩ zdX8_isIn ⟨Nat.le_of_ble_eq_true rfl, Nat.le_of_ble_eq_true rfl⟩, trivial⟩
  · rintro ⟨σ, τ, v⟩ Ret hP hK Gl hG
    try dsimp only at hP hK
    show Gl 0 (zent 2 [.ref 119, .int v]) [] (0, 0) ((145, zSH, zRH, σ, τ))
    refine hG 1000 _ _ _ _ _ ?_
    repeat (conv => whnf
            try dsimp only
            try simp (decide := true) only [zu_same, zu_ne1, zu_ne2, zuL_same, zuL_ne1, zuL_ne2, zrow_n1, zx0, zx1, zx2, zx3, zf_0_13, zf_0_14, zf_0_15, zf_1_3, zf_15_0, zf_16_0, zf_17_10, zf_86_3, zf_90_6, zf_90_7, zf_94_7, zf_100_6, zf_100_7, zf_118_0, zf_118_1, zf_118_2, zf_118_3, zg_119_0, zg_119_5, zg_119_9, zg_119_15, zg_119_19, zg_119_22, zg_119_1, zg_119_16, zg_120_0, zg_120_1, zg_120_2, zg_120_3, zg_121_0, zg_122_0, zg_124_0, zg_126_0, zg_127_0, zg_128_0, zg_129_0, zg_131_0, zg_131_1, zg_131_2, zg_131_3, Nat.reduceAdd, Nat.reduceMul, Int32.reduceAdd, Int32.reduceSub, Int32.reduceMul]
            first
            | refine ⟨vp_inb rfl, ?_⟩
            | refine ⟨fun h => absurd h (of_decide_eq_false rfl), fun _ => ?_⟩
            | refine ⟨fun _ => ?_, fun h => absurd (of_decide_eq_true rfl) h⟩
            | refine ⟨fun _ => ?_, fun h => absurd h (of_decide_eq_false rfl)⟩
            | refine ⟨fun h => absurd (of_decide_eq_true rfl) h, fun _ => ?_⟩
            | refine ⟨of_decide_eq_true rfl, ?_⟩
            | refine ⟨rfl, ?_⟩)
    try (conv => whnf)
    refine ⟨(v, 0, σ 119 1 - 1, (145, zSH, zRH, σ, τ)), rfl, rfl, trivial, ?_⟩
    try dsimp only
    rw [hP]
    by_cases h : 0 ≤ v ∧ v ≤ 0
    · rw [if_pos h] at hK
      rw [if_pos (show 0 ≤ v ∧ v ≤ 1 - 1 from h)]
      repeat (conv => whnf
              try dsimp only
              try simp (decide := true) only [zu_same, zu_ne1, zu_ne2, zuL_same, zuL_ne1, zuL_ne2, zrow_n1, zx0, zx1, zx2, zx3, zf_0_13, zf_0_14, zf_0_15, zf_1_3, zf_15_0, zf_16_0, zf_17_10, zf_86_3, zf_90_6, zf_90_7, zf_94_7, zf_100_6, zf_100_7, zf_118_0, zf_118_1, zf_118_2, zf_118_3, zg_119_0, zg_119_5, zg_119_9, zg_119_15, zg_119_19, zg_119_22, zg_119_1, zg_119_16, zg_120_0, zg_120_1, zg_120_2, zg_120_3, zg_121_0, zg_122_0, zg_124_0, zg_126_0, zg_127_0, zg_128_0, zg_129_0, zg_131_0, zg_131_1, zg_131_2, zg_131_3, Nat.reduceAdd, Nat.reduceMul, Int32.reduceAdd, Int32.reduceSub, Int32.reduceMul]
              first
              | refine ⟨vp_inb rfl, ?_⟩
              | refine ⟨fun h => absurd h (of_decide_eq_false rfl), fun _ => ?_⟩
              | refine ⟨fun _ => ?_, fun h => absurd (of_decide_eq_true rfl) h⟩
              | refine ⟨fun _ => ?_, fun h => absurd h (of_decide_eq_false rfl)⟩
              | refine ⟨fun h => absurd (of_decide_eq_true rfl) h, fun _ => ?_⟩
              | refine ⟨of_decide_eq_true rfl, ?_⟩
              | refine ⟨rfl, ?_⟩)
      try (conv => whnf)
      exact hK
    · rw [if_neg h] at hK
      rw [if_neg (show ¬ (0 ≤ v ∧ v ≤ 1 - 1) from h)]
      repeat (conv => whnf
              try dsimp only
              try simp (decide := true) only [zu_same, zu_ne1, zu_ne2, zuL_same, zuL_ne1, zuL_ne2, zrow_n1, zx0, zx1, zx2, zx3, zf_0_13, zf_0_14, zf_0_15, zf_1_3, zf_15_0, zf_16_0, zf_17_10, zf_86_3, zf_90_6, zf_90_7, zf_94_7, zf_100_6, zf_100_7, zf_118_0, zf_118_1, zf_118_2, zf_118_3, zg_119_0, zg_119_5, zg_119_9, zg_119_15, zg_119_19, zg_119_22, zg_119_1, zg_119_16, zg_120_0, zg_120_1, zg_120_2, zg_120_3, zg_121_0, zg_122_0, zg_124_0, zg_126_0, zg_127_0, zg_128_0, zg_129_0, zg_131_0, zg_131_1, zg_131_2, zg_131_3, Nat.reduceAdd, Nat.reduceMul, Int32.reduceAdd, Int32.reduceSub, Int32.reduceMul]
              first
              | refine ⟨vp_inb rfl, ?_⟩
              | refine ⟨fun h => absurd h (of_decide_eq_false rfl), fun _ => ?_⟩
              | refine ⟨fun _ => ?_, fun h => absurd (of_decide_eq_true rfl) h⟩
              | refine ⟨fun _ => ?_, fun h => absurd h (of_decide_eq_false rfl)⟩
              | refine ⟨fun h => absurd (of_decide_eq_true rfl) h, fun _ => ?_⟩
              | refine ⟨of_decide_eq_true rfl, ?_⟩
              | refine ⟨rfl, ?_⟩)
      try (conv => whnf)
      exact hK
def spX8_isPlace : zSp := zD (X := Int32 × zM) (fun x => match x with | (v, μ) => [.int v]) (fun x => match x with | (v, μ) => μ) (fun x => match x with | (v, μ) => True) (fun x => match x with | (v, μ) => some (.int (if 0 ≤ v ∧ v ≤ 3 then 1 else 0))) (fun x => match x with | (v, μ) => μ)
abbrev rmX8_isPlace : Room := ({ frames := 1, cells := 0, slots := 0, locals := 22 } : Room)
set_option maxRecDepth 100000 in
set_option maxHeartbeats 4000000 in
theorem ctX8_isPlace (l : Launch) (D : va_G) (cA : Nat → ClassId) : zCt false l D cA yX8_isPlace cX8_isPlace 1 (some .boolean) rmX8_isPlace spX8_isPlace := by
  refine zct_D (zCX8_isPlace [(90, 1, 3, spX8_isIn, rmX8_isIn.cells, rmX8_isIn.slots)]) zpX8_isPlace [] (by decide +kernel) zkX8_isPlace (Or.inr (by decide +kernel)) trivial ⟨by decide +kernel, by decide +kernel⟩ (fun x ad => Nat.le_of_ble_eq_true rfl) ?_ ?_
  · intro p e s m args below meth c A H0 ad0 n0 Q F hml hNw hA hX
    exact ⟨zco_S hX hA F hml hNw (ctX8_isIn l D cA) ⟨⟨zlX8_isPlace_90, zwX8_isIn.1⟩, zwX8_isIn.2⟩ zdX8_isIn ⟨Nat.le_of_ble_eq_true rfl, Nat.le_of_ble_eq_true rfl⟩, trivial⟩
  · rintro ⟨v, μ⟩ Ret hP hK Gl hG
    try dsimp only at hP hK
    show Gl 0 (zent 1 [.int v]) [] (0, 0) (μ)
    refine hG 1000 _ _ _ _ _ ?_
    repeat (conv => whnf
            try dsimp only
            try simp (decide := true) only [zu_same, zu_ne1, zu_ne2, zuL_same, zuL_ne1, zuL_ne2, zrow_n1, zx0, zx1, zx2, zx3, zf_0_13, zf_0_14, zf_0_15, zf_1_3, zf_15_0, zf_16_0, zf_17_10, zf_86_3, zf_90_6, zf_90_7, zf_94_7, zf_100_6, zf_100_7, zf_118_0, zf_118_1, zf_118_2, zf_118_3, zg_119_0, zg_119_5, zg_119_9, zg_119_15, zg_119_19, zg_119_22, zg_119_1, zg_119_16, zg_120_0, zg_120_1, zg_120_2, zg_120_3, zg_121_0, zg_122_0, zg_124_0, zg_126_0, zg_127_0, zg_128_0, zg_129_0, zg_131_0, zg_131_1, zg_131_2, zg_131_3, Nat.reduceAdd, Nat.reduceMul, Int32.reduceAdd, Int32.reduceSub, Int32.reduceMul]
            first
            | refine ⟨vp_inb rfl, ?_⟩
            | refine ⟨fun h => absurd h (of_decide_eq_false rfl), fun _ => ?_⟩
            | refine ⟨fun _ => ?_, fun h => absurd (of_decide_eq_true rfl) h⟩
            | refine ⟨fun _ => ?_, fun h => absurd h (of_decide_eq_false rfl)⟩
            | refine ⟨fun h => absurd (of_decide_eq_true rfl) h, fun _ => ?_⟩
            | refine ⟨of_decide_eq_true rfl, ?_⟩
            | refine ⟨rfl, ?_⟩)
    try (conv => whnf)
    refine ⟨(v, 0, 3, μ), rfl, rfl, trivial, ?_⟩
    try dsimp only
    by_cases h : 0 ≤ v ∧ v ≤ 3
    · rw [if_pos h] at hK ⊢
      repeat (conv => whnf
              try dsimp only
              try simp (decide := true) only [zu_same, zu_ne1, zu_ne2, zuL_same, zuL_ne1, zuL_ne2, zrow_n1, zx0, zx1, zx2, zx3, zf_0_13, zf_0_14, zf_0_15, zf_1_3, zf_15_0, zf_16_0, zf_17_10, zf_86_3, zf_90_6, zf_90_7, zf_94_7, zf_100_6, zf_100_7, zf_118_0, zf_118_1, zf_118_2, zf_118_3, zg_119_0, zg_119_5, zg_119_9, zg_119_15, zg_119_19, zg_119_22, zg_119_1, zg_119_16, zg_120_0, zg_120_1, zg_120_2, zg_120_3, zg_121_0, zg_122_0, zg_124_0, zg_126_0, zg_127_0, zg_128_0, zg_129_0, zg_131_0, zg_131_1, zg_131_2, zg_131_3, Nat.reduceAdd, Nat.reduceMul, Int32.reduceAdd, Int32.reduceSub, Int32.reduceMul]
              first
              | refine ⟨vp_inb rfl, ?_⟩
              | refine ⟨fun h => absurd h (of_decide_eq_false rfl), fun _ => ?_⟩
              | refine ⟨fun _ => ?_, fun h => absurd (of_decide_eq_true rfl) h⟩
              | refine ⟨fun _ => ?_, fun h => absurd h (of_decide_eq_false rfl)⟩
              | refine ⟨fun h => absurd (of_decide_eq_true rfl) h, fun _ => ?_⟩
              | refine ⟨of_decide_eq_true rfl, ?_⟩
              | refine ⟨rfl, ?_⟩)
      try (conv => whnf)
      exact hK
    · rw [if_neg h] at hK ⊢
      repeat (conv => whnf
              try dsimp only
              try simp (decide := true) only [zu_same, zu_ne1, zu_ne2, zuL_same, zuL_ne1, zuL_ne2, zrow_n1, zx0, zx1, zx2, zx3, zf_0_13, zf_0_14, zf_0_15, zf_1_3, zf_15_0, zf_16_0, zf_17_10, zf_86_3, zf_90_6, zf_90_7, zf_94_7, zf_100_6, zf_100_7, zf_118_0, zf_118_1, zf_118_2, zf_118_3, zg_119_0, zg_119_5, zg_119_9, zg_119_15, zg_119_19, zg_119_22, zg_119_1, zg_119_16, zg_120_0, zg_120_1, zg_120_2, zg_120_3, zg_121_0, zg_122_0, zg_124_0, zg_126_0, zg_127_0, zg_128_0, zg_129_0, zg_131_0, zg_131_1, zg_131_2, zg_131_3, Nat.reduceAdd, Nat.reduceMul, Int32.reduceAdd, Int32.reduceSub, Int32.reduceMul]
              first
              | refine ⟨vp_inb rfl, ?_⟩
              | refine ⟨fun h => absurd h (of_decide_eq_false rfl), fun _ => ?_⟩
              | refine ⟨fun _ => ?_, fun h => absurd (of_decide_eq_true rfl) h⟩
              | refine ⟨fun _ => ?_, fun h => absurd h (of_decide_eq_false rfl)⟩
              | refine ⟨fun h => absurd (of_decide_eq_true rfl) h, fun _ => ?_⟩
              | refine ⟨of_decide_eq_true rfl, ?_⟩
              | refine ⟨rfl, ?_⟩)
      try (conv => whnf)
      exact hK
def spX8_asked : zSp := zD (X := zIn × zLo × Int32 × Int32 × Int32) (fun x => match x with | (σ, τ, i, v, b) => [.ref 119, .int i, .int v, .int b]) (fun x => match x with | (σ, τ, i, v, b) => (145, zSH, zRH, σ, τ)) (fun x => match x with | (σ, τ, i, v, b) => σ 119 5 = 0) (fun x => match x with | (σ, τ, i, v, b) => some (.int 1)) (fun x => match x with | (σ, τ, i, v, b) => (145, zSH, zRH, σ, τ))
abbrev rmX8_asked : Room := ({ frames := 2, cells := 0, slots := 0, locals := 43 } : Room)
set_option maxRecDepth 100000 in
set_option maxHeartbeats 4000000 in
theorem ctX8_asked (l : Launch) (D : va_G) (cA : Nat → ClassId) : zCt false l D cA yX8_asked cX8_asked 4 (some .int) rmX8_asked spX8_asked := by
  refine zct_D (zCX8_asked [(142, 0, 1, spX8_isVariable, rmX8_isVariable.cells, rmX8_isVariable.slots)]) zpX8_asked [] (by decide +kernel) zkX8_asked (Or.inr (by decide +kernel)) trivial ⟨by decide +kernel, by decide +kernel⟩ (fun x ad => Nat.le_of_ble_eq_true rfl) ?_ ?_
  · intro p e s m args below meth c A H0 ad0 n0 Q F hml hNw hA hX
    exact ⟨zco_V hX hA F hml hNw (ctX8_isVariable l D cA) ⟨⟨zlX8_asked_142, zwX8_isVariable.1.1, zwX8_isVariable.1.2⟩, zwX8_isVariable.2⟩ zdX8_isVariable ⟨Nat.le_of_ble_eq_true rfl, Nat.le_of_ble_eq_true rfl⟩ (ci := 8) (by decide) rfl (by rintro av μ K ⟨x, rfl, rfl, -⟩; exact ⟨_, _, rfl, rfl⟩), trivial⟩
  · rintro ⟨σ, τ, i, v, b⟩ Ret hP hK Gl hG
    try dsimp only at hP hK
    show Gl 0 (zent 4 [.ref 119, .int i, .int v, .int b]) [] (0, 0) ((145, zSH, zRH, σ, τ))
    refine hG 1000 _ _ _ _ _ ?_
    repeat (conv => whnf
            try dsimp only
            try simp (decide := true) only [zu_same, zu_ne1, zu_ne2, zuL_same, zuL_ne1, zuL_ne2, zrow_n1, zx0, zx1, zx2, zx3, zf_0_13, zf_0_14, zf_0_15, zf_1_3, zf_15_0, zf_16_0, zf_17_10, zf_86_3, zf_90_6, zf_90_7, zf_94_7, zf_100_6, zf_100_7, zf_118_0, zf_118_1, zf_118_2, zf_118_3, zg_119_0, zg_119_5, zg_119_9, zg_119_15, zg_119_19, zg_119_22, zg_119_1, zg_119_16, zg_120_0, zg_120_1, zg_120_2, zg_120_3, zg_121_0, zg_122_0, zg_124_0, zg_126_0, zg_127_0, zg_128_0, zg_129_0, zg_131_0, zg_131_1, zg_131_2, zg_131_3, Nat.reduceAdd, Nat.reduceMul, Int32.reduceAdd, Int32.reduceSub, Int32.reduceMul]
            first
            | refine ⟨vp_inb rfl, ?_⟩
            | refine ⟨fun h => absurd h (of_decide_eq_false rfl), fun _ => ?_⟩
            | refine ⟨fun _ => ?_, fun h => absurd (of_decide_eq_true rfl) h⟩
            | refine ⟨fun _ => ?_, fun h => absurd h (of_decide_eq_false rfl)⟩
            | refine ⟨fun h => absurd (of_decide_eq_true rfl) h, fun _ => ?_⟩
            | refine ⟨of_decide_eq_true rfl, ?_⟩
            | refine ⟨rfl, ?_⟩)
    try (conv => whnf)
    refine ⟨(σ, τ, i), rfl, rfl, hP, ?_⟩
    try dsimp only
    repeat (conv => whnf
            try dsimp only
            try simp (decide := true) only [zu_same, zu_ne1, zu_ne2, zuL_same, zuL_ne1, zuL_ne2, zrow_n1, zx0, zx1, zx2, zx3, zf_0_13, zf_0_14, zf_0_15, zf_1_3, zf_15_0, zf_16_0, zf_17_10, zf_86_3, zf_90_6, zf_90_7, zf_94_7, zf_100_6, zf_100_7, zf_118_0, zf_118_1, zf_118_2, zf_118_3, zg_119_0, zg_119_5, zg_119_9, zg_119_15, zg_119_19, zg_119_22, zg_119_1, zg_119_16, zg_120_0, zg_120_1, zg_120_2, zg_120_3, zg_121_0, zg_122_0, zg_124_0, zg_126_0, zg_127_0, zg_128_0, zg_129_0, zg_131_0, zg_131_1, zg_131_2, zg_131_3, Nat.reduceAdd, Nat.reduceMul, Int32.reduceAdd, Int32.reduceSub, Int32.reduceMul]
            first
            | refine ⟨vp_inb rfl, ?_⟩
            | refine ⟨fun h => absurd h (of_decide_eq_false rfl), fun _ => ?_⟩
            | refine ⟨fun _ => ?_, fun h => absurd (of_decide_eq_true rfl) h⟩
            | refine ⟨fun _ => ?_, fun h => absurd h (of_decide_eq_false rfl)⟩
            | refine ⟨fun h => absurd (of_decide_eq_true rfl) h, fun _ => ?_⟩
            | refine ⟨of_decide_eq_true rfl, ?_⟩
            | refine ⟨rfl, ?_⟩)
    try (conv => whnf)
    exact hK
def spX8_noteFaults : zSp := zD (X := zM × Unit) (fun x => match x with | (μ, _) => [.ref 119]) (fun x => match x with | (μ, _) => μ) (fun x => match x with | (μ, _) => μ.2.1 119 = (8, 0) ∧ μ.2.2.2.1 119 5 = 0) (fun x => match x with | (μ, _) => none) (fun x => match x with | (μ, _) => (μ.1, μ.2.1, μ.2.2.1, zu μ.2.2.2.1 119 19 0, μ.2.2.2.2))
abbrev rmX8_noteFaults : Room := ({ frames := 0, cells := 0, slots := 0, locals := 0 } : Room)
set_option maxRecDepth 100000 in
set_option maxHeartbeats 4000000 in
theorem ctX8_noteFaults (l : Launch) (D : va_G) (cA : Nat → ClassId) : zCt false l D cA yX8_noteFaults cX8_noteFaults 6 (none) rmX8_noteFaults spX8_noteFaults := by
  refine zct_D (zCX8_noteFaults []) zpX8_noteFaults [] (by decide +kernel) zkX8_noteFaults (Or.inr (by decide +kernel)) trivial ⟨by decide +kernel, by decide +kernel⟩ (fun x ad => Nat.le_of_ble_eq_true rfl) ?_ ?_
  · intro p e s m args below meth c A H0 ad0 n0 Q F hml hNw hA hX
    exact trivial
  · rintro ⟨μ, _⟩ Ret hP hK Gl hG
    try dsimp only at hP hK
    show Gl 0 (zent 6 [.ref 119]) [] (0, 0) (μ)
    refine hG 1000 _ _ _ _ _ ?_
    repeat (first
      | (conv => whnf
         try dsimp only
         try simp (decide := true) only [hP.1, hP.2, zu_same, zu_ne1, zu_ne2, zuL_same, zuL_ne1, zuL_ne2, zrow_n1, zx0, zx1, zx2, zx3, zf_0_13, zf_0_14, zf_0_15, zf_1_3, zf_15_0, zf_16_0, zf_17_10, zf_86_3, zf_90_6, zf_90_7, zf_94_7, zf_100_6, zf_100_7, zf_118_0, zf_118_1, zf_118_2, zf_118_3, zg_119_0, zg_119_5, zg_119_9, zg_119_15, zg_119_19, zg_119_22, zg_119_1, zg_119_16, zg_120_0, zg_120_1, zg_120_2, zg_120_3, zg_121_0, zg_122_0, zg_124_0, zg_126_0, zg_127_0, zg_128_0, zg_129_0, zg_131_0, zg_131_1, zg_131_2, zg_131_3, Nat.reduceAdd, Nat.reduceMul, Int32.reduceAdd, Int32.reduceSub, Int32.reduceMul]
         first
         | refine ⟨vp_inb rfl, ?_⟩
         | refine ⟨fun h => absurd h (of_decide_eq_false rfl), fun _ => ?_⟩
         | refine ⟨fun _ => ?_, fun h => absurd (of_decide_eq_true rfl) h⟩
         | refine ⟨fun _ => ?_, fun h => absurd h (of_decide_eq_false rfl)⟩
         | refine ⟨fun h => absurd (of_decide_eq_true rfl) h, fun _ => ?_⟩
         | refine ⟨of_decide_eq_true rfl, ?_⟩
         | refine ⟨rfl, ?_⟩)
      | (conv => whnf
         fail_if_success refine Exists.intro ?_ ?_
         simp only [hP.1, hP.2]))
    try (conv => whnf)
    exact hK
def spX8_tellCircles : zSp := zD (X := Bool × zIn × zLo) (fun x => match x with | (b, σ, τ) => [.ref 119]) (fun x => match x with | (b, σ, τ) => zmW b σ τ) (fun x => match x with | (b, σ, τ) => σ 119 5 = 0) (fun x => match x with | (b, σ, τ) => none) (fun x => match x with | (b, σ, τ) => zT2 (zmW b σ τ))
abbrev rmX8_tellCircles : Room := ({ frames := 0, cells := 2, slots := 32, locals := 0 } : Room)
set_option maxRecDepth 100000 in
set_option maxHeartbeats 4000000 in
theorem ctX8_tellCircles (l : Launch) (D : va_G) (cA : Nat → ClassId) : zCt false l D cA yX8_tellCircles cX8_tellCircles 8 (none) rmX8_tellCircles spX8_tellCircles := by
  refine zct_D (zCX8_tellCircles []) zpX8_tellCircles [] (by decide +kernel) zkX8_tellCircles (Or.inr (by decide +kernel)) trivial ⟨by decide +kernel, by decide +kernel⟩ (fun x ad => Nat.le_of_ble_eq_true rfl) ?_ ?_
  · intro p e s m args below meth c A H0 ad0 n0 Q F hml hNw hA hX
    exact trivial
  · rintro ⟨b, σ, τ⟩ Ret hP hK Gl hG
    try dsimp only at hP hK
    show Gl 0 (zent 8 [.ref 119]) [] (0, 0) (zmW b σ τ)
    cases b
    all_goals
      refine hG 1000 _ _ _ _ _ ?_
      repeat (first
        | (conv => whnf
           try dsimp only
           try simp (decide := true) only [hP, znew, zmW, cond, zu_same, zu_ne1, zu_ne2, zuL_same, zuL_ne1, zuL_ne2, zrow_n1, zx0, zx1, zx2, zx3, zf_0_13, zf_0_14, zf_0_15, zf_1_3, zf_15_0, zf_16_0, zf_17_10, zf_86_3, zf_90_6, zf_90_7, zf_94_7, zf_100_6, zf_100_7, zf_118_0, zf_118_1, zf_118_2, zf_118_3, zg_119_0, zg_119_5, zg_119_9, zg_119_15, zg_119_19, zg_119_22, zg_119_1, zg_119_16, zg_120_0, zg_120_1, zg_120_2, zg_120_3, zg_121_0, zg_122_0, zg_124_0, zg_126_0, zg_127_0, zg_128_0, zg_129_0, zg_131_0, zg_131_1, zg_131_2, zg_131_3, Nat.reduceAdd, Nat.reduceMul, Int32.reduceAdd, Int32.reduceSub, Int32.reduceMul]
           first
           | refine ⟨vp_inb rfl, ?_⟩
           | refine ⟨fun h => absurd h (of_decide_eq_false rfl), fun _ => ?_⟩
           | refine ⟨fun _ => ?_, fun h => absurd (of_decide_eq_true rfl) h⟩
           | refine ⟨fun _ => ?_, fun h => absurd h (of_decide_eq_false rfl)⟩
           | refine ⟨fun h => absurd (of_decide_eq_true rfl) h, fun _ => ?_⟩
           | refine ⟨of_decide_eq_true rfl, ?_⟩
           | refine ⟨rfl, ?_⟩)
        | (conv => whnf
           fail_if_success refine Exists.intro ?_ ?_
           simp only [hP, znew, zmW, cond]))
      try (conv => whnf)
      exact hK
def spX8_solve : zSp := zD (X := Bool × zIn × zLo) (fun x => match x with | (b, σ, τ) => [.ref 119]) (fun x => match x with | (b, σ, τ) => zmW b σ τ) (fun x => match x with | (b, σ, τ) => σ 119 5 = 0) (fun x => match x with | (b, σ, τ) => none) (fun x => match x with | (b, σ, τ) => zT2 (zmW b (zu σ 119 19 0) τ))
abbrev rmX8_solve : Room := ({ frames := 1, cells := 2, slots := 32, locals := 27 } : Room)
set_option maxRecDepth 100000 in
set_option maxHeartbeats 4000000 in
theorem ctX8_solve (l : Launch) (D : va_G) (cA : Nat → ClassId) : zCt false l D cA yX8_solve cX8_solve 2 (none) rmX8_solve spX8_solve := by
  refine zct_D (zCX8_solve [(182, 0, 0, spX8_noteFaults, rmX8_noteFaults.cells, rmX8_noteFaults.slots), (210, 0, 0, spX8_tellCircles, rmX8_tellCircles.cells, rmX8_tellCircles.slots)]) zpX8_solve [] (by decide +kernel) zkX8_solve (Or.inr (by decide +kernel)) trivial ⟨by decide +kernel, by decide +kernel⟩ (fun x ad => Nat.le_of_ble_eq_true rfl) ?_ ?_
  · intro p e s m args below meth c A H0 ad0 n0 Q F hml hNw hA hX
    exact ⟨zco_V hX hA F hml hNw (ctX8_noteFaults l D cA) ⟨⟨zlX8_solve_182, zwX8_noteFaults.1.1, zwX8_noteFaults.1.2⟩, zwX8_noteFaults.2⟩ zdX8_noteFaults ⟨Nat.le_of_ble_eq_true rfl, Nat.le_of_ble_eq_true rfl⟩ (ci := 8) (by decide) rfl (by rintro av μ K ⟨⟨μ0, x9⟩, rfl, rfl, h9, -⟩; exact ⟨_, _, rfl, congrArg Prod.fst h9.1⟩), zco_V hX hA F hml hNw (ctX8_tellCircles l D cA) ⟨⟨zlX8_solve_210, zwX8_tellCircles.1.1, zwX8_tellCircles.1.2⟩, zwX8_tellCircles.2⟩ zdX8_tellCircles ⟨Nat.le_of_ble_eq_true rfl, Nat.le_of_ble_eq_true rfl⟩ (ci := 8) (by decide) rfl (by rintro av μ K ⟨⟨b9, x9⟩, rfl, rfl, -⟩; exact ⟨_, _, rfl, by cases b9 <;> rfl⟩), trivial⟩
  · rintro ⟨b, σ, τ⟩ Ret hP hK Gl hG
    try dsimp only at hP hK
    show Gl 0 (zent 2 [.ref 119]) [] (0, 0) (zmW b σ τ)
    cases b
    · skip
      refine hG 1000 _ _ _ _ _ ?_
      repeat (first
        | (conv => whnf
           try dsimp only
           try simp (decide := true) only [hP, zmW, cond, zT2, znew, zu_same, zu_ne1, zu_ne2, zuL_same, zuL_ne1, zuL_ne2, zrow_n1, zx0, zx1, zx2, zx3, zf_0_13, zf_0_14, zf_0_15, zf_1_3, zf_15_0, zf_16_0, zf_17_10, zf_86_3, zf_90_6, zf_90_7, zf_94_7, zf_100_6, zf_100_7, zf_118_0, zf_118_1, zf_118_2, zf_118_3, zg_119_0, zg_119_5, zg_119_9, zg_119_15, zg_119_19, zg_119_22, zg_119_1, zg_119_16, zg_120_0, zg_120_1, zg_120_2, zg_120_3, zg_121_0, zg_122_0, zg_124_0, zg_126_0, zg_127_0, zg_128_0, zg_129_0, zg_131_0, zg_131_1, zg_131_2, zg_131_3, Nat.reduceAdd, Nat.reduceMul, Int32.reduceAdd, Int32.reduceSub, Int32.reduceMul]
           first
           | refine ⟨vp_inb rfl, ?_⟩
           | refine ⟨fun h => absurd h (of_decide_eq_false rfl), fun _ => ?_⟩
           | refine ⟨fun _ => ?_, fun h => absurd (of_decide_eq_true rfl) h⟩
           | refine ⟨fun _ => ?_, fun h => absurd h (of_decide_eq_false rfl)⟩
           | refine ⟨fun h => absurd (of_decide_eq_true rfl) h, fun _ => ?_⟩
           | refine ⟨of_decide_eq_true rfl, ?_⟩
           | refine ⟨rfl, ?_⟩)
        | (conv => whnf
           fail_if_success refine Exists.intro ?_ ?_
           simp only [hP, zmW, cond, zT2, znew]))
      try (conv => whnf)
      refine ⟨((145, zSH, zRH, σ, τ), ()), rfl, rfl, ⟨rfl, hP⟩, ?_⟩
      try dsimp only
      repeat (first
        | (conv => whnf
           try dsimp only
           try simp (decide := true) only [hP, zmW, cond, zT2, znew, zu_same, zu_ne1, zu_ne2, zuL_same, zuL_ne1, zuL_ne2, zrow_n1, zx0, zx1, zx2, zx3, zf_0_13, zf_0_14, zf_0_15, zf_1_3, zf_15_0, zf_16_0, zf_17_10, zf_86_3, zf_90_6, zf_90_7, zf_94_7, zf_100_6, zf_100_7, zf_118_0, zf_118_1, zf_118_2, zf_118_3, zg_119_0, zg_119_5, zg_119_9, zg_119_15, zg_119_19, zg_119_22, zg_119_1, zg_119_16, zg_120_0, zg_120_1, zg_120_2, zg_120_3, zg_121_0, zg_122_0, zg_124_0, zg_126_0, zg_127_0, zg_128_0, zg_129_0, zg_131_0, zg_131_1, zg_131_2, zg_131_3, Nat.reduceAdd, Nat.reduceMul, Int32.reduceAdd, Int32.reduceSub, Int32.reduceMul]
           first
           | refine ⟨vp_inb rfl, ?_⟩
           | refine ⟨fun h => absurd h (of_decide_eq_false rfl), fun _ => ?_⟩
           | refine ⟨fun _ => ?_, fun h => absurd (of_decide_eq_true rfl) h⟩
           | refine ⟨fun _ => ?_, fun h => absurd h (of_decide_eq_false rfl)⟩
           | refine ⟨fun h => absurd (of_decide_eq_true rfl) h, fun _ => ?_⟩
           | refine ⟨of_decide_eq_true rfl, ?_⟩
           | refine ⟨rfl, ?_⟩)
        | (conv => whnf
           fail_if_success refine Exists.intro ?_ ?_
           simp only [hP, zmW, cond, zT2, znew]))
      try (conv => whnf)
      refine ⟨(false, zu σ 119 19 0, τ), rfl, rfl, (zu_ne2 (j := 19) (j' := 5) (by decide)).trans hP, ?_⟩
      try dsimp only
      repeat (first
        | (conv => whnf
           try dsimp only
           try simp (decide := true) only [hP, zmW, cond, zT2, znew, zu_same, zu_ne1, zu_ne2, zuL_same, zuL_ne1, zuL_ne2, zrow_n1, zx0, zx1, zx2, zx3, zf_0_13, zf_0_14, zf_0_15, zf_1_3, zf_15_0, zf_16_0, zf_17_10, zf_86_3, zf_90_6, zf_90_7, zf_94_7, zf_100_6, zf_100_7, zf_118_0, zf_118_1, zf_118_2, zf_118_3, zg_119_0, zg_119_5, zg_119_9, zg_119_15, zg_119_19, zg_119_22, zg_119_1, zg_119_16, zg_120_0, zg_120_1, zg_120_2, zg_120_3, zg_121_0, zg_122_0, zg_124_0, zg_126_0, zg_127_0, zg_128_0, zg_129_0, zg_131_0, zg_131_1, zg_131_2, zg_131_3, Nat.reduceAdd, Nat.reduceMul, Int32.reduceAdd, Int32.reduceSub, Int32.reduceMul]
           first
           | refine ⟨vp_inb rfl, ?_⟩
           | refine ⟨fun h => absurd h (of_decide_eq_false rfl), fun _ => ?_⟩
           | refine ⟨fun _ => ?_, fun h => absurd (of_decide_eq_true rfl) h⟩
           | refine ⟨fun _ => ?_, fun h => absurd h (of_decide_eq_false rfl)⟩
           | refine ⟨fun h => absurd (of_decide_eq_true rfl) h, fun _ => ?_⟩
           | refine ⟨of_decide_eq_true rfl, ?_⟩
           | refine ⟨rfl, ?_⟩)
        | (conv => whnf
           fail_if_success refine Exists.intro ?_ ?_
           simp only [hP, zmW, cond, zT2, znew]))
      try (conv => whnf)
      exact hK
    · skip
      refine hG 1000 _ _ _ _ _ ?_
      repeat (first
        | (conv => whnf
           try dsimp only
           try simp (decide := true) only [hP, zmW, cond, zT2, znew, zu_same, zu_ne1, zu_ne2, zuL_same, zuL_ne1, zuL_ne2, zrow_n1, zx0, zx1, zx2, zx3, zf_0_13, zf_0_14, zf_0_15, zf_1_3, zf_15_0, zf_16_0, zf_17_10, zf_86_3, zf_90_6, zf_90_7, zf_94_7, zf_100_6, zf_100_7, zf_118_0, zf_118_1, zf_118_2, zf_118_3, zg_119_0, zg_119_5, zg_119_9, zg_119_15, zg_119_19, zg_119_22, zg_119_1, zg_119_16, zg_120_0, zg_120_1, zg_120_2, zg_120_3, zg_121_0, zg_122_0, zg_124_0, zg_126_0, zg_127_0, zg_128_0, zg_129_0, zg_131_0, zg_131_1, zg_131_2, zg_131_3, Nat.reduceAdd, Nat.reduceMul, Int32.reduceAdd, Int32.reduceSub, Int32.reduceMul]
           first
           | refine ⟨vp_inb rfl, ?_⟩
           | refine ⟨fun h => absurd h (of_decide_eq_false rfl), fun _ => ?_⟩
           | refine ⟨fun _ => ?_, fun h => absurd (of_decide_eq_true rfl) h⟩
           | refine ⟨fun _ => ?_, fun h => absurd h (of_decide_eq_false rfl)⟩
           | refine ⟨fun h => absurd (of_decide_eq_true rfl) h, fun _ => ?_⟩
           | refine ⟨of_decide_eq_true rfl, ?_⟩
           | refine ⟨rfl, ?_⟩)
        | (conv => whnf
           fail_if_success refine Exists.intro ?_ ?_
           simp only [hP, zmW, cond, zT2, znew]))
      try (conv => whnf)
      refine ⟨((146, zSH1, zRH1, σ, τ), ()), rfl, rfl, ⟨rfl, hP⟩, ?_⟩
      try dsimp only
      repeat (first
        | (conv => whnf
           try dsimp only
           try simp (decide := true) only [hP, zmW, cond, zT2, znew, zu_same, zu_ne1, zu_ne2, zuL_same, zuL_ne1, zuL_ne2, zrow_n1, zx0, zx1, zx2, zx3, zf_0_13, zf_0_14, zf_0_15, zf_1_3, zf_15_0, zf_16_0, zf_17_10, zf_86_3, zf_90_6, zf_90_7, zf_94_7, zf_100_6, zf_100_7, zf_118_0, zf_118_1, zf_118_2, zf_118_3, zg_119_0, zg_119_5, zg_119_9, zg_119_15, zg_119_19, zg_119_22, zg_119_1, zg_119_16, zg_120_0, zg_120_1, zg_120_2, zg_120_3, zg_121_0, zg_122_0, zg_124_0, zg_126_0, zg_127_0, zg_128_0, zg_129_0, zg_131_0, zg_131_1, zg_131_2, zg_131_3, Nat.reduceAdd, Nat.reduceMul, Int32.reduceAdd, Int32.reduceSub, Int32.reduceMul]
           first
           | refine ⟨vp_inb rfl, ?_⟩
           | refine ⟨fun h => absurd h (of_decide_eq_false rfl), fun _ => ?_⟩
           | refine ⟨fun _ => ?_, fun h => absurd (of_decide_eq_true rfl) h⟩
           | refine ⟨fun _ => ?_, fun h => absurd h (of_decide_eq_false rfl)⟩
           | refine ⟨fun h => absurd (of_decide_eq_true rfl) h, fun _ => ?_⟩
           | refine ⟨of_decide_eq_true rfl, ?_⟩
           | refine ⟨rfl, ?_⟩)
        | (conv => whnf
           fail_if_success refine Exists.intro ?_ ?_
           simp only [hP, zmW, cond, zT2, znew]))
      try (conv => whnf)
      refine ⟨(true, zu σ 119 19 0, τ), rfl, rfl, (zu_ne2 (j := 19) (j' := 5) (by decide)).trans hP, ?_⟩
      try dsimp only
      repeat (first
        | (conv => whnf
           try dsimp only
           try simp (decide := true) only [hP, zmW, cond, zT2, znew, zu_same, zu_ne1, zu_ne2, zuL_same, zuL_ne1, zuL_ne2, zrow_n1, zx0, zx1, zx2, zx3, zf_0_13, zf_0_14, zf_0_15, zf_1_3, zf_15_0, zf_16_0, zf_17_10, zf_86_3, zf_90_6, zf_90_7, zf_94_7, zf_100_6, zf_100_7, zf_118_0, zf_118_1, zf_118_2, zf_118_3, zg_119_0, zg_119_5, zg_119_9, zg_119_15, zg_119_19, zg_119_22, zg_119_1, zg_119_16, zg_120_0, zg_120_1, zg_120_2, zg_120_3, zg_121_0, zg_122_0, zg_124_0, zg_126_0, zg_127_0, zg_128_0, zg_129_0, zg_131_0, zg_131_1, zg_131_2, zg_131_3, Nat.reduceAdd, Nat.reduceMul, Int32.reduceAdd, Int32.reduceSub, Int32.reduceMul]
           first
           | refine ⟨vp_inb rfl, ?_⟩
           | refine ⟨fun h => absurd h (of_decide_eq_false rfl), fun _ => ?_⟩
           | refine ⟨fun _ => ?_, fun h => absurd (of_decide_eq_true rfl) h⟩
           | refine ⟨fun _ => ?_, fun h => absurd h (of_decide_eq_false rfl)⟩
           | refine ⟨fun h => absurd (of_decide_eq_true rfl) h, fun _ => ?_⟩
           | refine ⟨of_decide_eq_true rfl, ?_⟩
           | refine ⟨rfl, ?_⟩)
        | (conv => whnf
           fail_if_success refine Exists.intro ?_ ?_
           simp only [hP, zmW, cond, zT2, znew]))
      try (conv => whnf)
      exact hK
def spX8_moved : zSp := zD (X := zIn × zLo) (fun x => match x with | (σ, τ) => [.ref 119]) (fun x => match x with | (σ, τ) => (145, zSH, zRH, σ, τ)) (fun x => match x with | (σ, τ) => σ 119 5 = 0) (fun x => match x with | (σ, τ) => some (.ref 145)) (fun x => match x with | (σ, τ) => znew (145, zSH, zRH, σ, τ) (100, 16))
abbrev rmX8_moved : Room := ({ frames := 1, cells := 1, slots := 16, locals := 26 } : Room)
set_option maxRecDepth 100000 in
set_option maxHeartbeats 4000000 in
theorem ctX8_moved (l : Launch) (D : va_G) (cA : Nat → ClassId) : zCt false l D cA yX8_moved cX8_moved 5 (some (.array .int)) rmX8_moved spX8_moved := by
  refine zct_D (zCX8_moved [(122, 1, 5, spCopy, 0, 0)]) zpX8_moved [] (by decide +kernel) zkX8_moved (Or.inr (by decide +kernel)) trivial ⟨by decide +kernel, by decide +kernel⟩ (fun x ad => Nat.le_of_ble_eq_true rfl) ?_ ?_
  · intro p e s m args below meth c A H0 ad0 n0 Q F hml hNw hA hX
    exact ⟨zco_copy F hml ⟨zlX8_moved_122, zlib_copy⟩ ⟨Nat.le_of_ble_eq_true rfl, Nat.le_of_ble_eq_true rfl⟩, trivial⟩
  · rintro ⟨σ, τ⟩ Ret hP hK Gl hG
    try dsimp only at hP hK
    show Gl 0 (zent 5 [.ref 119]) [] (0, 0) ((145, zSH, zRH, σ, τ))
    refine hG 1000 _ _ _ _ _ ?_
    repeat (first
      | (conv => whnf
         try dsimp only
         try simp (decide := true) only [hP, znew, zu_same, zu_ne1, zu_ne2, zuL_same, zuL_ne1, zuL_ne2, zrow_n1, zx0, zx1, zx2, zx3, zf_0_13, zf_0_14, zf_0_15, zf_1_3, zf_15_0, zf_16_0, zf_17_10, zf_86_3, zf_90_6, zf_90_7, zf_94_7, zf_100_6, zf_100_7, zf_118_0, zf_118_1, zf_118_2, zf_118_3, zg_119_0, zg_119_5, zg_119_9, zg_119_15, zg_119_19, zg_119_22, zg_119_1, zg_119_16, zg_120_0, zg_120_1, zg_120_2, zg_120_3, zg_121_0, zg_122_0, zg_124_0, zg_126_0, zg_127_0, zg_128_0, zg_129_0, zg_131_0, zg_131_1, zg_131_2, zg_131_3, Nat.reduceAdd, Nat.reduceMul, Int32.reduceAdd, Int32.reduceSub, Int32.reduceMul]
         first
         | refine ⟨vp_inb rfl, ?_⟩
         | refine ⟨fun h => absurd h (of_decide_eq_false rfl), fun _ => ?_⟩
         | refine ⟨fun _ => ?_, fun h => absurd (of_decide_eq_true rfl) h⟩
         | refine ⟨fun _ => ?_, fun h => absurd h (of_decide_eq_false rfl)⟩
         | refine ⟨fun h => absurd (of_decide_eq_true rfl) h, fun _ => ?_⟩
         | refine ⟨of_decide_eq_true rfl, ?_⟩
         | refine ⟨rfl, ?_⟩)
      | (conv => whnf
         fail_if_success refine Exists.intro ?_ ?_
         simp only [hP, znew]))
    try (conv => whnf)
    exact hK
def spX8_forget : zSp := zD (X := zM × Unit) (fun x => match x with | (μ, _) => [.ref 119]) (fun x => match x with | (μ, _) => μ) (fun x => match x with | (μ, _) => μ.2.1 119 = (8, 0) ∧ μ.2.2.2.1 119 9 = 0) (fun x => match x with | (μ, _) => none) (fun x => match x with | (μ, _) => μ)
abbrev rmX8_forget : Room := ({ frames := 0, cells := 0, slots := 0, locals := 0 } : Room)
set_option maxRecDepth 100000 in
set_option maxHeartbeats 4000000 in
theorem ctX8_forget (l : Launch) (D : va_G) (cA : Nat → ClassId) : zCt false l D cA yX8_forget cX8_forget 2 (none) rmX8_forget spX8_forget := by
  refine zct_D (zCX8_forget []) zpX8_forget [] (by decide +kernel) zkX8_forget (Or.inr (by decide +kernel)) trivial ⟨by decide +kernel, by decide +kernel⟩ (fun x ad => Nat.le_of_ble_eq_true rfl) ?_ ?_
  · intro p e s m args below meth c A H0 ad0 n0 Q F hml hNw hA hX
    exact trivial
  · rintro ⟨μ, _⟩ Ret hP hK Gl hG
    try dsimp only at hP hK
    show Gl 0 (zent 2 [.ref 119]) [] (0, 0) (μ)
    refine hG 1000 _ _ _ _ _ ?_
    repeat (first
      | (conv => whnf
         try dsimp only
         try simp (decide := true) only [hP.1, hP.2, zu_same, zu_ne1, zu_ne2, zuL_same, zuL_ne1, zuL_ne2, zrow_n1, zx0, zx1, zx2, zx3, zf_0_13, zf_0_14, zf_0_15, zf_1_3, zf_15_0, zf_16_0, zf_17_10, zf_86_3, zf_90_6, zf_90_7, zf_94_7, zf_100_6, zf_100_7, zf_118_0, zf_118_1, zf_118_2, zf_118_3, zg_119_0, zg_119_5, zg_119_9, zg_119_15, zg_119_19, zg_119_22, zg_119_1, zg_119_16, zg_120_0, zg_120_1, zg_120_2, zg_120_3, zg_121_0, zg_122_0, zg_124_0, zg_126_0, zg_127_0, zg_128_0, zg_129_0, zg_131_0, zg_131_1, zg_131_2, zg_131_3, Nat.reduceAdd, Nat.reduceMul, Int32.reduceAdd, Int32.reduceSub, Int32.reduceMul]
         first
         | refine ⟨vp_inb rfl, ?_⟩
         | refine ⟨fun h => absurd h (of_decide_eq_false rfl), fun _ => ?_⟩
         | refine ⟨fun _ => ?_, fun h => absurd (of_decide_eq_true rfl) h⟩
         | refine ⟨fun _ => ?_, fun h => absurd h (of_decide_eq_false rfl)⟩
         | refine ⟨fun h => absurd (of_decide_eq_true rfl) h, fun _ => ?_⟩
         | refine ⟨of_decide_eq_true rfl, ?_⟩
         | refine ⟨rfl, ?_⟩)
      | (conv => whnf
         fail_if_success refine Exists.intro ?_ ?_
         simp only [hP.1, hP.2]))
    try (conv => whnf)
    exact hK
def spX8_mostNow : zSp := zD (X := zM × Unit) (fun x => match x with | (μ, _) => [.ref 119]) (fun x => match x with | (μ, _) => μ) (fun x => match x with | (μ, _) => μ.2.1 119 = (8, 0) ∧ μ.2.2.2.1 119 22 = 0) (fun x => match x with | (μ, _) => some (.int 0)) (fun x => match x with | (μ, _) => μ)
abbrev rmX8_mostNow : Room := ({ frames := 1, cells := 0, slots := 0, locals := 26 } : Room)
set_option maxRecDepth 100000 in
set_option maxHeartbeats 4000000 in
theorem ctX8_mostNow (l : Launch) (D : va_G) (cA : Nat → ClassId) : zCt false l D cA yX8_mostNow cX8_mostNow 3 (some .int) rmX8_mostNow spX8_mostNow := by
  refine zct_D (zCX8_mostNow [(237, 1, 2, spMax, 0, 0)]) zpX8_mostNow [] (by decide +kernel) zkX8_mostNow (Or.inr (by decide +kernel)) trivial ⟨by decide +kernel, by decide +kernel⟩ (fun x ad => Nat.le_of_ble_eq_true rfl) ?_ ?_
  · intro p e s m args below meth c A H0 ad0 n0 Q F hml hNw hA hX
    exact ⟨zco_max F hml ⟨zlX8_mostNow_237, zlib_max⟩ ⟨Nat.le_of_ble_eq_true rfl, Nat.le_of_ble_eq_true rfl⟩, trivial⟩
  · rintro ⟨μ, _⟩ Ret hP hK Gl hG
    try dsimp only at hP hK
    show Gl 0 (zent 3 [.ref 119]) [] (0, 0) (μ)
    refine hG 1000 _ _ _ _ _ ?_
    repeat (first
      | (conv => whnf
         try dsimp only
         try simp (decide := true) only [hP.1, hP.2, zu_same, zu_ne1, zu_ne2, zuL_same, zuL_ne1, zuL_ne2, zrow_n1, zx0, zx1, zx2, zx3, zf_0_13, zf_0_14, zf_0_15, zf_1_3, zf_15_0, zf_16_0, zf_17_10, zf_86_3, zf_90_6, zf_90_7, zf_94_7, zf_100_6, zf_100_7, zf_118_0, zf_118_1, zf_118_2, zf_118_3, zg_119_0, zg_119_5, zg_119_9, zg_119_15, zg_119_19, zg_119_22, zg_119_1, zg_119_16, zg_120_0, zg_120_1, zg_120_2, zg_120_3, zg_121_0, zg_122_0, zg_124_0, zg_126_0, zg_127_0, zg_128_0, zg_129_0, zg_131_0, zg_131_1, zg_131_2, zg_131_3, Nat.reduceAdd, Nat.reduceMul, Int32.reduceAdd, Int32.reduceSub, Int32.reduceMul]
         first
         | refine ⟨vp_inb rfl, ?_⟩
         | refine ⟨fun h => absurd h (of_decide_eq_false rfl), fun _ => ?_⟩
         | refine ⟨fun _ => ?_, fun h => absurd (of_decide_eq_true rfl) h⟩
         | refine ⟨fun _ => ?_, fun h => absurd h (of_decide_eq_false rfl)⟩
         | refine ⟨fun h => absurd (of_decide_eq_true rfl) h, fun _ => ?_⟩
         | refine ⟨of_decide_eq_true rfl, ?_⟩
         | refine ⟨rfl, ?_⟩)
      | (conv => whnf
         fail_if_success refine Exists.intro ?_ ?_
         simp only [hP.1, hP.2]))
    try (conv => whnf)
    exact hK
def spX8_brokenNow : zSp := zD (X := zM × Unit) (fun x => match x with | (μ, _) => [.ref 119]) (fun x => match x with | (μ, _) => μ) (fun x => match x with | (μ, _) => μ.2.1 119 = (8, 0) ∧ μ.2.2.2.1 119 5 = 0) (fun x => match x with | (μ, _) => some (.int 0)) (fun x => match x with | (μ, _) => μ)
abbrev rmX8_brokenNow : Room := ({ frames := 0, cells := 0, slots := 0, locals := 0 } : Room)
set_option maxRecDepth 100000 in
set_option maxHeartbeats 4000000 in
theorem ctX8_brokenNow (l : Launch) (D : va_G) (cA : Nat → ClassId) : zCt false l D cA yX8_brokenNow cX8_brokenNow 3 (some .int) rmX8_brokenNow spX8_brokenNow := by
  refine zct_D (zCX8_brokenNow []) zpX8_brokenNow [] (by decide +kernel) zkX8_brokenNow (Or.inr (by decide +kernel)) trivial ⟨by decide +kernel, by decide +kernel⟩ (fun x ad => Nat.le_of_ble_eq_true rfl) ?_ ?_
  · intro p e s m args below meth c A H0 ad0 n0 Q F hml hNw hA hX
    exact trivial
  · rintro ⟨μ, _⟩ Ret hP hK Gl hG
    try dsimp only at hP hK
    show Gl 0 (zent 3 [.ref 119]) [] (0, 0) (μ)
    refine hG 1000 _ _ _ _ _ ?_
    repeat (first
      | (conv => whnf
         try dsimp only
         try simp (decide := true) only [hP.1, hP.2, zu_same, zu_ne1, zu_ne2, zuL_same, zuL_ne1, zuL_ne2, zrow_n1, zx0, zx1, zx2, zx3, zf_0_13, zf_0_14, zf_0_15, zf_1_3, zf_15_0, zf_16_0, zf_17_10, zf_86_3, zf_90_6, zf_90_7, zf_94_7, zf_100_6, zf_100_7, zf_118_0, zf_118_1, zf_118_2, zf_118_3, zg_119_0, zg_119_5, zg_119_9, zg_119_15, zg_119_19, zg_119_22, zg_119_1, zg_119_16, zg_120_0, zg_120_1, zg_120_2, zg_120_3, zg_121_0, zg_122_0, zg_124_0, zg_126_0, zg_127_0, zg_128_0, zg_129_0, zg_131_0, zg_131_1, zg_131_2, zg_131_3, Nat.reduceAdd, Nat.reduceMul, Int32.reduceAdd, Int32.reduceSub, Int32.reduceMul]
         first
         | refine ⟨vp_inb rfl, ?_⟩
         | refine ⟨fun h => absurd h (of_decide_eq_false rfl), fun _ => ?_⟩
         | refine ⟨fun _ => ?_, fun h => absurd (of_decide_eq_true rfl) h⟩
         | refine ⟨fun _ => ?_, fun h => absurd h (of_decide_eq_false rfl)⟩
         | refine ⟨fun h => absurd (of_decide_eq_true rfl) h, fun _ => ?_⟩
         | refine ⟨of_decide_eq_true rfl, ?_⟩
         | refine ⟨rfl, ?_⟩)
      | (conv => whnf
         fail_if_success refine Exists.intro ?_ ?_
         simp only [hP.1, hP.2]))
    try (conv => whnf)
    exact hK

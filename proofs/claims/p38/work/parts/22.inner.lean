/-! ===== the inner methods of the model ===== -/
def spX7_needUnit : zSp := zD (X := zIn × zLo × Nat × Nat) (fun x => match x with | (σ, τ, n, v) => [.ref 0, .int (nI v)]) (fun x => match x with | (σ, τ, n, v) => (119, zSH, zRH, σ, τ)) (fun x => match x with | (σ, τ, n, v) => σ 1 3 = nI n ∧ n ≤ 12 ∧ v < n) (fun x => match x with | (σ, τ, n, v) => none) (fun x => match x with | (σ, τ, n, v) => (119, zSH, zRH, σ, τ))
abbrev rmX7_needUnit : Room := ({ frames := 1, cells := 0, slots := 0, locals := 21 } : Room)
set_option maxRecDepth 100000 in
set_option maxHeartbeats 4000000 in
theorem ctX7_needUnit (l : Launch) (D : va_G) (cA : Nat → ClassId) : zCt false l D cA yX7_needUnit cX7_needUnit 2 (none) rmX7_needUnit spX7_needUnit := by
  refine zct_D (zCX7_needUnit [(306, 0, 1, spX5_has, rmX5_has.cells, rmX5_has.slots)]) zpX7_needUnit [] (by decide +kernel) zkX7_needUnit (Or.inr (by decide +kernel)) trivial ⟨by decide +kernel, by decide +kernel⟩ (fun x ad => Nat.le_of_ble_eq_true rfl) ?_ ?_
  · intro p e s m args below meth c A H0 ad0 n0 Q F hml hNw hA hX
    exact ⟨zco_V hX hA F hml hNw (ctX5_has l D cA) ⟨⟨zlX7_needUnit_306, zwX5_has.1.1, zwX5_has.1.2⟩, zwX5_has.2⟩ zdX5_has ⟨Nat.le_of_ble_eq_true rfl, Nat.le_of_ble_eq_true rfl⟩ (ci := 5) (by decide) rfl (by rintro av μ K ⟨x, rfl, rfl, -⟩; exact ⟨_, _, rfl, rfl⟩), trivial⟩
  · rintro ⟨σ, τ, n, v⟩ Ret hP hK Gl hG
    try dsimp only at hP hK
    show Gl 0 (zent 2 [.ref 0, .int (nI v)]) [] (0, 0) ((119, zSH, zRH, σ, τ))
    obtain ⟨hn, h16, hv⟩ := hP
    refine hG 40 _ _ _ _ _ ?_
    repeat (conv => whnf
            try dsimp only
            try simp (decide := true) only [zu_same, zu_ne1, zu_ne2, zu_row, zuL_same, zuL_ne1, zuL_ne2, zrow_n1, zx0, zx1, zx2, zx3, nI_1, Nat.reduceAdd, Nat.reduceMul, Int32.reduceAdd, Int32.reduceSub, Int32.reduceMul]
            first
            | refine ⟨vp_inb (by decide), ?_⟩
            | refine ⟨by with_reducible exact zi (by omega), ?_⟩
            | refine ⟨fun h => absurd h (by with_reducible exact nI_ge (by omega) (by omega)), fun _ => ?_⟩
            | refine ⟨fun _ => ?_, fun h => absurd (by with_reducible exact nI_le (by omega) (by omega)) h⟩
            | refine ⟨fun h => absurd h (by with_reducible exact nI_nlt (by omega) (by omega)), fun _ => ?_⟩
            | refine ⟨fun _ => ?_, fun h => absurd (by with_reducible exact nI_lt (by omega) (by omega)) h⟩
            | refine ⟨fun h => absurd h (by with_reducible exact nI_pos (by omega)), fun _ => ?_⟩
            | refine ⟨fun _ => ?_, fun h => absurd (by with_reducible exact nI_0le (by omega)) h⟩
            | refine ⟨fun h => absurd h (by decide), fun _ => ?_⟩
            | refine ⟨fun _ => ?_, fun h => absurd (by decide) h⟩
            | refine ⟨fun _ => ?_, fun h => absurd h (by decide)⟩
            | refine ⟨fun h => absurd (by decide) h, fun _ => ?_⟩
            | refine ⟨by decide, ?_⟩
            | refine ⟨rfl, ?_⟩)
    try (conv => whnf)
    refine ⟨(σ, τ, nI v), rfl, rfl, trivial, ?_⟩
    try dsimp only [cond_true, cond_false]
    rw [if_pos ⟨nI_0le (by omega), by rw [hn]; exact nI_lt hv (by omega)⟩]
    repeat (conv => whnf
            try dsimp only
            try simp (decide := true) only [zu_same, zu_ne1, zu_ne2, zu_row, zuL_same, zuL_ne1, zuL_ne2, zrow_n1, zx0, zx1, zx2, zx3, nI_1, Nat.reduceAdd, Nat.reduceMul, Int32.reduceAdd, Int32.reduceSub, Int32.reduceMul]
            first
            | refine ⟨vp_inb (by decide), ?_⟩
            | refine ⟨by with_reducible exact zi (by omega), ?_⟩
            | refine ⟨fun h => absurd h (by with_reducible exact nI_ge (by omega) (by omega)), fun _ => ?_⟩
            | refine ⟨fun _ => ?_, fun h => absurd (by with_reducible exact nI_le (by omega) (by omega)) h⟩
            | refine ⟨fun h => absurd h (by with_reducible exact nI_nlt (by omega) (by omega)), fun _ => ?_⟩
            | refine ⟨fun _ => ?_, fun h => absurd (by with_reducible exact nI_lt (by omega) (by omega)) h⟩
            | refine ⟨fun h => absurd h (by with_reducible exact nI_pos (by omega)), fun _ => ?_⟩
            | refine ⟨fun _ => ?_, fun h => absurd (by with_reducible exact nI_0le (by omega)) h⟩
            | refine ⟨fun h => absurd h (by decide), fun _ => ?_⟩
            | refine ⟨fun _ => ?_, fun h => absurd (by decide) h⟩
            | refine ⟨fun _ => ?_, fun h => absurd h (by decide)⟩
            | refine ⟨fun h => absurd (by decide) h, fun _ => ?_⟩
            | refine ⟨by decide, ?_⟩
            | refine ⟨rfl, ?_⟩)
    try (conv => whnf)
    exact hK
def spX7_needVariable : zSp := zD (X := zIn × zLo × Nat × Nat) (fun x => match x with | (σ, τ, n, v) => [.ref 0, .int (nI v)]) (fun x => match x with | (σ, τ, n, v) => (119, zSH, zRH, σ, τ)) (fun x => match x with | (σ, τ, n, v) => σ 86 3 = nI n ∧ n ≤ 16 ∧ v < n) (fun x => match x with | (σ, τ, n, v) => none) (fun x => match x with | (σ, τ, n, v) => (119, zSH, zRH, σ, τ))
abbrev rmX7_needVariable : Room := ({ frames := 1, cells := 0, slots := 0, locals := 21 } : Room)
set_option maxRecDepth 100000 in
set_option maxHeartbeats 4000000 in
theorem ctX7_needVariable (l : Launch) (D : va_G) (cA : Nat → ClassId) : zCt false l D cA yX7_needVariable cX7_needVariable 2 (none) rmX7_needVariable spX7_needVariable := by
  refine zct_D (zCX7_needVariable [(309, 0, 1, spX6_has, rmX6_has.cells, rmX6_has.slots)]) zpX7_needVariable [] (by decide +kernel) zkX7_needVariable (Or.inr (by decide +kernel)) trivial ⟨by decide +kernel, by decide +kernel⟩ (fun x ad => Nat.le_of_ble_eq_true rfl) ?_ ?_
  · intro p e s m args below meth c A H0 ad0 n0 Q F hml hNw hA hX
    exact ⟨zco_V hX hA F hml hNw (ctX6_has l D cA) ⟨⟨zlX7_needVariable_309, zwX6_has.1.1, zwX6_has.1.2⟩, zwX6_has.2⟩ zdX6_has ⟨Nat.le_of_ble_eq_true rfl, Nat.le_of_ble_eq_true rfl⟩ (ci := 6) (by decide) rfl (by rintro av μ K ⟨x, rfl, rfl, -⟩; exact ⟨_, _, rfl, rfl⟩), trivial⟩
  · rintro ⟨σ, τ, n, v⟩ Ret hP hK Gl hG
    try dsimp only at hP hK
    show Gl 0 (zent 2 [.ref 0, .int (nI v)]) [] (0, 0) ((119, zSH, zRH, σ, τ))
    obtain ⟨hn, h16, hv⟩ := hP
    refine hG 40 _ _ _ _ _ ?_
    repeat (conv => whnf
            try dsimp only
            try simp (decide := true) only [zu_same, zu_ne1, zu_ne2, zu_row, zuL_same, zuL_ne1, zuL_ne2, zrow_n1, zx0, zx1, zx2, zx3, nI_1, Nat.reduceAdd, Nat.reduceMul, Int32.reduceAdd, Int32.reduceSub, Int32.reduceMul]
            first
            | refine ⟨vp_inb (by decide), ?_⟩
            | refine ⟨by with_reducible exact zi (by omega), ?_⟩
            | refine ⟨fun h => absurd h (by with_reducible exact nI_ge (by omega) (by omega)), fun _ => ?_⟩
            | refine ⟨fun _ => ?_, fun h => absurd (by with_reducible exact nI_le (by omega) (by omega)) h⟩
            | refine ⟨fun h => absurd h (by with_reducible exact nI_nlt (by omega) (by omega)), fun _ => ?_⟩
            | refine ⟨fun _ => ?_, fun h => absurd (by with_reducible exact nI_lt (by omega) (by omega)) h⟩
            | refine ⟨fun h => absurd h (by with_reducible exact nI_pos (by omega)), fun _ => ?_⟩
            | refine ⟨fun _ => ?_, fun h => absurd (by with_reducible exact nI_0le (by omega)) h⟩
            | refine ⟨fun h => absurd h (by decide), fun _ => ?_⟩
            | refine ⟨fun _ => ?_, fun h => absurd (by decide) h⟩
            | refine ⟨fun _ => ?_, fun h => absurd h (by decide)⟩
            | refine ⟨fun h => absurd (by decide) h, fun _ => ?_⟩
            | refine ⟨by decide, ?_⟩
            | refine ⟨rfl, ?_⟩)
    try (conv => whnf)
    refine ⟨(σ, τ, nI v), rfl, rfl, trivial, ?_⟩
    try dsimp only [cond_true, cond_false]
    rw [if_pos ⟨nI_0le (by omega), by rw [hn]; exact nI_lt hv (by omega)⟩]
    repeat (conv => whnf
            try dsimp only
            try simp (decide := true) only [zu_same, zu_ne1, zu_ne2, zu_row, zuL_same, zuL_ne1, zuL_ne2, zrow_n1, zx0, zx1, zx2, zx3, nI_1, Nat.reduceAdd, Nat.reduceMul, Int32.reduceAdd, Int32.reduceSub, Int32.reduceMul]
            first
            | refine ⟨vp_inb (by decide), ?_⟩
            | refine ⟨by with_reducible exact zi (by omega), ?_⟩
            | refine ⟨fun h => absurd h (by with_reducible exact nI_ge (by omega) (by omega)), fun _ => ?_⟩
            | refine ⟨fun _ => ?_, fun h => absurd (by with_reducible exact nI_le (by omega) (by omega)) h⟩
            | refine ⟨fun h => absurd h (by with_reducible exact nI_nlt (by omega) (by omega)), fun _ => ?_⟩
            | refine ⟨fun _ => ?_, fun h => absurd (by with_reducible exact nI_lt (by omega) (by omega)) h⟩
            | refine ⟨fun h => absurd h (by with_reducible exact nI_pos (by omega)), fun _ => ?_⟩
            | refine ⟨fun _ => ?_, fun h => absurd (by with_reducible exact nI_0le (by omega)) h⟩
            | refine ⟨fun h => absurd h (by decide), fun _ => ?_⟩
            | refine ⟨fun _ => ?_, fun h => absurd (by decide) h⟩
            | refine ⟨fun _ => ?_, fun h => absurd h (by decide)⟩
            | refine ⟨fun h => absurd (by decide) h, fun _ => ?_⟩
            | refine ⟨by decide, ?_⟩
            | refine ⟨rfl, ?_⟩)
    try (conv => whnf)
    exact hK
def spX7_needPart : zSp := zD (X := zIn × zLo × Nat × Nat) (fun x => match x with | (σ, τ, n, v) => [.ref 0, .int (nI v)]) (fun x => match x with | (σ, τ, n, v) => (119, zSH, zRH, σ, τ)) (fun x => match x with | (σ, τ, n, v) => σ 17 10 = nI n ∧ n ≤ 60 ∧ v < n) (fun x => match x with | (σ, τ, n, v) => none) (fun x => match x with | (σ, τ, n, v) => (119, zSH, zRH, σ, τ))
abbrev rmX7_needPart : Room := ({ frames := 1, cells := 0, slots := 0, locals := 21 } : Room)
set_option maxRecDepth 100000 in
set_option maxHeartbeats 4000000 in
theorem ctX7_needPart (l : Launch) (D : va_G) (cA : Nat → ClassId) : zCt false l D cA yX7_needPart cX7_needPart 2 (none) rmX7_needPart spX7_needPart := by
  refine zct_D (zCX7_needPart [(310, 0, 1, spX2_has, rmX2_has.cells, rmX2_has.slots)]) zpX7_needPart [] (by decide +kernel) zkX7_needPart (Or.inr (by decide +kernel)) trivial ⟨by decide +kernel, by decide +kernel⟩ (fun x ad => Nat.le_of_ble_eq_true rfl) ?_ ?_
  · intro p e s m args below meth c A H0 ad0 n0 Q F hml hNw hA hX
    exact ⟨zco_V hX hA F hml hNw (ctX2_has l D cA) ⟨⟨zlX7_needPart_310, zwX2_has.1.1, zwX2_has.1.2⟩, zwX2_has.2⟩ zdX2_has ⟨Nat.le_of_ble_eq_true rfl, Nat.le_of_ble_eq_true rfl⟩ (ci := 2) (by decide) rfl (by rintro av μ K ⟨x, rfl, rfl, -⟩; exact ⟨_, _, rfl, rfl⟩), trivial⟩
  · rintro ⟨σ, τ, n, v⟩ Ret hP hK Gl hG
    try dsimp only at hP hK
    show Gl 0 (zent 2 [.ref 0, .int (nI v)]) [] (0, 0) ((119, zSH, zRH, σ, τ))
    obtain ⟨hn, h16, hv⟩ := hP
    refine hG 40 _ _ _ _ _ ?_
    repeat (conv => whnf
            try dsimp only
            try simp (decide := true) only [zu_same, zu_ne1, zu_ne2, zu_row, zuL_same, zuL_ne1, zuL_ne2, zrow_n1, zx0, zx1, zx2, zx3, nI_1, Nat.reduceAdd, Nat.reduceMul, Int32.reduceAdd, Int32.reduceSub, Int32.reduceMul]
            first
            | refine ⟨vp_inb (by decide), ?_⟩
            | refine ⟨by with_reducible exact zi (by omega), ?_⟩
            | refine ⟨fun h => absurd h (by with_reducible exact nI_ge (by omega) (by omega)), fun _ => ?_⟩
            | refine ⟨fun _ => ?_, fun h => absurd (by with_reducible exact nI_le (by omega) (by omega)) h⟩
            | refine ⟨fun h => absurd h (by with_reducible exact nI_nlt (by omega) (by omega)), fun _ => ?_⟩
            | refine ⟨fun _ => ?_, fun h => absurd (by with_reducible exact nI_lt (by omega) (by omega)) h⟩
            | refine ⟨fun h => absurd h (by with_reducible exact nI_pos (by omega)), fun _ => ?_⟩
            | refine ⟨fun _ => ?_, fun h => absurd (by with_reducible exact nI_0le (by omega)) h⟩
            | refine ⟨fun h => absurd h (by decide), fun _ => ?_⟩
            | refine ⟨fun _ => ?_, fun h => absurd (by decide) h⟩
            | refine ⟨fun _ => ?_, fun h => absurd h (by decide)⟩
            | refine ⟨fun h => absurd (by decide) h, fun _ => ?_⟩
            | refine ⟨by decide, ?_⟩
            | refine ⟨rfl, ?_⟩)
    try (conv => whnf)
    refine ⟨(σ, τ, nI v), rfl, rfl, trivial, ?_⟩
    try dsimp only [cond_true, cond_false]
    rw [if_pos ⟨nI_0le (by omega), by rw [hn]; exact nI_lt hv (by omega)⟩]
    repeat (conv => whnf
            try dsimp only
            try simp (decide := true) only [zu_same, zu_ne1, zu_ne2, zu_row, zuL_same, zuL_ne1, zuL_ne2, zrow_n1, zx0, zx1, zx2, zx3, nI_1, Nat.reduceAdd, Nat.reduceMul, Int32.reduceAdd, Int32.reduceSub, Int32.reduceMul]
            first
            | refine ⟨vp_inb (by decide), ?_⟩
            | refine ⟨by with_reducible exact zi (by omega), ?_⟩
            | refine ⟨fun h => absurd h (by with_reducible exact nI_ge (by omega) (by omega)), fun _ => ?_⟩
            | refine ⟨fun _ => ?_, fun h => absurd (by with_reducible exact nI_le (by omega) (by omega)) h⟩
            | refine ⟨fun h => absurd h (by with_reducible exact nI_nlt (by omega) (by omega)), fun _ => ?_⟩
            | refine ⟨fun _ => ?_, fun h => absurd (by with_reducible exact nI_lt (by omega) (by omega)) h⟩
            | refine ⟨fun h => absurd h (by with_reducible exact nI_pos (by omega)), fun _ => ?_⟩
            | refine ⟨fun _ => ?_, fun h => absurd (by with_reducible exact nI_0le (by omega)) h⟩
            | refine ⟨fun h => absurd h (by decide), fun _ => ?_⟩
            | refine ⟨fun _ => ?_, fun h => absurd (by decide) h⟩
            | refine ⟨fun _ => ?_, fun h => absurd h (by decide)⟩
            | refine ⟨fun h => absurd (by decide) h, fun _ => ?_⟩
            | refine ⟨by decide, ?_⟩
            | refine ⟨rfl, ?_⟩)
    try (conv => whnf)
    exact hK
def spX7_needPlace : zSp := zD (X := zIn × zLo × Nat) (fun x => match x with | (σ, τ, v) => [.ref 0, .int (nI v)]) (fun x => match x with | (σ, τ, v) => (119, zSH, zRH, σ, τ)) (fun x => match x with | (σ, τ, v) => v < 4) (fun x => match x with | (σ, τ, v) => none) (fun x => match x with | (σ, τ, v) => (119, zSH, zRH, σ, τ))
abbrev rmX7_needPlace : Room := ({ frames := 0, cells := 0, slots := 0, locals := 0 } : Room)
set_option maxRecDepth 100000 in
set_option maxHeartbeats 4000000 in
theorem ctX7_needPlace (l : Launch) (D : va_G) (cA : Nat → ClassId) : zCt false l D cA yX7_needPlace cX7_needPlace 2 (none) rmX7_needPlace spX7_needPlace := by
  refine zct_D (zCX7_needPlace []) zpX7_needPlace [] (by decide +kernel) zkX7_needPlace (Or.inr (by decide +kernel)) trivial ⟨by decide +kernel, by decide +kernel⟩ (fun x ad => Nat.le_of_ble_eq_true rfl) ?_ ?_
  · intro p e s m args below meth c A H0 ad0 n0 Q F hml hNw hA hX
    exact trivial
  · rintro ⟨σ, τ, v⟩ Ret hP hK Gl hG
    try dsimp only at hP hK
    show Gl 0 (zent 2 [.ref 0, .int (nI v)]) [] (0, 0) ((119, zSH, zRH, σ, τ))
    refine hG 40 _ _ _ _ _ ?_
    repeat (first
      | (conv => whnf
         try dsimp only
         try simp (decide := true) only [nI4, zu_same, zu_ne1, zu_ne2, zu_row, zuL_same, zuL_ne1, zuL_ne2, zrow_n1, zx0, zx1, zx2, zx3, nI_1, Nat.reduceAdd, Nat.reduceMul, Int32.reduceAdd, Int32.reduceSub, Int32.reduceMul]
         first
         | refine ⟨vp_inb (by decide), ?_⟩
         | refine ⟨by with_reducible exact zi (by omega), ?_⟩
         | refine ⟨fun h => absurd h (by with_reducible exact nI_ge (by omega) (by omega)), fun _ => ?_⟩
         | refine ⟨fun _ => ?_, fun h => absurd (by with_reducible exact nI_le (by omega) (by omega)) h⟩
         | refine ⟨fun h => absurd h (by with_reducible exact nI_nlt (by omega) (by omega)), fun _ => ?_⟩
         | refine ⟨fun _ => ?_, fun h => absurd (by with_reducible exact nI_lt (by omega) (by omega)) h⟩
         | refine ⟨fun h => absurd h (by with_reducible exact nI_pos (by omega)), fun _ => ?_⟩
         | refine ⟨fun _ => ?_, fun h => absurd (by with_reducible exact nI_0le (by omega)) h⟩
         | refine ⟨fun h => absurd h (by decide), fun _ => ?_⟩
         | refine ⟨fun _ => ?_, fun h => absurd (by decide) h⟩
         | refine ⟨fun _ => ?_, fun h => absurd h (by decide)⟩
         | refine ⟨fun h => absurd (by decide) h, fun _ => ?_⟩
         | refine ⟨by decide, ?_⟩
         | refine ⟨rfl, ?_⟩)
      | (conv => whnf
         fail_if_success refine Exists.intro ?_ ?_
         simp only [nI4]))
    try (conv => whnf)
    exact hK
def spX7_needAmount : zSp := zD (X := zIn × zLo × Int32) (fun x => match x with | (σ, τ, a) => [.ref 0, .int a]) (fun x => match x with | (σ, τ, a) => (119, zSH, zRH, σ, τ)) (fun x => match x with | (σ, τ, a) => -1000000000 ≤ a ∧ a ≤ 1000000000) (fun x => match x with | (σ, τ, a) => none) (fun x => match x with | (σ, τ, a) => (119, zSH, zRH, σ, τ))
abbrev rmX7_needAmount : Room := ({ frames := 0, cells := 0, slots := 0, locals := 0 } : Room)
set_option maxRecDepth 100000 in
set_option maxHeartbeats 4000000 in
theorem ctX7_needAmount (l : Launch) (D : va_G) (cA : Nat → ClassId) : zCt false l D cA yX7_needAmount cX7_needAmount 2 (none) rmX7_needAmount spX7_needAmount := by
  refine zct_D (zCX7_needAmount []) zpX7_needAmount [] (by decide +kernel) zkX7_needAmount (Or.inr (by decide +kernel)) trivial ⟨by decide +kernel, by decide +kernel⟩ (fun x ad => Nat.le_of_ble_eq_true rfl) ?_ ?_
  · intro p e s m args below meth c A H0 ad0 n0 Q F hml hNw hA hX
    exact trivial
  · rintro ⟨σ, τ, a⟩ Ret hP hK Gl hG
    try dsimp only at hP hK
    show Gl 0 (zent 2 [.ref 0, .int a]) [] (0, 0) ((119, zSH, zRH, σ, τ))
    refine hG 40 _ _ _ _ _ ?_
    conv => whnf
    refine ⟨fun h => absurd hP.1 (Int32.not_le.mpr h), fun _ => ?_⟩
    conv => whnf
    refine ⟨fun _ => ?_, fun h => absurd hP.2 h⟩
    conv => whnf
    exact hK
def spX7_needInput : zSp := zD (X := zIn × zLo × Nat) (fun x => match x with | (σ, τ, v) => [.ref 0, .int (nI v)]) (fun x => match x with | (σ, τ, v) => (119, zSH, zRH, σ, τ)) (fun x => match x with | (σ, τ, v) => v < 16 ∧ σ 88 v < 0) (fun x => match x with | (σ, τ, v) => none) (fun x => match x with | (σ, τ, v) => (119, zSH, zRH, σ, τ))
abbrev rmX7_needInput : Room := ({ frames := 1, cells := 0, slots := 0, locals := 21 } : Room)
set_option maxRecDepth 100000 in
set_option maxHeartbeats 4000000 in
theorem ctX7_needInput (l : Launch) (D : va_G) (cA : Nat → ClassId) : zCt false l D cA yX7_needInput cX7_needInput 2 (none) rmX7_needInput spX7_needInput := by
  refine zct_D (zCX7_needInput [(244, 0, 1, spX6_isInput, rmX6_isInput.cells, rmX6_isInput.slots)]) zpX7_needInput [] (by decide +kernel) zkX7_needInput (Or.inr (by decide +kernel)) trivial ⟨by decide +kernel, by decide +kernel⟩ (fun x ad => Nat.le_of_ble_eq_true rfl) ?_ ?_
  · intro p e s m args below meth c A H0 ad0 n0 Q F hml hNw hA hX
    exact ⟨zco_V hX hA F hml hNw (ctX6_isInput l D cA) ⟨⟨zlX7_needInput_244, zwX6_isInput.1.1, zwX6_isInput.1.2⟩, zwX6_isInput.2⟩ zdX6_isInput ⟨Nat.le_of_ble_eq_true rfl, Nat.le_of_ble_eq_true rfl⟩ (ci := 6) (by decide) rfl (by rintro av μ K ⟨x, rfl, rfl, -⟩; exact ⟨_, _, rfl, rfl⟩), trivial⟩
  · rintro ⟨σ, τ, v⟩ Ret hP hK Gl hG
    try dsimp only at hP hK
    show Gl 0 (zent 2 [.ref 0, .int (nI v)]) [] (0, 0) ((119, zSH, zRH, σ, τ))
    obtain ⟨hv, hi⟩ := hP
    refine hG 40 _ _ _ _ _ ?_
    repeat (conv => whnf
            try dsimp only
            try simp (decide := true) only [zu_same, zu_ne1, zu_ne2, zu_row, zuL_same, zuL_ne1, zuL_ne2, zrow_n1, zx0, zx1, zx2, zx3, nI_1, Nat.reduceAdd, Nat.reduceMul, Int32.reduceAdd, Int32.reduceSub, Int32.reduceMul]
            first
            | refine ⟨vp_inb (by decide), ?_⟩
            | refine ⟨by with_reducible exact zi (by omega), ?_⟩
            | refine ⟨fun h => absurd h (by with_reducible exact nI_ge (by omega) (by omega)), fun _ => ?_⟩
            | refine ⟨fun _ => ?_, fun h => absurd (by with_reducible exact nI_le (by omega) (by omega)) h⟩
            | refine ⟨fun h => absurd h (by with_reducible exact nI_nlt (by omega) (by omega)), fun _ => ?_⟩
            | refine ⟨fun _ => ?_, fun h => absurd (by with_reducible exact nI_lt (by omega) (by omega)) h⟩
            | refine ⟨fun h => absurd h (by with_reducible exact nI_pos (by omega)), fun _ => ?_⟩
            | refine ⟨fun _ => ?_, fun h => absurd (by with_reducible exact nI_0le (by omega)) h⟩
            | refine ⟨fun h => absurd h (by decide), fun _ => ?_⟩
            | refine ⟨fun _ => ?_, fun h => absurd (by decide) h⟩
            | refine ⟨fun _ => ?_, fun h => absurd h (by decide)⟩
            | refine ⟨fun h => absurd (by decide) h, fun _ => ?_⟩
            | refine ⟨by decide, ?_⟩
            | refine ⟨rfl, ?_⟩)
    try (conv => whnf)
    refine ⟨(σ, τ, nI v), rfl, rfl, zi (by omega), ?_⟩
    try dsimp only [cond_true, cond_false]
    rw [if_pos (show σ 88 (nI v).toNatClampNeg < 0 by rw [nI_clamp (by omega)]; exact hi)]
    repeat (conv => whnf
            try dsimp only
            try simp (decide := true) only [zu_same, zu_ne1, zu_ne2, zu_row, zuL_same, zuL_ne1, zuL_ne2, zrow_n1, zx0, zx1, zx2, zx3, nI_1, Nat.reduceAdd, Nat.reduceMul, Int32.reduceAdd, Int32.reduceSub, Int32.reduceMul]
            first
            | refine ⟨vp_inb (by decide), ?_⟩
            | refine ⟨by with_reducible exact zi (by omega), ?_⟩
            | refine ⟨fun h => absurd h (by with_reducible exact nI_ge (by omega) (by omega)), fun _ => ?_⟩
            | refine ⟨fun _ => ?_, fun h => absurd (by with_reducible exact nI_le (by omega) (by omega)) h⟩
            | refine ⟨fun h => absurd h (by with_reducible exact nI_nlt (by omega) (by omega)), fun _ => ?_⟩
            | refine ⟨fun _ => ?_, fun h => absurd (by with_reducible exact nI_lt (by omega) (by omega)) h⟩
            | refine ⟨fun h => absurd h (by with_reducible exact nI_pos (by omega)), fun _ => ?_⟩
            | refine ⟨fun _ => ?_, fun h => absurd (by with_reducible exact nI_0le (by omega)) h⟩
            | refine ⟨fun h => absurd h (by decide), fun _ => ?_⟩
            | refine ⟨fun _ => ?_, fun h => absurd (by decide) h⟩
            | refine ⟨fun _ => ?_, fun h => absurd h (by decide)⟩
            | refine ⟨fun h => absurd (by decide) h, fun _ => ?_⟩
            | refine ⟨by decide, ?_⟩
            | refine ⟨rfl, ?_⟩)
    try (conv => whnf)
    exact hK
def spX7_needCase : zSp := zD (X := zIn × zLo × Nat) (fun x => match x with | (σ, τ, v) => [.ref 0, .int (nI v)]) (fun x => match x with | (σ, τ, v) => (119, zSH, zRH, σ, τ)) (fun x => match x with | (σ, τ, v) => v < 4 ∧ ¬ σ 118 v < 0) (fun x => match x with | (σ, τ, v) => none) (fun x => match x with | (σ, τ, v) => (119, zSH, zRH, σ, τ))
abbrev rmX7_needCase : Room := ({ frames := 0, cells := 0, slots := 0, locals := 0 } : Room)
set_option maxRecDepth 100000 in
set_option maxHeartbeats 4000000 in
theorem ctX7_needCase (l : Launch) (D : va_G) (cA : Nat → ClassId) : zCt false l D cA yX7_needCase cX7_needCase 2 (none) rmX7_needCase spX7_needCase := by
  refine zct_D (zCX7_needCase []) zpX7_needCase [] (by decide +kernel) zkX7_needCase (Or.inr (by decide +kernel)) trivial ⟨by decide +kernel, by decide +kernel⟩ (fun x ad => Nat.le_of_ble_eq_true rfl) ?_ ?_
  · intro p e s m args below meth c A H0 ad0 n0 Q F hml hNw hA hX
    exact trivial
  · rintro ⟨σ, τ, v⟩ Ret hP hK Gl hG
    try dsimp only at hP hK
    show Gl 0 (zent 2 [.ref 0, .int (nI v)]) [] (0, 0) ((119, zSH, zRH, σ, τ))
    obtain ⟨hv, hi⟩ := hP
    refine hG 40 _ _ _ _ _ ?_
    repeat (first
      | (conv => whnf
         try dsimp only
         try simp (decide := true) only [nI_clamp (show v < 2 ^ 31 by omega), zu_same, zu_ne1, zu_ne2, zu_row, zuL_same, zuL_ne1, zuL_ne2, zrow_n1, zx0, zx1, zx2, zx3, nI_1, Nat.reduceAdd, Nat.reduceMul, Int32.reduceAdd, Int32.reduceSub, Int32.reduceMul]
         first
         | refine ⟨vp_inb (by decide), ?_⟩
         | refine ⟨by with_reducible exact zi (by omega), ?_⟩
         | refine ⟨fun h => absurd h (by with_reducible exact nI_ge (by omega) (by omega)), fun _ => ?_⟩
         | refine ⟨fun _ => ?_, fun h => absurd (by with_reducible exact nI_le (by omega) (by omega)) h⟩
         | refine ⟨fun h => absurd h (by with_reducible exact nI_nlt (by omega) (by omega)), fun _ => ?_⟩
         | refine ⟨fun _ => ?_, fun h => absurd (by with_reducible exact nI_lt (by omega) (by omega)) h⟩
         | refine ⟨fun h => absurd h (by with_reducible exact nI_pos (by omega)), fun _ => ?_⟩
         | refine ⟨fun _ => ?_, fun h => absurd (by with_reducible exact nI_0le (by omega)) h⟩
         | refine ⟨fun h => absurd h (by decide), fun _ => ?_⟩
         | refine ⟨fun _ => ?_, fun h => absurd (by decide) h⟩
         | refine ⟨fun _ => ?_, fun h => absurd h (by decide)⟩
         | refine ⟨fun h => absurd (by decide) h, fun _ => ?_⟩
         | refine ⟨by decide, ?_⟩
         | refine ⟨rfl, ?_⟩)
      | (conv => whnf
         fail_if_success refine Exists.intro ?_ ?_
         simp only [nI_clamp (show v < 2 ^ 31 by omega)]))
    try (conv => whnf)
    refine ⟨fun _ => ?_, fun h => absurd (Int32.not_lt.mp hi) h⟩
    repeat (conv => whnf
            try dsimp only
            try simp (decide := true) only [zu_same, zu_ne1, zu_ne2, zu_row, zuL_same, zuL_ne1, zuL_ne2, zrow_n1, zx0, zx1, zx2, zx3, nI_1, Nat.reduceAdd, Nat.reduceMul, Int32.reduceAdd, Int32.reduceSub, Int32.reduceMul]
            first
            | refine ⟨vp_inb (by decide), ?_⟩
            | refine ⟨by with_reducible exact zi (by omega), ?_⟩
            | refine ⟨fun h => absurd h (by with_reducible exact nI_ge (by omega) (by omega)), fun _ => ?_⟩
            | refine ⟨fun _ => ?_, fun h => absurd (by with_reducible exact nI_le (by omega) (by omega)) h⟩
            | refine ⟨fun h => absurd h (by with_reducible exact nI_nlt (by omega) (by omega)), fun _ => ?_⟩
            | refine ⟨fun _ => ?_, fun h => absurd (by with_reducible exact nI_lt (by omega) (by omega)) h⟩
            | refine ⟨fun h => absurd h (by with_reducible exact nI_pos (by omega)), fun _ => ?_⟩
            | refine ⟨fun _ => ?_, fun h => absurd (by with_reducible exact nI_0le (by omega)) h⟩
            | refine ⟨fun h => absurd h (by decide), fun _ => ?_⟩
            | refine ⟨fun _ => ?_, fun h => absurd (by decide) h⟩
            | refine ⟨fun _ => ?_, fun h => absurd h (by decide)⟩
            | refine ⟨fun h => absurd (by decide) h, fun _ => ?_⟩
            | refine ⟨by decide, ?_⟩
            | refine ⟨rfl, ?_⟩)
    try (conv => whnf)
    exact hK
theorem nI60 : (60 : Int32) = nI 60 := rfl
theorem nI16 : (16 : Int32) = nI 16 := rfl
theorem nI12 : (12 : Int32) = nI 12 := rfl
def spX7_needRoomForPart : zSp := zD (X := zIn × zLo × Nat) (fun x => match x with | (σ, τ, n) => [.ref 0]) (fun x => match x with | (σ, τ, n) => (119, zSH, zRH, σ, τ)) (fun x => match x with | (σ, τ, n) => σ 17 10 = nI n ∧ n < 60) (fun x => match x with | (σ, τ, n) => none) (fun x => match x with | (σ, τ, n) => (119, zSH, zRH, σ, τ))
abbrev rmX7_needRoomForPart : Room := ({ frames := 0, cells := 0, slots := 0, locals := 0 } : Room)
set_option maxRecDepth 100000 in
set_option maxHeartbeats 4000000 in
theorem ctX7_needRoomForPart (l : Launch) (D : va_G) (cA : Nat → ClassId) : zCt false l D cA yX7_needRoomForPart cX7_needRoomForPart 1 (none) rmX7_needRoomForPart spX7_needRoomForPart := by
  refine zct_D (zCX7_needRoomForPart []) zpX7_needRoomForPart [] (by decide +kernel) zkX7_needRoomForPart (Or.inr (by decide +kernel)) trivial ⟨by decide +kernel, by decide +kernel⟩ (fun x ad => Nat.le_of_ble_eq_true rfl) ?_ ?_
  · intro p e s m args below meth c A H0 ad0 n0 Q F hml hNw hA hX
    exact trivial
  · rintro ⟨σ, τ, n⟩ Ret hP hK Gl hG
    try dsimp only at hP hK
    show Gl 0 (zent 1 [.ref 0]) [] (0, 0) ((119, zSH, zRH, σ, τ))
    obtain ⟨hn, h60⟩ := hP
    refine hG 40 _ _ _ _ _ ?_
    repeat (first
      | (conv => whnf
         try dsimp only
         try simp (decide := true) only [hn, nI60, zu_same, zu_ne1, zu_ne2, zu_row, zuL_same, zuL_ne1, zuL_ne2, zrow_n1, zx0, zx1, zx2, zx3, nI_1, Nat.reduceAdd, Nat.reduceMul, Int32.reduceAdd, Int32.reduceSub, Int32.reduceMul]
         first
         | refine ⟨vp_inb (by decide), ?_⟩
         | refine ⟨by with_reducible exact zi (by omega), ?_⟩
         | refine ⟨fun h => absurd h (by with_reducible exact nI_ge (by omega) (by omega)), fun _ => ?_⟩
         | refine ⟨fun _ => ?_, fun h => absurd (by with_reducible exact nI_le (by omega) (by omega)) h⟩
         | refine ⟨fun h => absurd h (by with_reducible exact nI_nlt (by omega) (by omega)), fun _ => ?_⟩
         | refine ⟨fun _ => ?_, fun h => absurd (by with_reducible exact nI_lt (by omega) (by omega)) h⟩
         | refine ⟨fun h => absurd h (by with_reducible exact nI_pos (by omega)), fun _ => ?_⟩
         | refine ⟨fun _ => ?_, fun h => absurd (by with_reducible exact nI_0le (by omega)) h⟩
         | refine ⟨fun h => absurd h (by decide), fun _ => ?_⟩
         | refine ⟨fun _ => ?_, fun h => absurd (by decide) h⟩
         | refine ⟨fun _ => ?_, fun h => absurd h (by decide)⟩
         | refine ⟨fun h => absurd (by decide) h, fun _ => ?_⟩
         | refine ⟨by decide, ?_⟩
         | refine ⟨rfl, ?_⟩)
      | (conv => whnf
         fail_if_success refine Exists.intro ?_ ?_
         simp only [hn, nI60]))
    try (conv => whnf)
    exact hK
def spX7_forgetAmounts : zSp := zD (X := zIn × zLo) (fun x => match x with | (σ, τ) => [.ref 0]) (fun x => match x with | (σ, τ) => (119, zSH, zRH, σ, τ)) (fun x => match x with | (σ, τ) => True) (fun x => match x with | (σ, τ) => none) (fun x => match x with | (σ, τ) => (119, zSH, zRH, zu (zu σ 0 14 0) 0 15 0, τ))
abbrev rmX7_forgetAmounts : Room := ({ frames := 0, cells := 0, slots := 0, locals := 0 } : Room)
set_option maxRecDepth 100000 in
set_option maxHeartbeats 4000000 in
theorem ctX7_forgetAmounts (l : Launch) (D : va_G) (cA : Nat → ClassId) : zCt false l D cA yX7_forgetAmounts cX7_forgetAmounts 1 (none) rmX7_forgetAmounts spX7_forgetAmounts := by
  refine zct_D (zCX7_forgetAmounts []) zpX7_forgetAmounts [] (by decide +kernel) zkX7_forgetAmounts (Or.inr (by decide +kernel)) trivial ⟨by decide +kernel, by decide +kernel⟩ (fun x ad => Nat.le_of_ble_eq_true rfl) ?_ ?_
  · intro p e s m args below meth c A H0 ad0 n0 Q F hml hNw hA hX
    exact trivial
  · rintro ⟨σ, τ⟩ Ret hP hK Gl hG
    try dsimp only at hP hK
    show Gl 0 (zent 1 [.ref 0]) [] (0, 0) ((119, zSH, zRH, σ, τ))
    refine hG 40 _ _ _ _ _ ?_
    repeat (conv => whnf
            try dsimp only
            try simp (decide := true) only [zu_same, zu_ne1, zu_ne2, zu_row, zuL_same, zuL_ne1, zuL_ne2, zrow_n1, zx0, zx1, zx2, zx3, nI_1, Nat.reduceAdd, Nat.reduceMul, Int32.reduceAdd, Int32.reduceSub, Int32.reduceMul]
            first
            | refine ⟨vp_inb (by decide), ?_⟩
            | refine ⟨by with_reducible exact zi (by omega), ?_⟩
            | refine ⟨fun h => absurd h (by with_reducible exact nI_ge (by omega) (by omega)), fun _ => ?_⟩
            | refine ⟨fun _ => ?_, fun h => absurd (by with_reducible exact nI_le (by omega) (by omega)) h⟩
            | refine ⟨fun h => absurd h (by with_reducible exact nI_nlt (by omega) (by omega)), fun _ => ?_⟩
            | refine ⟨fun _ => ?_, fun h => absurd (by with_reducible exact nI_lt (by omega) (by omega)) h⟩
            | refine ⟨fun h => absurd h (by with_reducible exact nI_pos (by omega)), fun _ => ?_⟩
            | refine ⟨fun _ => ?_, fun h => absurd (by with_reducible exact nI_0le (by omega)) h⟩
            | refine ⟨fun h => absurd h (by decide), fun _ => ?_⟩
            | refine ⟨fun _ => ?_, fun h => absurd (by decide) h⟩
            | refine ⟨fun _ => ?_, fun h => absurd h (by decide)⟩
            | refine ⟨fun h => absurd (by decide) h, fun _ => ?_⟩
            | refine ⟨by decide, ?_⟩
            | refine ⟨rfl, ?_⟩)
    try (conv => whnf)
    exact hK
def spX7_forgetOrder : zSp := zD (X := zIn × zLo) (fun x => match x with | (σ, τ) => [.ref 0]) (fun x => match x with | (σ, τ) => (119, zSH, zRH, σ, τ)) (fun x => match x with | (σ, τ) => True) (fun x => match x with | (σ, τ) => none) (fun x => match x with | (σ, τ) => (119, zSH, zRH, zu (zu (zu σ 0 13 0) 0 14 0) 0 15 0, τ))
abbrev rmX7_forgetOrder : Room := ({ frames := 1, cells := 0, slots := 0, locals := 20 } : Room)
set_option maxRecDepth 100000 in
set_option maxHeartbeats 4000000 in
theorem ctX7_forgetOrder (l : Launch) (D : va_G) (cA : Nat → ClassId) : zCt false l D cA yX7_forgetOrder cX7_forgetOrder 1 (none) rmX7_forgetOrder spX7_forgetOrder := by
  refine zct_D (zCX7_forgetOrder [(154, 0, 0, spX7_forgetAmounts, rmX7_forgetAmounts.cells, rmX7_forgetAmounts.slots)]) zpX7_forgetOrder [] (by decide +kernel) zkX7_forgetOrder (Or.inr (by decide +kernel)) trivial ⟨by decide +kernel, by decide +kernel⟩ (fun x ad => Nat.le_of_ble_eq_true rfl) ?_ ?_
  · intro p e s m args below meth c A H0 ad0 n0 Q F hml hNw hA hX
    exact ⟨zco_V hX hA F hml hNw (ctX7_forgetAmounts l D cA) ⟨⟨zlX7_forgetOrder_154, zwX7_forgetAmounts.1.1, zwX7_forgetAmounts.1.2⟩, zwX7_forgetAmounts.2⟩ zdX7_forgetAmounts ⟨Nat.le_of_ble_eq_true rfl, Nat.le_of_ble_eq_true rfl⟩ (ci := 7) (by decide) rfl (by rintro av μ K ⟨x, rfl, rfl, -⟩; exact ⟨_, _, rfl, rfl⟩), trivial⟩
  · rintro ⟨σ, τ⟩ Ret hP hK Gl hG
    try dsimp only at hP hK
    show Gl 0 (zent 1 [.ref 0]) [] (0, 0) ((119, zSH, zRH, σ, τ))
    refine hG 40 _ _ _ _ _ ?_
    repeat (conv => whnf
            try dsimp only
            try simp (decide := true) only [zu_same, zu_ne1, zu_ne2, zu_row, zuL_same, zuL_ne1, zuL_ne2, zrow_n1, zx0, zx1, zx2, zx3, nI_1, Nat.reduceAdd, Nat.reduceMul, Int32.reduceAdd, Int32.reduceSub, Int32.reduceMul]
            first
            | refine ⟨vp_inb (by decide), ?_⟩
            | refine ⟨by with_reducible exact zi (by omega), ?_⟩
            | refine ⟨fun h => absurd h (by with_reducible exact nI_ge (by omega) (by omega)), fun _ => ?_⟩
            | refine ⟨fun _ => ?_, fun h => absurd (by with_reducible exact nI_le (by omega) (by omega)) h⟩
            | refine ⟨fun h => absurd h (by with_reducible exact nI_nlt (by omega) (by omega)), fun _ => ?_⟩
            | refine ⟨fun _ => ?_, fun h => absurd (by with_reducible exact nI_lt (by omega) (by omega)) h⟩
            | refine ⟨fun h => absurd h (by with_reducible exact nI_pos (by omega)), fun _ => ?_⟩
            | refine ⟨fun _ => ?_, fun h => absurd (by with_reducible exact nI_0le (by omega)) h⟩
            | refine ⟨fun h => absurd h (by decide), fun _ => ?_⟩
            | refine ⟨fun _ => ?_, fun h => absurd (by decide) h⟩
            | refine ⟨fun _ => ?_, fun h => absurd h (by decide)⟩
            | refine ⟨fun h => absurd (by decide) h, fun _ => ?_⟩
            | refine ⟨by decide, ?_⟩
            | refine ⟨rfl, ?_⟩)
    try (conv => whnf)
    refine ⟨(_, _), rfl, rfl, trivial, ?_⟩
    try dsimp only [cond_true, cond_false]
    repeat (conv => whnf
            try dsimp only
            try simp (decide := true) only [zu_same, zu_ne1, zu_ne2, zu_row, zuL_same, zuL_ne1, zuL_ne2, zrow_n1, zx0, zx1, zx2, zx3, nI_1, Nat.reduceAdd, Nat.reduceMul, Int32.reduceAdd, Int32.reduceSub, Int32.reduceMul]
            first
            | refine ⟨vp_inb (by decide), ?_⟩
            | refine ⟨by with_reducible exact zi (by omega), ?_⟩
            | refine ⟨fun h => absurd h (by with_reducible exact nI_ge (by omega) (by omega)), fun _ => ?_⟩
            | refine ⟨fun _ => ?_, fun h => absurd (by with_reducible exact nI_le (by omega) (by omega)) h⟩
            | refine ⟨fun h => absurd h (by with_reducible exact nI_nlt (by omega) (by omega)), fun _ => ?_⟩
            | refine ⟨fun _ => ?_, fun h => absurd (by with_reducible exact nI_lt (by omega) (by omega)) h⟩
            | refine ⟨fun h => absurd h (by with_reducible exact nI_pos (by omega)), fun _ => ?_⟩
            | refine ⟨fun _ => ?_, fun h => absurd (by with_reducible exact nI_0le (by omega)) h⟩
            | refine ⟨fun h => absurd h (by decide), fun _ => ?_⟩
            | refine ⟨fun _ => ?_, fun h => absurd (by decide) h⟩
            | refine ⟨fun _ => ?_, fun h => absurd h (by decide)⟩
            | refine ⟨fun h => absurd (by decide) h, fun _ => ?_⟩
            | refine ⟨by decide, ?_⟩
            | refine ⟨rfl, ?_⟩)
    try (conv => whnf)
    exact hK
def spX7_arrange : zSp := zDQ (X := zIn × zLo × Nat × Nat × Nat) (fun x => match x with | (σ, τ, n, pc, un) => [.ref 0]) (fun x => match x with | (σ, τ, n, pc, un) => (119, zSH, zRH, σ, τ)) (fun x => match x with | (σ, τ, n, pc, un) => cI σ τ n pc un ∧ cFl σ n) (fun x r9 μ9 => match x with | (σ, τ, n, pc, un) => r9 = none ∧ ∃ σ1 : zIn, μ9 = (119, zSH, zRH, σ1, τ) ∧ cI σ1 τ n pc un ∧ cFl σ1 n ∧ σ1 0 13 = 1 ∧ (∀ r, r ≠ 0 → r < 90 ∨ 99 < r → σ1 r = σ r) ∧ (∀ j, j ≠ 13 → σ1 0 j = σ 0 j) ∧ (σ 0 13 = 1 → σ1 = σ))
abbrev rmX7_arrange : Room := ({ frames := 5, cells := 0, slots := 0, locals := 110 } : Room)
set_option maxRecDepth 100000 in
set_option maxHeartbeats 4000000 in
theorem ctX7_arrange (l : Launch) (D : va_G) (cA : Nat → ClassId) : zCt false l D cA yX7_arrange cX7_arrange 1 (none) rmX7_arrange spX7_arrange := by
  refine zct_Q (zCX7_arrange [(294, 0, 0, spX0_gather, rmX0_gather.cells, rmX0_gather.slots), (297, 0, 0, spX1_arrange, rmX1_arrange.cells, rmX1_arrange.slots)]) zpX7_arrange [] (by decide +kernel) zkX7_arrange (Or.inr (by decide +kernel)) trivial ⟨by decide +kernel, by decide +kernel⟩ (fun x ad => Nat.le_of_ble_eq_true rfl) ?_ ?_
  · intro p e s m args below meth c A H0 ad0 n0 Q F hml hNw hA hX
    exact ⟨zco_V hX hA F hml hNw (ctX0_gather l D cA) ⟨⟨zlX7_arrange_294, zwX0_gather.1.1, zwX0_gather.1.2⟩, zwX0_gather.2⟩ zdX0_gather ⟨Nat.le_of_ble_eq_true rfl, Nat.le_of_ble_eq_true rfl⟩ (ci := 0) (by decide) rfl (by rintro av μ K ⟨x, rfl, rfl, -⟩; exact ⟨_, _, rfl, rfl⟩), zco_V hX hA F hml hNw (ctX1_arrange l D cA) ⟨⟨zlX7_arrange_297, zwX1_arrange.1.1, zwX1_arrange.1.2⟩, zwX1_arrange.2⟩ zdX1_arrange ⟨Nat.le_of_ble_eq_true rfl, Nat.le_of_ble_eq_true rfl⟩ (ci := 1) (by decide) rfl (by rintro av μ K ⟨x, rfl, rfl, -⟩; exact ⟨_, _, rfl, rfl⟩), trivial⟩
  · rintro ⟨σ, τ, n, pc, un⟩ Ret hP hK Gl hG
    try dsimp only at hP hK
    show Gl 0 (zent 1 [.ref 0]) [] (0, 0) ((119, zSH, zRH, σ, τ))
    obtain ⟨hI, hF⟩ := hP
    rcases hF.1 with h0 | h1
    · have hn := hI.1.1
      have h16 := hI.1.2.1
      have h14 : σ 0 14 = 0 := hF.2.1.elim id (fun q => by rw [h0] at q; exact absurd q.2.1 (by decide))
      have h15 : σ 0 15 = 0 := hF.2.2.elim id (fun q => by rw [h14] at q; exact absurd q.2.1 (by decide))
      refine hG 100 _ _ _ _ _ ?_
      repeat (first
        | (conv => whnf
           try dsimp only
           try simp (decide := true) only [h0, zu_same, zu_ne1, zu_ne2, zu_row, zuL_same, zuL_ne1, zuL_ne2, zrow_n1, zx0, zx1, zx2, zx3, nI_1, Nat.reduceAdd, Nat.reduceMul, Int32.reduceAdd, Int32.reduceSub, Int32.reduceMul]
           first
           | refine ⟨vp_inb (by decide), ?_⟩
           | refine ⟨by with_reducible exact zi (by omega), ?_⟩
           | refine ⟨fun h => absurd h (by with_reducible exact nI_ge (by omega) (by omega)), fun _ => ?_⟩
           | refine ⟨fun _ => ?_, fun h => absurd (by with_reducible exact nI_le (by omega) (by omega)) h⟩
           | refine ⟨fun h => absurd h (by with_reducible exact nI_nlt (by omega) (by omega)), fun _ => ?_⟩
           | refine ⟨fun _ => ?_, fun h => absurd (by with_reducible exact nI_lt (by omega) (by omega)) h⟩
           | refine ⟨fun h => absurd h (by with_reducible exact nI_pos (by omega)), fun _ => ?_⟩
           | refine ⟨fun _ => ?_, fun h => absurd (by with_reducible exact nI_0le (by omega)) h⟩
           | refine ⟨fun h => absurd h (by decide), fun _ => ?_⟩
           | refine ⟨fun _ => ?_, fun h => absurd (by decide) h⟩
           | refine ⟨fun _ => ?_, fun h => absurd h (by decide)⟩
           | refine ⟨fun h => absurd (by decide) h, fun _ => ?_⟩
           | refine ⟨by decide, ?_⟩
           | refine ⟨rfl, ?_⟩)
        | (conv => whnf
           fail_if_success refine Exists.intro ?_ ?_
           simp only [h0]))
      try (conv => whnf)
      refine ⟨(σ, τ, n), rfl, rfl, ⟨hn, h16, fun v hv => ⟨(cI_nz hI v hv).imp (fun u q => ⟨q.1, q.2.1⟩), cI_f60 hI v hv⟩⟩, ?_⟩
      try dsimp only [cond_true, cond_false]
      rintro _ _ ⟨rfl, σ1, rfl, f1, hft⟩
      repeat (conv => whnf
              try dsimp only
              try simp (decide := true) only [zu_same, zu_ne1, zu_ne2, zu_row, zuL_same, zuL_ne1, zuL_ne2, zrow_n1, zx0, zx1, zx2, zx3, nI_1, Nat.reduceAdd, Nat.reduceMul, Int32.reduceAdd, Int32.reduceSub, Int32.reduceMul]
              first
              | refine ⟨vp_inb (by decide), ?_⟩
              | refine ⟨by with_reducible exact zi (by omega), ?_⟩
              | refine ⟨fun h => absurd h (by with_reducible exact nI_ge (by omega) (by omega)), fun _ => ?_⟩
              | refine ⟨fun _ => ?_, fun h => absurd (by with_reducible exact nI_le (by omega) (by omega)) h⟩
              | refine ⟨fun h => absurd h (by with_reducible exact nI_nlt (by omega) (by omega)), fun _ => ?_⟩
              | refine ⟨fun _ => ?_, fun h => absurd (by with_reducible exact nI_lt (by omega) (by omega)) h⟩
              | refine ⟨fun h => absurd h (by with_reducible exact nI_pos (by omega)), fun _ => ?_⟩
              | refine ⟨fun _ => ?_, fun h => absurd (by with_reducible exact nI_0le (by omega)) h⟩
              | refine ⟨fun h => absurd h (by decide), fun _ => ?_⟩
              | refine ⟨fun _ => ?_, fun h => absurd (by decide) h⟩
              | refine ⟨fun _ => ?_, fun h => absurd h (by decide)⟩
              | refine ⟨fun h => absurd (by decide) h, fun _ => ?_⟩
              | refine ⟨by decide, ?_⟩
              | refine ⟨rfl, ?_⟩)
      try (conv => whnf)
      refine ⟨(σ1, τ, n), rfl, rfl, ⟨by rw [f1 86 (by decide)]; exact hn, h16, by rw [f1 88 (by decide)]; exact cI_f60 hI⟩, ?_⟩
      try dsimp only [cond_true, cond_false]
      rintro _ _ ⟨rfl, σ2, rfl, f2, ho1, ho2, ho3⟩
      repeat (conv => whnf
              try dsimp only
              try simp (decide := true) only [zu_same, zu_ne1, zu_ne2, zu_row, zuL_same, zuL_ne1, zuL_ne2, zrow_n1, zx0, zx1, zx2, zx3, nI_1, Nat.reduceAdd, Nat.reduceMul, Int32.reduceAdd, Int32.reduceSub, Int32.reduceMul]
              first
              | refine ⟨vp_inb (by decide), ?_⟩
              | refine ⟨by with_reducible exact zi (by omega), ?_⟩
              | refine ⟨fun h => absurd h (by with_reducible exact nI_ge (by omega) (by omega)), fun _ => ?_⟩
              | refine ⟨fun _ => ?_, fun h => absurd (by with_reducible exact nI_le (by omega) (by omega)) h⟩
              | refine ⟨fun h => absurd h (by with_reducible exact nI_nlt (by omega) (by omega)), fun _ => ?_⟩
              | refine ⟨fun _ => ?_, fun h => absurd (by with_reducible exact nI_lt (by omega) (by omega)) h⟩
              | refine ⟨fun h => absurd h (by with_reducible exact nI_pos (by omega)), fun _ => ?_⟩
              | refine ⟨fun _ => ?_, fun h => absurd (by with_reducible exact nI_0le (by omega)) h⟩
              | refine ⟨fun h => absurd h (by decide), fun _ => ?_⟩
              | refine ⟨fun _ => ?_, fun h => absurd (by decide) h⟩
              | refine ⟨fun _ => ?_, fun h => absurd h (by decide)⟩
              | refine ⟨fun h => absurd (by decide) h, fun _ => ?_⟩
              | refine ⟨by decide, ?_⟩
              | refine ⟨rfl, ?_⟩)
      try (conv => whnf)
      have g : ∀ r, r ≠ 0 → r < 90 ∨ 99 < r → zu σ2 0 13 1 r = σ r := fun r h0 h => by rw [zu_row h0, f2 r (by omega), f1 r (by omega)]
      have g0 : ∀ j, j ≠ 13 → zu σ2 0 13 1 0 j = σ 0 j := fun j hj => by rw [zu_ne2 hj, f2 0 (by decide), f1 0 (by decide)]
      have e88 : σ2 88 = σ1 88 := f2 88 (by decide)
      have e85 : σ2 85 = σ1 85 := f2 85 (by decide)
      refine hK _ _ ⟨rfl, _, rfl, ?_, ⟨Or.inr ⟨zu_same, ?_, ?_⟩, Or.inl ?_, Or.inl ?_⟩, zu_same, g, g0, fun q => absurd (h0.symm.trans q) (by decide)⟩
      · exact cI_cg hI (fun r h0 h => g r h0 (Or.inl h)) (g 100 (by decide) (by decide)) (by rw [g 103 (by decide) (by decide)]; exact hI.2.2.2.2.2.1)
      · unfold cOr
        rw [zu_row (show (88 : Nat) ≠ 0 by decide), zu_row (show (85 : Nat) ≠ 0 by decide), zu_row (show (94 : Nat) ≠ 0 by decide), zu_row (show (95 : Nat) ≠ 0 by decide), zu_row (show (96 : Nat) ≠ 0 by decide), zu_row (show (97 : Nat) ≠ 0 by decide), zu_row (show (98 : Nat) ≠ 0 by decide), zu_row (show (99 : Nat) ≠ 0 by decide), e88, e85]
        exact ⟨ho1, ho2, ho3⟩
      · unfold pFt
        rw [zu_row (show (88 : Nat) ≠ 0 by decide), zu_row (show (90 : Nat) ≠ 0 by decide), zu_row (show (91 : Nat) ≠ 0 by decide), f2 90 (by decide), f2 91 (by decide), e88]
        exact hft
      · exact (g0 14 (by decide)).trans h14
      · exact (g0 15 (by decide)).trans h15
    · refine hG 100 _ _ _ _ _ ?_
      repeat (first
        | (conv => whnf
           try dsimp only
           try simp (decide := true) only [h1.1, zu_same, zu_ne1, zu_ne2, zu_row, zuL_same, zuL_ne1, zuL_ne2, zrow_n1, zx0, zx1, zx2, zx3, nI_1, Nat.reduceAdd, Nat.reduceMul, Int32.reduceAdd, Int32.reduceSub, Int32.reduceMul]
           first
           | refine ⟨vp_inb (by decide), ?_⟩
           | refine ⟨by with_reducible exact zi (by omega), ?_⟩
           | refine ⟨fun h => absurd h (by with_reducible exact nI_ge (by omega) (by omega)), fun _ => ?_⟩
           | refine ⟨fun _ => ?_, fun h => absurd (by with_reducible exact nI_le (by omega) (by omega)) h⟩
           | refine ⟨fun h => absurd h (by with_reducible exact nI_nlt (by omega) (by omega)), fun _ => ?_⟩
           | refine ⟨fun _ => ?_, fun h => absurd (by with_reducible exact nI_lt (by omega) (by omega)) h⟩
           | refine ⟨fun h => absurd h (by with_reducible exact nI_pos (by omega)), fun _ => ?_⟩
           | refine ⟨fun _ => ?_, fun h => absurd (by with_reducible exact nI_0le (by omega)) h⟩
           | refine ⟨fun h => absurd h (by decide), fun _ => ?_⟩
           | refine ⟨fun _ => ?_, fun h => absurd (by decide) h⟩
           | refine ⟨fun _ => ?_, fun h => absurd h (by decide)⟩
           | refine ⟨fun h => absurd (by decide) h, fun _ => ?_⟩
           | refine ⟨by decide, ?_⟩
           | refine ⟨rfl, ?_⟩)
        | (conv => whnf
           fail_if_success refine Exists.intro ?_ ?_
           simp only [h1.1]))
      try (conv => whnf)
      exact hK _ _ ⟨rfl, σ, rfl, hI, hF, h1.1, fun _ _ _ => rfl, fun _ _ => rfl, fun _ => rfl⟩
def spX7_settle : zSp := zDQ (X := zIn × zLo × Nat × Nat × Nat) (fun x => match x with | (σ, τ, n, pc, un) => [.ref 0]) (fun x => match x with | (σ, τ, n, pc, un) => (119, zSH, zRH, σ, τ)) (fun x => match x with | (σ, τ, n, pc, un) => cI σ τ n pc un ∧ cFl σ n) (fun x r9 μ9 => match x with | (σ, τ, n, pc, un) => r9 = none ∧ ∃ σ1 : zIn, μ9 = (119, zSH, zRH, σ1, τ) ∧ cI σ1 τ n pc un ∧ cFl σ1 n ∧ (σ1 0 13 = 1 ∧ σ1 0 14 = 1) ∧ (∀ r, r ≠ 0 → (r < 90 ∨ r = 100 ∨ r = 102 ∨ 105 < r) → σ1 r = σ r) ∧ (σ 0 13 = 1 → ∀ r, r ≠ 0 → r < 101 → σ1 r = σ r) ∧ (σ 0 14 = 1 → σ1 = σ))
abbrev rmX7_settle : Room := ({ frames := 6, cells := 0, slots := 0, locals := 152 } : Room)
set_option maxRecDepth 100000 in
set_option maxHeartbeats 4000000 in
theorem ctX7_settle (l : Launch) (D : va_G) (cA : Nat → ClassId) : zCt false l D cA yX7_settle cX7_settle 1 (none) rmX7_settle spX7_settle := by
  refine zct_Q (zCX7_settle [(170, 0, 0, spX7_arrange, rmX7_arrange.cells, rmX7_arrange.slots), (250, 0, 3, spX4_solve, rmX4_solve.cells, rmX4_solve.slots)]) zpX7_settle [] (by decide +kernel) zkX7_settle (Or.inr (by decide +kernel)) trivial ⟨by decide +kernel, by decide +kernel⟩ (fun x ad => Nat.le_of_ble_eq_true rfl) ?_ ?_
  · intro p e s m args below meth c A H0 ad0 n0 Q F hml hNw hA hX
    exact ⟨zco_V hX hA F hml hNw (ctX7_arrange l D cA) ⟨⟨zlX7_settle_170, zwX7_arrange.1.1, zwX7_arrange.1.2⟩, zwX7_arrange.2⟩ zdX7_arrange ⟨Nat.le_of_ble_eq_true rfl, Nat.le_of_ble_eq_true rfl⟩ (ci := 7) (by decide) rfl (by rintro av μ K ⟨x, rfl, rfl, -⟩; exact ⟨_, _, rfl, rfl⟩), zco_V hX hA F hml hNw (ctX4_solve l D cA) ⟨⟨zlX7_settle_250, zwX4_solve.1.1, zwX4_solve.1.2⟩, zwX4_solve.2⟩ zdX4_solve ⟨Nat.le_of_ble_eq_true rfl, Nat.le_of_ble_eq_true rfl⟩ (ci := 4) (by decide) rfl (by rintro av μ K ⟨x, rfl, rfl, -⟩; exact ⟨_, _, rfl, rfl⟩), trivial⟩
  · rintro ⟨σ, τ, n, pc, un⟩ Ret hP hK Gl hG
    try dsimp only at hP hK
    show Gl 0 (zent 1 [.ref 0]) [] (0, 0) ((119, zSH, zRH, σ, τ))
    obtain ⟨hI, hF⟩ := hP
    refine hG 100 _ _ _ _ _ ?_
    repeat (conv => whnf
            try dsimp only
            try simp (decide := true) only [zu_same, zu_ne1, zu_ne2, zu_row, zuL_same, zuL_ne1, zuL_ne2, zrow_n1, zx0, zx1, zx2, zx3, nI_1, Nat.reduceAdd, Nat.reduceMul, Int32.reduceAdd, Int32.reduceSub, Int32.reduceMul]
            first
            | refine ⟨vp_inb (by decide), ?_⟩
            | refine ⟨by with_reducible exact zi (by omega), ?_⟩
            | refine ⟨fun h => absurd h (by with_reducible exact nI_ge (by omega) (by omega)), fun _ => ?_⟩
            | refine ⟨fun _ => ?_, fun h => absurd (by with_reducible exact nI_le (by omega) (by omega)) h⟩
            | refine ⟨fun h => absurd h (by with_reducible exact nI_nlt (by omega) (by omega)), fun _ => ?_⟩
            | refine ⟨fun _ => ?_, fun h => absurd (by with_reducible exact nI_lt (by omega) (by omega)) h⟩
            | refine ⟨fun h => absurd h (by with_reducible exact nI_pos (by omega)), fun _ => ?_⟩
            | refine ⟨fun _ => ?_, fun h => absurd (by with_reducible exact nI_0le (by omega)) h⟩
            | refine ⟨fun h => absurd h (by decide), fun _ => ?_⟩
            | refine ⟨fun _ => ?_, fun h => absurd (by decide) h⟩
            | refine ⟨fun _ => ?_, fun h => absurd h (by decide)⟩
            | refine ⟨fun h => absurd (by decide) h, fun _ => ?_⟩
            | refine ⟨by decide, ?_⟩
            | refine ⟨rfl, ?_⟩)
    try (conv => whnf)
    refine ⟨(σ, τ, n, pc, un), rfl, rfl, ⟨hI, hF⟩, ?_⟩
    try dsimp only [cond_true, cond_false]
    rintro _ _ ⟨rfl, σ1, rfl, hI1, hF1, h13, f1, g1, hsame⟩
    rcases hF1.2.1 with h14 | h14
    · have h14' : ¬ σ 0 14 = 1 := fun q => by rw [← g1 14 (by decide), h14] at q; exact absurd q (by decide)
      have h15 : σ1 0 15 = 0 := hF1.2.2.elim id (fun q => by rw [h14] at q; exact absurd q.2.1 (by decide))
      have hor : cOr σ1 n := (hF1.1.resolve_left (by rw [h13]; decide)).2.1
      repeat (first
        | (conv => whnf
           try dsimp only
           try simp (decide := true) only [h14, zu_same, zu_ne1, zu_ne2, zu_row, zuL_same, zuL_ne1, zuL_ne2, zrow_n1, zx0, zx1, zx2, zx3, nI_1, Nat.reduceAdd, Nat.reduceMul, Int32.reduceAdd, Int32.reduceSub, Int32.reduceMul]
           first
           | refine ⟨vp_inb (by decide), ?_⟩
           | refine ⟨by with_reducible exact zi (by omega), ?_⟩
           | refine ⟨fun h => absurd h (by with_reducible exact nI_ge (by omega) (by omega)), fun _ => ?_⟩
           | refine ⟨fun _ => ?_, fun h => absurd (by with_reducible exact nI_le (by omega) (by omega)) h⟩
           | refine ⟨fun h => absurd h (by with_reducible exact nI_nlt (by omega) (by omega)), fun _ => ?_⟩
           | refine ⟨fun _ => ?_, fun h => absurd (by with_reducible exact nI_lt (by omega) (by omega)) h⟩
           | refine ⟨fun h => absurd h (by with_reducible exact nI_pos (by omega)), fun _ => ?_⟩
           | refine ⟨fun _ => ?_, fun h => absurd (by with_reducible exact nI_0le (by omega)) h⟩
           | refine ⟨fun h => absurd h (by decide), fun _ => ?_⟩
           | refine ⟨fun _ => ?_, fun h => absurd (by decide) h⟩
           | refine ⟨fun _ => ?_, fun h => absurd h (by decide)⟩
           | refine ⟨fun h => absurd (by decide) h, fun _ => ?_⟩
           | refine ⟨by decide, ?_⟩
           | refine ⟨rfl, ?_⟩)
        | (conv => whnf
           fail_if_success refine Exists.intro ?_ ?_
           simp only [h14]))
      try (conv => whnf)
      refine ⟨(true, σ1, τ, n, pc, -1), rfl, rfl, ⟨hI1.1, fun u hu => hI1.2.2.2.2.2.1 u (by have := hI1.1.2.1; omega), hI1.2.1, hor, cI_nz hI1⟩, ?_⟩
      try dsimp only [cond_true, cond_false]
      rintro _ _ ⟨rfl, σ2, rfl, f2, hsw, hkb2, hT⟩
      repeat (conv => whnf
              try dsimp only
              try simp (decide := true) only [zu_same, zu_ne1, zu_ne2, zu_row, zuL_same, zuL_ne1, zuL_ne2, zrow_n1, zx0, zx1, zx2, zx3, nI_1, Nat.reduceAdd, Nat.reduceMul, Int32.reduceAdd, Int32.reduceSub, Int32.reduceMul]
              first
              | refine ⟨vp_inb (by decide), ?_⟩
              | refine ⟨by with_reducible exact zi (by omega), ?_⟩
              | refine ⟨fun h => absurd h (by with_reducible exact nI_ge (by omega) (by omega)), fun _ => ?_⟩
              | refine ⟨fun _ => ?_, fun h => absurd (by with_reducible exact nI_le (by omega) (by omega)) h⟩
              | refine ⟨fun h => absurd h (by with_reducible exact nI_nlt (by omega) (by omega)), fun _ => ?_⟩
              | refine ⟨fun _ => ?_, fun h => absurd (by with_reducible exact nI_lt (by omega) (by omega)) h⟩
              | refine ⟨fun h => absurd h (by with_reducible exact nI_pos (by omega)), fun _ => ?_⟩
              | refine ⟨fun _ => ?_, fun h => absurd (by with_reducible exact nI_0le (by omega)) h⟩
              | refine ⟨fun h => absurd h (by decide), fun _ => ?_⟩
              | refine ⟨fun _ => ?_, fun h => absurd (by decide) h⟩
              | refine ⟨fun _ => ?_, fun h => absurd h (by decide)⟩
              | refine ⟨fun h => absurd (by decide) h, fun _ => ?_⟩
              | refine ⟨by decide, ?_⟩
              | refine ⟨rfl, ?_⟩)
      try (conv => whnf)
      have g : ∀ r, r ≠ 0 → r < 101 → zu σ2 0 14 1 r = σ1 r := fun r h0 h => by rw [zu_row h0, f2 r (by omega) (by omega) (by omega) (by omega)]
      have g0 : ∀ j, j ≠ 14 → zu σ2 0 14 1 0 j = σ1 0 j := fun j hj => by rw [zu_ne2 hj, f2 0 (by decide) (by decide) (by decide) (by decide)]
      have hlt := cL_lt hI1
      refine hK _ _ ⟨rfl, _, rfl, ?_, ⟨Or.inr ⟨?_, ?_, ?_⟩, Or.inr ⟨zu_same, ?_, ?_⟩, Or.inl ?_⟩, ⟨?_, zu_same⟩, fun r h0 h => ?_, fun q r h0 h => ?_, fun q => absurd q h14'⟩
      · refine cI_cg hI1 (fun r h0 h => g r h0 (by omega)) (g 100 (by decide) (by decide)) (fun u hu => ?_)
        rw [zu_row (by decide)]
        by_cases hun : u < n
        · exact hkb2 u hun
        · rw [hsw, pSw_hi (R := pRe n (σ1 88) (σ1 85)) (G := zMG σ1) (S := σ1 89) (W := -1) hI1.2.1.1 (pOr n (pRe n (σ1 88) (σ1 85))) (σ1 103) hlt u (by omega)]
          exact hI1.2.2.2.2.2.1 u hu
      · exact (g0 13 (by decide)).trans h13
      · exact cOr_cg hor (fun r h0 h => g r h0 (by omega))
      · exact pFt_cg (hF1.1.resolve_left (by rw [h13]; decide)).2.2 (fun r h0 h => g r h0 (by omega))
      · exact (g0 13 (by decide)).trans h13
      · refine cSo_of hI1 g ?_ ?_
        · rw [zu_row (by decide)]
          exact hsw
        · rw [zu_row (show (103 : Nat) ≠ 0 by decide), zu_row (show (104 : Nat) ≠ 0 by decide), zu_row (show (105 : Nat) ≠ 0 by decide)]
          exact hT
      · exact (g0 15 (by decide)).trans h15
      · exact (g0 13 (by decide)).trans h13
      · rw [zu_row h0, f2 r (by omega) (by omega) (by omega) (by omega)]
        exact f1 r h0 (by omega)
      · rw [g r h0 h, hsame q]
    · have h14' : σ 0 14 = 1 := by rw [← g1 14 (by decide)]; exact h14.1
      have hs : σ1 = σ := hsame (by
        rcases hF.2.1 with q | q
        · rw [h14'] at q
          exact absurd q (by decide)
        · exact q.2.1)
      repeat (first
        | (conv => whnf
           try dsimp only
           try simp (decide := true) only [h14.1, zu_same, zu_ne1, zu_ne2, zu_row, zuL_same, zuL_ne1, zuL_ne2, zrow_n1, zx0, zx1, zx2, zx3, nI_1, Nat.reduceAdd, Nat.reduceMul, Int32.reduceAdd, Int32.reduceSub, Int32.reduceMul]
           first
           | refine ⟨vp_inb (by decide), ?_⟩
           | refine ⟨by with_reducible exact zi (by omega), ?_⟩
           | refine ⟨fun h => absurd h (by with_reducible exact nI_ge (by omega) (by omega)), fun _ => ?_⟩
           | refine ⟨fun _ => ?_, fun h => absurd (by with_reducible exact nI_le (by omega) (by omega)) h⟩
           | refine ⟨fun h => absurd h (by with_reducible exact nI_nlt (by omega) (by omega)), fun _ => ?_⟩
           | refine ⟨fun _ => ?_, fun h => absurd (by with_reducible exact nI_lt (by omega) (by omega)) h⟩
           | refine ⟨fun h => absurd h (by with_reducible exact nI_pos (by omega)), fun _ => ?_⟩
           | refine ⟨fun _ => ?_, fun h => absurd (by with_reducible exact nI_0le (by omega)) h⟩
           | refine ⟨fun h => absurd h (by decide), fun _ => ?_⟩
           | refine ⟨fun _ => ?_, fun h => absurd (by decide) h⟩
           | refine ⟨fun _ => ?_, fun h => absurd h (by decide)⟩
           | refine ⟨fun h => absurd (by decide) h, fun _ => ?_⟩
           | refine ⟨by decide, ?_⟩
           | refine ⟨rfl, ?_⟩)
        | (conv => whnf
           fail_if_success refine Exists.intro ?_ ?_
           simp only [h14.1]))
      try (conv => whnf)
      exact hK _ _ ⟨rfl, σ1, rfl, hI1, hF1, ⟨h13, h14.1⟩, fun r h0 h => by rw [hs], fun q r h0 h => by rw [hs], fun _ => hs⟩
def spX7_resetTrial : zSp := zDQ (X := zIn × zLo) (fun x => match x with | (σ, τ) => [.ref 0]) (fun x => match x with | (σ, τ) => (119, zSH, zRH, σ, τ)) (fun x => match x with | (σ, τ) => True) (fun x r9 μ9 => match x with | (σ, τ) => r9 = none ∧ ∃ σ1 : zIn, μ9 = (119, zSH, zRH, σ1, τ) ∧ (∀ r, r ≠ 107 → r ≠ 110 → σ1 r = σ r) ∧ ∀ j, j < 16 → σ1 110 j = σ 89 j ∧ σ1 107 j = σ 103 j)
abbrev rmX7_resetTrial : Room := ({ frames := 1, cells := 0, slots := 0, locals := 26 } : Room)
set_option maxRecDepth 100000 in
set_option maxHeartbeats 4000000 in
theorem ctX7_resetTrial (l : Launch) (D : va_G) (cA : Nat → ClassId) : zCt false l D cA yX7_resetTrial cX7_resetTrial 1 (none) rmX7_resetTrial spX7_resetTrial := by
  refine zct_Q (zCX7_resetTrial [(235, 1, 5, spCopy, 0, 0)]) zpX7_resetTrial [] (by decide +kernel) zkX7_resetTrial (Or.inr (by decide +kernel)) trivial ⟨by decide +kernel, by decide +kernel⟩ (fun x ad => Nat.le_of_ble_eq_true rfl) ?_ ?_
  · intro p e s m args below meth c A H0 ad0 n0 Q F hml hNw hA hX
    exact ⟨zco_copy F hml ⟨zlX7_resetTrial_235, zlib_copy⟩ ⟨Nat.le_of_ble_eq_true rfl, Nat.le_of_ble_eq_true rfl⟩, trivial⟩
  · rintro ⟨σ, τ⟩ Ret hP hK Gl hG
    try dsimp only at hP hK
    show Gl 0 (zent 1 [.ref 0]) [] (0, 0) ((119, zSH, zRH, σ, τ))
    refine hG 100 _ _ _ _ _ ?_
    repeat (conv => whnf
            try dsimp only
            try simp (decide := true) only [zu_same, zu_ne1, zu_ne2, zu_row, zuL_same, zuL_ne1, zuL_ne2, zrow_n1, zx0, zx1, zx2, zx3, nI_1, Nat.reduceAdd, Nat.reduceMul, Int32.reduceAdd, Int32.reduceSub, Int32.reduceMul]
            first
            | refine ⟨vp_inb (by decide), ?_⟩
            | refine ⟨by with_reducible exact zi (by omega), ?_⟩
            | refine ⟨fun h => absurd h (by with_reducible exact nI_ge (by omega) (by omega)), fun _ => ?_⟩
            | refine ⟨fun _ => ?_, fun h => absurd (by with_reducible exact nI_le (by omega) (by omega)) h⟩
            | refine ⟨fun h => absurd h (by with_reducible exact nI_nlt (by omega) (by omega)), fun _ => ?_⟩
            | refine ⟨fun _ => ?_, fun h => absurd (by with_reducible exact nI_lt (by omega) (by omega)) h⟩
            | refine ⟨fun h => absurd h (by with_reducible exact nI_pos (by omega)), fun _ => ?_⟩
            | refine ⟨fun _ => ?_, fun h => absurd (by with_reducible exact nI_0le (by omega)) h⟩
            | refine ⟨fun h => absurd h (by decide), fun _ => ?_⟩
            | refine ⟨fun _ => ?_, fun h => absurd (by decide) h⟩
            | refine ⟨fun _ => ?_, fun h => absurd h (by decide)⟩
            | refine ⟨fun h => absurd (by decide) h, fun _ => ?_⟩
            | refine ⟨by decide, ?_⟩
            | refine ⟨rfl, ?_⟩)
    try (conv => whnf)
    refine ⟨_, _, _, _, _, _, _, rfl, rfl, rfl, ⟨by decide, by decide, by decide, by decide, by decide⟩, ?_⟩
    repeat (conv => whnf
            try dsimp only
            try simp (decide := true) only [zu_same, zu_ne1, zu_ne2, zu_row, zuL_same, zuL_ne1, zuL_ne2, zrow_n1, zx0, zx1, zx2, zx3, nI_1, Nat.reduceAdd, Nat.reduceMul, Int32.reduceAdd, Int32.reduceSub, Int32.reduceMul]
            first
            | refine ⟨vp_inb (by decide), ?_⟩
            | refine ⟨by with_reducible exact zi (by omega), ?_⟩
            | refine ⟨fun h => absurd h (by with_reducible exact nI_ge (by omega) (by omega)), fun _ => ?_⟩
            | refine ⟨fun _ => ?_, fun h => absurd (by with_reducible exact nI_le (by omega) (by omega)) h⟩
            | refine ⟨fun h => absurd h (by with_reducible exact nI_nlt (by omega) (by omega)), fun _ => ?_⟩
            | refine ⟨fun _ => ?_, fun h => absurd (by with_reducible exact nI_lt (by omega) (by omega)) h⟩
            | refine ⟨fun h => absurd h (by with_reducible exact nI_pos (by omega)), fun _ => ?_⟩
            | refine ⟨fun _ => ?_, fun h => absurd (by with_reducible exact nI_0le (by omega)) h⟩
            | refine ⟨fun h => absurd h (by decide), fun _ => ?_⟩
            | refine ⟨fun _ => ?_, fun h => absurd (by decide) h⟩
            | refine ⟨fun _ => ?_, fun h => absurd h (by decide)⟩
            | refine ⟨fun h => absurd (by decide) h, fun _ => ?_⟩
            | refine ⟨by decide, ?_⟩
            | refine ⟨rfl, ?_⟩)
    try (conv => whnf)
    refine ⟨_, _, _, _, _, _, _, rfl, rfl, rfl, ⟨by decide, by decide, by decide, by decide, by decide⟩, ?_⟩
    repeat (conv => whnf
            try dsimp only
            try simp (decide := true) only [zu_same, zu_ne1, zu_ne2, zu_row, zuL_same, zuL_ne1, zuL_ne2, zrow_n1, zx0, zx1, zx2, zx3, nI_1, Nat.reduceAdd, Nat.reduceMul, Int32.reduceAdd, Int32.reduceSub, Int32.reduceMul]
            first
            | refine ⟨vp_inb (by decide), ?_⟩
            | refine ⟨by with_reducible exact zi (by omega), ?_⟩
            | refine ⟨fun h => absurd h (by with_reducible exact nI_ge (by omega) (by omega)), fun _ => ?_⟩
            | refine ⟨fun _ => ?_, fun h => absurd (by with_reducible exact nI_le (by omega) (by omega)) h⟩
            | refine ⟨fun h => absurd h (by with_reducible exact nI_nlt (by omega) (by omega)), fun _ => ?_⟩
            | refine ⟨fun _ => ?_, fun h => absurd (by with_reducible exact nI_lt (by omega) (by omega)) h⟩
            | refine ⟨fun h => absurd h (by with_reducible exact nI_pos (by omega)), fun _ => ?_⟩
            | refine ⟨fun _ => ?_, fun h => absurd (by with_reducible exact nI_0le (by omega)) h⟩
            | refine ⟨fun h => absurd h (by decide), fun _ => ?_⟩
            | refine ⟨fun _ => ?_, fun h => absurd (by decide) h⟩
            | refine ⟨fun _ => ?_, fun h => absurd h (by decide)⟩
            | refine ⟨fun h => absurd (by decide) h, fun _ => ?_⟩
            | refine ⟨by decide, ?_⟩
            | refine ⟨rfl, ?_⟩)
    try (conv => whnf)
    try dsimp only
    try simp (decide := true) only [zu_same, zu_ne1, zu_ne2, zu_row, zuL_same, zuL_ne1, zuL_ne2, zrow_n1, zx0, zx1, zx2, zx3, nI_1, Nat.reduceAdd, Nat.reduceMul, Int32.reduceAdd, Int32.reduceSub, Int32.reduceMul]
    refine hK _ _ ⟨rfl, _, rfl, fun r h1 h2 => by rw [zrow_ne h1, zrow_ne h2], fun j hj => ⟨?_, ?_⟩⟩
    · rw [zrow_n1 (by decide), zrow_self]
      show (if 0 ≤ j ∧ j < 0 + 16 then σ 89 (0 + (j - 0)) else _) = _
      rw [if_pos ⟨Nat.zero_le j, by omega⟩, Nat.zero_add, Nat.sub_zero]
    · rw [zrow_self]
      show (if 0 ≤ j ∧ j < 0 + 16 then _ else _) = _
      rw [if_pos ⟨Nat.zero_le j, by omega⟩]
      show zrow σ 110 _ 103 (0 + (j - 0)) = _
      rw [Nat.zero_add, Nat.sub_zero, zrow_n1 (by decide)]
theorem pF_na {n pc : Nat} {pl : Nat → Int32} {G : zMd} (h : pWf n pc pl G) {S1 S2 : Nat → Int32} {i u : Nat} (hi : i < n) (hu : u < n) (hS : ∀ j, j < n → j ≠ i → S1 j = S2 j) (hna : bt (pAb (pRe n G.2.1 pl) i n) u = false) : pF n (pRe n G.2.1 pl) G S1 u = pF n (pRe n G.2.1 pl) G S2 u := by
  have hn := h.1
  refine pF_dep h hu (fun z hz hbz => hS z hz fun e => ?_)
  rw [e] at hbz
  rcases (pBe_iff (by omega)).mp hbz with q | q
  · rw [(pAb_iff (by omega) n hn u).mpr (Or.inr ⟨hu, q⟩)] at hna
    cases hna
  · rw [← q, (pAb_iff (by omega) n hn i).mpr (Or.inl rfl)] at hna
    cases hna
theorem cTry {σ : zIn} {τ : zLo} {n pc un : Nat} (H : cI σ τ n pc un) {i v : Nat} {x : Int32} (hi : i < n) (hv : v < n) {A S : Nat → Int32} {W : Int32} (hW : ∀ u, u < n → bt (pAb (pRe n (σ 88) (σ 85)) i n) u = true → bt (pBe (pRe n (σ 88) (σ 85)) v) u = true → bt W u = true)
    (hS : ∀ j, j < n → j ≠ i → S j = σ 89 j) (hA : ∀ u, u < n → bt (pBe (pRe n (σ 88) (σ 85)) v) u = true → bt (pAb (pRe n (σ 88) (σ 85)) i n) u = false → A u = cF σ n (σ 89) u) :
    ∀ u, u < n → bt (pBe (pRe n (σ 88) (σ 85)) v) u = true → pSw n (pRe n (σ 88) (σ 85)) (zMG σ) (fun j => if j = i then x else S j) W (pOr n (pRe n (σ 88) (σ 85))) A u = cF σ n (sAt (σ 89) i x) u := by
  intro u hu hb
  have h1 := pSw_try H.2.1 (S := S) (A := A) hi hv (x := x) (W := W) hW (fun u hu hb hna => (hA u hu hb hna).trans (pF_na H.2.1 hi hu (fun j hj hji => (hS j hj hji).symm) hna)) u hu hb
  refine h1.trans (pF_dep H.2.1 hu (fun z hz _ => ?_))
  show (if z = i then x else S z) = (if z = i then x else σ 89 z)
  split
  · rfl
  · rename_i e
    exact hS z hz e
/-- what stands in the trial -/
def pTri (σ : zIn) (n i v : Nat) : Prop := (∀ u, u < n → u ≠ i → σ 110 u = σ 89 u) ∧ (∀ u, u < n → kb (σ 107 u)) ∧ ∀ u, u < n → bt (pBe (pRe n (σ 88) (σ 85)) v) u = true → bt (pAb (pRe n (σ 88) (σ 85)) i n) u = false → σ 107 u = cF σ n (σ 89) u
def spX7_tried : zSp := zDQ (X := zIn × zLo × Nat × Nat × Nat × Nat × Nat × Int32) (fun x => match x with | (σ, τ, n, pc, un, i, v, a) => [.ref 0, .int (nI i), .int a, .int (nI v)]) (fun x => match x with | (σ, τ, n, pc, un, i, v, a) => (119, zSH, zRH, σ, τ)) (fun x => match x with | (σ, τ, n, pc, un, i, v, a) => cI σ τ n pc un ∧ cOr σ n ∧ i < n ∧ v < n ∧ pTri σ n i v) (fun x r9 μ9 => match x with | (σ, τ, n, pc, un, i, v, a) => r9 = some (.int (cF σ n (sAt (σ 89) i a) v)) ∧ ∃ σ1 : zIn, μ9 = (119, zSH, zRH, σ1, τ) ∧ (∀ r, r ≠ 101 → r < 107 ∨ 110 < r → σ1 r = σ r) ∧ pTri σ1 n i v)
abbrev rmX7_tried : Room := ({ frames := 6, cells := 0, slots := 0, locals := 152 } : Room)
set_option maxRecDepth 100000 in
set_option maxHeartbeats 4000000 in
theorem ctX7_tried (l : Launch) (D : va_G) (cA : Nat → ClassId) : zCt false l D cA yX7_tried cX7_tried 4 (some .int) rmX7_tried spX7_tried := by
  refine zct_Q (zCX7_tried [(298, 0, 1, spX1_above, rmX1_above.cells, rmX1_above.slots), (247, 0, 1, spX1_below, rmX1_below.cells, rmX1_below.slots), (250, 0, 3, spX4_solve, rmX4_solve.cells, rmX4_solve.slots)]) zpX7_tried [] (by decide +kernel) zkX7_tried (Or.inr (by decide +kernel)) trivial ⟨by decide +kernel, by decide +kernel⟩ (fun x ad => Nat.le_of_ble_eq_true rfl) ?_ ?_
  · intro p e s m args below meth c A H0 ad0 n0 Q F hml hNw hA hX
    exact ⟨zco_V hX hA F hml hNw (ctX1_above l D cA) ⟨⟨zlX7_tried_298, zwX1_above.1.1, zwX1_above.1.2⟩, zwX1_above.2⟩ zdX1_above ⟨Nat.le_of_ble_eq_true rfl, Nat.le_of_ble_eq_true rfl⟩ (ci := 1) (by decide) rfl (by rintro av μ K ⟨x, rfl, rfl, -⟩; exact ⟨_, _, rfl, rfl⟩), zco_V hX hA F hml hNw (ctX1_below l D cA) ⟨⟨zlX7_tried_247, zwX1_below.1.1, zwX1_below.1.2⟩, zwX1_below.2⟩ zdX1_below ⟨Nat.le_of_ble_eq_true rfl, Nat.le_of_ble_eq_true rfl⟩ (ci := 1) (by decide) rfl (by rintro av μ K ⟨x, rfl, rfl, -⟩; exact ⟨_, _, rfl, rfl⟩), zco_V hX hA F hml hNw (ctX4_solve l D cA) ⟨⟨zlX7_tried_250, zwX4_solve.1.1, zwX4_solve.1.2⟩, zwX4_solve.2⟩ zdX4_solve ⟨Nat.le_of_ble_eq_true rfl, Nat.le_of_ble_eq_true rfl⟩ (ci := 4) (by decide) rfl (by rintro av μ K ⟨x, rfl, rfl, -⟩; exact ⟨_, _, rfl, rfl⟩), trivial⟩
  · rintro ⟨σ, τ, n, pc, un, i, v, a⟩ Ret hP hK Gl hG
    try dsimp only at hP hK
    show Gl 0 (zent 4 [.ref 0, .int (nI i), .int a, .int (nI v)]) [] (0, 0) ((119, zSH, zRH, σ, τ))
    obtain ⟨hI, hor, hi, hv, ht1, ht2, ht3⟩ := hP
    have h16 := hI.1.2.1
    have hn := hI.1.1
    have g : ∀ r, r ≠ 110 → zu σ 110 i a r = σ r := fun r h => zu_row h
    refine hG 100 _ _ _ _ _ ?_
    repeat (first
      | (conv => whnf
         try dsimp only
         try simp (decide := true) only [nI_clamp (show i < 2 ^ 31 by omega), zu_same, zu_ne1, zu_ne2, zu_row, zuL_same, zuL_ne1, zuL_ne2, zrow_n1, zx0, zx1, zx2, zx3, nI_1, Nat.reduceAdd, Nat.reduceMul, Int32.reduceAdd, Int32.reduceSub, Int32.reduceMul]
         first
         | refine ⟨vp_inb (by decide), ?_⟩
         | refine ⟨by with_reducible exact zi (by omega), ?_⟩
         | refine ⟨fun h => absurd h (by with_reducible exact nI_ge (by omega) (by omega)), fun _ => ?_⟩
         | refine ⟨fun _ => ?_, fun h => absurd (by with_reducible exact nI_le (by omega) (by omega)) h⟩
         | refine ⟨fun h => absurd h (by with_reducible exact nI_nlt (by omega) (by omega)), fun _ => ?_⟩
         | refine ⟨fun _ => ?_, fun h => absurd (by with_reducible exact nI_lt (by omega) (by omega)) h⟩
         | refine ⟨fun h => absurd h (by with_reducible exact nI_pos (by omega)), fun _ => ?_⟩
         | refine ⟨fun _ => ?_, fun h => absurd (by with_reducible exact nI_0le (by omega)) h⟩
         | refine ⟨fun h => absurd h (by decide), fun _ => ?_⟩
         | refine ⟨fun _ => ?_, fun h => absurd (by decide) h⟩
         | refine ⟨fun _ => ?_, fun h => absurd h (by decide)⟩
         | refine ⟨fun h => absurd (by decide) h, fun _ => ?_⟩
         | refine ⟨by decide, ?_⟩
         | refine ⟨rfl, ?_⟩)
      | (conv => whnf
         fail_if_success refine Exists.intro ?_ ?_
         simp only [nI_clamp (show i < 2 ^ 31 by omega)]))
    try (conv => whnf)
    refine ⟨(zu σ 110 i a, τ, n, i), rfl, rfl, ⟨by rw [g 86 (by decide)]; exact hn, h16, by omega⟩, ?_⟩
    try dsimp only [cond_true, cond_false]
    repeat (first
      | (conv => whnf
         try dsimp only
         try simp (decide := true) only [nI_clamp (show i < 2 ^ 31 by omega), zu_same, zu_ne1, zu_ne2, zu_row, zuL_same, zuL_ne1, zuL_ne2, zrow_n1, zx0, zx1, zx2, zx3, nI_1, Nat.reduceAdd, Nat.reduceMul, Int32.reduceAdd, Int32.reduceSub, Int32.reduceMul]
         first
         | refine ⟨vp_inb (by decide), ?_⟩
         | refine ⟨by with_reducible exact zi (by omega), ?_⟩
         | refine ⟨fun h => absurd h (by with_reducible exact nI_ge (by omega) (by omega)), fun _ => ?_⟩
         | refine ⟨fun _ => ?_, fun h => absurd (by with_reducible exact nI_le (by omega) (by omega)) h⟩
         | refine ⟨fun h => absurd h (by with_reducible exact nI_nlt (by omega) (by omega)), fun _ => ?_⟩
         | refine ⟨fun _ => ?_, fun h => absurd (by with_reducible exact nI_lt (by omega) (by omega)) h⟩
         | refine ⟨fun h => absurd h (by with_reducible exact nI_pos (by omega)), fun _ => ?_⟩
         | refine ⟨fun _ => ?_, fun h => absurd (by with_reducible exact nI_0le (by omega)) h⟩
         | refine ⟨fun h => absurd h (by decide), fun _ => ?_⟩
         | refine ⟨fun _ => ?_, fun h => absurd (by decide) h⟩
         | refine ⟨fun _ => ?_, fun h => absurd h (by decide)⟩
         | refine ⟨fun h => absurd (by decide) h, fun _ => ?_⟩
         | refine ⟨by decide, ?_⟩
         | refine ⟨rfl, ?_⟩)
      | (conv => whnf
         fail_if_success refine Exists.intro ?_ ?_
         simp only [nI_clamp (show i < 2 ^ 31 by omega)]))
    try (conv => whnf)
    refine ⟨(zu σ 110 i a, τ, v), rfl, rfl, by omega, ?_⟩
    try dsimp only [cond_true, cond_false]
    repeat (first
      | (conv => whnf
         try dsimp only
         try simp (decide := true) only [nI_clamp (show i < 2 ^ 31 by omega), zu_same, zu_ne1, zu_ne2, zu_row, zuL_same, zuL_ne1, zuL_ne2, zrow_n1, zx0, zx1, zx2, zx3, nI_1, Nat.reduceAdd, Nat.reduceMul, Int32.reduceAdd, Int32.reduceSub, Int32.reduceMul]
         first
         | refine ⟨vp_inb (by decide), ?_⟩
         | refine ⟨by with_reducible exact zi (by omega), ?_⟩
         | refine ⟨fun h => absurd h (by with_reducible exact nI_ge (by omega) (by omega)), fun _ => ?_⟩
         | refine ⟨fun _ => ?_, fun h => absurd (by with_reducible exact nI_le (by omega) (by omega)) h⟩
         | refine ⟨fun h => absurd h (by with_reducible exact nI_nlt (by omega) (by omega)), fun _ => ?_⟩
         | refine ⟨fun _ => ?_, fun h => absurd (by with_reducible exact nI_lt (by omega) (by omega)) h⟩
         | refine ⟨fun h => absurd h (by with_reducible exact nI_pos (by omega)), fun _ => ?_⟩
         | refine ⟨fun _ => ?_, fun h => absurd (by with_reducible exact nI_0le (by omega)) h⟩
         | refine ⟨fun h => absurd h (by decide), fun _ => ?_⟩
         | refine ⟨fun _ => ?_, fun h => absurd (by decide) h⟩
         | refine ⟨fun _ => ?_, fun h => absurd h (by decide)⟩
         | refine ⟨fun h => absurd (by decide) h, fun _ => ?_⟩
         | refine ⟨by decide, ?_⟩
         | refine ⟨rfl, ?_⟩)
      | (conv => whnf
         fail_if_success refine Exists.intro ?_ ?_
         simp only [nI_clamp (show i < 2 ^ 31 by omega)]))
    try (conv => whnf)
    refine ⟨(false, zu σ 110 i a, τ, n, pc, pAb (σ 96) i n &&& pBe (σ 96) v), rfl, rfl, ⟨cTu_cg (fun r h => g r (by omega)) hI.1, (by (try dsimp only [cond_true, cond_false]); rw [g 107 (by decide)]; exact ht2), (by rw [zMG_cg (fun r h => g r (by omega)), g 85 (by decide)]; exact hI.2.1), cOr_cg hor (fun r _ h => g r (by omega)), (by rw [g 87 (by decide), g 16 (by decide)]; exact cI_nz hI)⟩, ?_⟩
    try dsimp only [cond_true, cond_false]
    rw [g 88 (by decide), g 85 (by decide), zMG_cg (fun r h => g r (by omega)), g 107 (by decide), zu_row_eq]
    rintro _ _ ⟨rfl, σ3, rfl, f3, hsw, hkb3, -⟩
    repeat (first
      | (conv => whnf
         try dsimp only
         try simp (decide := true) only [nI_clamp (show v < 2 ^ 31 by omega), zu_same, zu_ne1, zu_ne2, zu_row, zuL_same, zuL_ne1, zuL_ne2, zrow_n1, zx0, zx1, zx2, zx3, nI_1, Nat.reduceAdd, Nat.reduceMul, Int32.reduceAdd, Int32.reduceSub, Int32.reduceMul]
         first
         | refine ⟨vp_inb (by decide), ?_⟩
         | refine ⟨by with_reducible exact zi (by omega), ?_⟩
         | refine ⟨fun h => absurd h (by with_reducible exact nI_ge (by omega) (by omega)), fun _ => ?_⟩
         | refine ⟨fun _ => ?_, fun h => absurd (by with_reducible exact nI_le (by omega) (by omega)) h⟩
         | refine ⟨fun h => absurd h (by with_reducible exact nI_nlt (by omega) (by omega)), fun _ => ?_⟩
         | refine ⟨fun _ => ?_, fun h => absurd (by with_reducible exact nI_lt (by omega) (by omega)) h⟩
         | refine ⟨fun h => absurd h (by with_reducible exact nI_pos (by omega)), fun _ => ?_⟩
         | refine ⟨fun _ => ?_, fun h => absurd (by with_reducible exact nI_0le (by omega)) h⟩
         | refine ⟨fun h => absurd h (by decide), fun _ => ?_⟩
         | refine ⟨fun _ => ?_, fun h => absurd (by decide) h⟩
         | refine ⟨fun _ => ?_, fun h => absurd h (by decide)⟩
         | refine ⟨fun h => absurd (by decide) h, fun _ => ?_⟩
         | refine ⟨by decide, ?_⟩
         | refine ⟨rfl, ?_⟩)
      | (conv => whnf
         fail_if_success refine Exists.intro ?_ ?_
         simp only [nI_clamp (show v < 2 ^ 31 by omega)]))
    try (conv => whnf)
    have hR : ∀ j, j < n → σ 96 j = pRe n (σ 88) (σ 85) j := fun j hj => (hor.1 j hj).2
    have e1 : pAb (σ 96) i n = pAb (pRe n (σ 88) (σ 85)) i n := pAb_congr hR n (Nat.le_refl n)
    have e2 : pBe (σ 96) v = pBe (pRe n (σ 88) (σ 85)) v := by
      unfold pBe
      rw [hR v hv]
    have key := cTry hI (x := a) hi hv (A := σ 107) (S := σ 110) (W := pAb (σ 96) i n &&& pBe (σ 96) v) (fun u hu h1 h2 => by rw [bt_and, e1, e2, h1, h2]; rfl) ht1 ht3
    have hbv : bt (pBe (pRe n (σ 88) (σ 85)) v) v = true := (pBe_iff (by omega)).mpr (Or.inr rfl)
    have f4 : ∀ r, r ≠ 101 → r < 107 ∨ 110 < r → σ3 r = σ r := fun r h1 h2 => by rw [f3 r h1 (by omega) (by omega) (by omega), g r (by omega)]
    have f110 : σ3 110 = zu σ 110 i a 110 := f3 110 (by decide) (by decide) (by decide) (by decide)
    have hval : ∀ u, u < n → bt (pBe (pRe n (σ 88) (σ 85)) v) u = true → σ3 107 u = cF σ n (sAt (σ 89) i a) u := fun u hu hb => by
      rw [hsw]
      exact key u hu hb
    refine hK _ _ ⟨by rw [hval v hv hbv], σ3, rfl, f4, ?_, hkb3, ?_⟩
    · intro u hu hui
      rw [f110, zu_ne2 hui, f4 89 (by decide) (by decide)]
      exact ht1 u hu hui
    · intro u hu hb hna
      rw [f4 88 (by decide) (by decide), f4 85 (by decide) (by decide)] at hb hna
      rw [hval u hu hb, cF_cg (fun r _ h => f3 r (by omega) (by omega) (by omega) (by omega)), f4 89 (by decide) (by decide)]
      refine (pF_na hI.2.1 hi hu (fun j hj hji => ?_) hna).trans (congrFun (cF_cg (fun r _ h => g r (by omega))).symm u)
      show (if j = i then a else σ 89 j) = σ 89 j
      rw [if_neg hji]

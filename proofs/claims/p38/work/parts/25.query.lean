/-! ===== questions, where all is found ===== -/
def spX7_faults : zSp := zD (X := zIn × zLo × Nat × Nat × Nat) (fun x => match x with | (σ, τ, n, pc, un) => [.ref 0]) (fun x => match x with | (σ, τ, n, pc, un) => (119, zSH, zRH, σ, τ)) (fun x => match x with | (σ, τ, n, pc, un) => gS σ τ n pc un) (fun x => match x with | (σ, τ, n, pc, un) => some (.int (σ 90 6))) (fun x => match x with | (σ, τ, n, pc, un) => (119, zSH, zRH, σ, τ))
abbrev rmX7_faults : Room := ({ frames := 6, cells := 0, slots := 0, locals := 130 } : Room)
set_option maxRecDepth 100000 in
set_option maxHeartbeats 4000000 in
theorem ctX7_faults (l : Launch) (D : va_G) (cA : Nat → ClassId) : zCt false l D cA yX7_faults cX7_faults 1 (some .int) rmX7_faults spX7_faults := by
  refine zct_D (zCX7_faults [(170, 0, 0, spX7_arrange, rmX7_arrange.cells, rmX7_arrange.slots)]) zpX7_faults [] (by decide +kernel) zkX7_faults (Or.inr (by decide +kernel)) trivial ⟨by decide +kernel, by decide +kernel⟩ (fun x ad => Nat.le_of_ble_eq_true rfl) ?_ ?_
  · intro p e s m args below meth c A H0 ad0 n0 Q F hml hNw hA hX
    exact ⟨zco_V hX hA F hml hNw (ctX7_arrange l D cA) ⟨⟨zlX7_faults_170, zwX7_arrange.1.1, zwX7_arrange.1.2⟩, zwX7_arrange.2⟩ zdX7_arrange ⟨Nat.le_of_ble_eq_true rfl, Nat.le_of_ble_eq_true rfl⟩ (ci := 7) (by decide) rfl (by rintro av μ K ⟨x, rfl, rfl, -⟩; exact ⟨_, _, rfl, rfl⟩), trivial⟩
  · rintro ⟨σ, τ, n, pc, un⟩ Ret hP hK Gl hG
    try dsimp only at hP hK
    show Gl 0 (zent 1 [.ref 0]) [] (0, 0) ((119, zSH, zRH, σ, τ))
    refine hG 40 _ _ _ _ _ ?_
    repeat (conv => whnf
            try dsimp only
            try simp (decide := true) only [zu_same, zu_ne1, zu_ne2, zu_row, zuL_same, zuL_ne1, zuL_ne2, zrow_n1, zx0, zx1, zx2, zx3, nI_1, Nat.reduceAdd, Nat.reduceMul, Int32.reduceAdd, Int32.reduceSub, Int32.reduceMul]
            first
            | refine ⟨vp_inb (by decide), ?_⟩
            | refine ⟨by with_reducible exact zi (by omega), ?_⟩
            | refine ⟨fun h => absurd h (by with_reducible exact nI_ge (by omega) (by omega)), fun _ => ?_⟩
            | refine ⟨fun _ => ?_, fun h => absurd (by with_reducible exact nI_le (by omega) (by omega)) h⟩
            | refine ⟨fun h => absurd h (by with_reducible exact nI_nlt (by omega) (by omega)), fun _ => ?_⟩
            | refine ⟨fun _ => ?_, fun h => absurd (by with_reducible exact nI_lt (by omega) (by omega)) h⟩
            | refine ⟨fun h => absurd h (by with_reducible exact nI_pos (by omega)), fun _ => ?_⟩
            | refine ⟨fun _ => ?_, fun h => absurd (by with_reducible exact nI_0le (by omega)) h⟩
            | refine ⟨fun h => absurd h (by decide), fun _ => ?_⟩
            | refine ⟨fun _ => ?_, fun h => absurd (by decide) h⟩
            | refine ⟨fun _ => ?_, fun h => absurd h (by decide)⟩
            | refine ⟨fun h => absurd (by decide) h, fun _ => ?_⟩
            | refine ⟨by decide, ?_⟩
            | refine ⟨rfl, ?_⟩)
    try (conv => whnf)
    refine ⟨(σ, τ, n, pc, un), rfl, rfl, ⟨hP.1, hP.2.1⟩, ?_⟩
    try dsimp only [cond_true, cond_false]
    rintro _ _ ⟨rfl, σ1, rfl, -, -, -, -, -, hs⟩
    rw [hs hP.2.2.1]
    repeat (conv => whnf
            try dsimp only
            try simp (decide := true) only [zu_same, zu_ne1, zu_ne2, zu_row, zuL_same, zuL_ne1, zuL_ne2, zrow_n1, zx0, zx1, zx2, zx3, nI_1, Nat.reduceAdd, Nat.reduceMul, Int32.reduceAdd, Int32.reduceSub, Int32.reduceMul]
            first
            | refine ⟨vp_inb (by decide), ?_⟩
            | refine ⟨by with_reducible exact zi (by omega), ?_⟩
            | refine ⟨fun h => absurd h (by with_reducible exact nI_ge (by omega) (by omega)), fun _ => ?_⟩
            | refine ⟨fun _ => ?_, fun h => absurd (by with_reducible exact nI_le (by omega) (by omega)) h⟩
            | refine ⟨fun h => absurd h (by with_reducible exact nI_nlt (by omega) (by omega)), fun _ => ?_⟩
            | refine ⟨fun _ => ?_, fun h => absurd (by with_reducible exact nI_lt (by omega) (by omega)) h⟩
            | refine ⟨fun h => absurd h (by with_reducible exact nI_pos (by omega)), fun _ => ?_⟩
            | refine ⟨fun _ => ?_, fun h => absurd (by with_reducible exact nI_0le (by omega)) h⟩
            | refine ⟨fun h => absurd h (by decide), fun _ => ?_⟩
            | refine ⟨fun _ => ?_, fun h => absurd (by decide) h⟩
            | refine ⟨fun _ => ?_, fun h => absurd h (by decide)⟩
            | refine ⟨fun h => absurd (by decide) h, fun _ => ?_⟩
            | refine ⟨by decide, ?_⟩
            | refine ⟨rfl, ?_⟩)
    try (conv => whnf)
    exact hK
def spX7_ofFault : zSp := zD (X := zIn × zLo × Nat × Nat × Nat × Nat × Nat × Nat) (fun x => match x with | (σ, τ, n, pc, un, c, f, w) => [.ref 0, .int (nI f), .int (nI w)]) (fun x => match x with | (σ, τ, n, pc, un, c, f, w) => (119, zSH, zRH, σ, τ)) (fun x => match x with | (σ, τ, n, pc, un, c, f, w) => gS σ τ n pc un ∧ σ 90 6 = nI c ∧ c ≤ 960 ∧ f < c ∧ w < 3) (fun x => match x with | (σ, τ, n, pc, un, c, f, w) => some (.int (σ (91 + w) f))) (fun x => match x with | (σ, τ, n, pc, un, c, f, w) => (119, zSH, zRH, σ, τ))
abbrev rmX7_ofFault : Room := ({ frames := 6, cells := 0, slots := 0, locals := 130 } : Room)
set_option maxRecDepth 100000 in
set_option maxHeartbeats 4000000 in
theorem ctX7_ofFault (l : Launch) (D : va_G) (cA : Nat → ClassId) : zCt false l D cA yX7_ofFault cX7_ofFault 3 (some .int) rmX7_ofFault spX7_ofFault := by
  refine zct_D (zCX7_ofFault [(170, 0, 0, spX7_arrange, rmX7_arrange.cells, rmX7_arrange.slots), (174, 0, 2, spX0_told, rmX0_told.cells, rmX0_told.slots)]) zpX7_ofFault [] (by decide +kernel) zkX7_ofFault (Or.inr (by decide +kernel)) trivial ⟨by decide +kernel, by decide +kernel⟩ (fun x ad => Nat.le_of_ble_eq_true rfl) ?_ ?_
  · intro p e s m args below meth c A H0 ad0 n0 Q F hml hNw hA hX
    exact ⟨zco_V hX hA F hml hNw (ctX7_arrange l D cA) ⟨⟨zlX7_ofFault_170, zwX7_arrange.1.1, zwX7_arrange.1.2⟩, zwX7_arrange.2⟩ zdX7_arrange ⟨Nat.le_of_ble_eq_true rfl, Nat.le_of_ble_eq_true rfl⟩ (ci := 7) (by decide) rfl (by rintro av μ K ⟨x, rfl, rfl, -⟩; exact ⟨_, _, rfl, rfl⟩), zco_V hX hA F hml hNw (ctX0_told l D cA) ⟨⟨zlX7_ofFault_174, zwX0_told.1.1, zwX0_told.1.2⟩, zwX0_told.2⟩ zdX0_told ⟨Nat.le_of_ble_eq_true rfl, Nat.le_of_ble_eq_true rfl⟩ (ci := 0) (by decide) rfl (by rintro av μ K ⟨x, rfl, rfl, -⟩; exact ⟨_, _, rfl, rfl⟩), trivial⟩
  · rintro ⟨σ, τ, n, pc, un, c, f, w⟩ Ret hP hK Gl hG
    try dsimp only at hP hK
    show Gl 0 (zent 3 [.ref 0, .int (nI f), .int (nI w)]) [] (0, 0) ((119, zSH, zRH, σ, τ))
    obtain ⟨hP, hc, hc9, hf, hw⟩ := hP
    refine hG 40 _ _ _ _ _ ?_
    repeat (conv => whnf
            try dsimp only
            try simp (decide := true) only [zu_same, zu_ne1, zu_ne2, zu_row, zuL_same, zuL_ne1, zuL_ne2, zrow_n1, zx0, zx1, zx2, zx3, nI_1, Nat.reduceAdd, Nat.reduceMul, Int32.reduceAdd, Int32.reduceSub, Int32.reduceMul]
            first
            | refine ⟨vp_inb (by decide), ?_⟩
            | refine ⟨by with_reducible exact zi (by omega), ?_⟩
            | refine ⟨fun h => absurd h (by with_reducible exact nI_ge (by omega) (by omega)), fun _ => ?_⟩
            | refine ⟨fun _ => ?_, fun h => absurd (by with_reducible exact nI_le (by omega) (by omega)) h⟩
            | refine ⟨fun h => absurd h (by with_reducible exact nI_nlt (by omega) (by omega)), fun _ => ?_⟩
            | refine ⟨fun _ => ?_, fun h => absurd (by with_reducible exact nI_lt (by omega) (by omega)) h⟩
            | refine ⟨fun h => absurd h (by with_reducible exact nI_pos (by omega)), fun _ => ?_⟩
            | refine ⟨fun _ => ?_, fun h => absurd (by with_reducible exact nI_0le (by omega)) h⟩
            | refine ⟨fun h => absurd h (by decide), fun _ => ?_⟩
            | refine ⟨fun _ => ?_, fun h => absurd (by decide) h⟩
            | refine ⟨fun _ => ?_, fun h => absurd h (by decide)⟩
            | refine ⟨fun h => absurd (by decide) h, fun _ => ?_⟩
            | refine ⟨by decide, ?_⟩
            | refine ⟨rfl, ?_⟩)
    try (conv => whnf)
    refine ⟨(σ, τ, n, pc, un), rfl, rfl, ⟨hP.1, hP.2.1⟩, ?_⟩
    try dsimp only [cond_true, cond_false]
    rintro _ _ ⟨rfl, σ1, rfl, -, -, -, -, -, hs⟩
    rw [hs hP.2.2.1]
    repeat (first
      | (conv => whnf
         try dsimp only
         try simp (decide := true) only [hc, show (2 : Int32) = nI 2 from rfl, zu_same, zu_ne1, zu_ne2, zu_row, zuL_same, zuL_ne1, zuL_ne2, zrow_n1, zx0, zx1, zx2, zx3, nI_1, Nat.reduceAdd, Nat.reduceMul, Int32.reduceAdd, Int32.reduceSub, Int32.reduceMul]
         first
         | refine ⟨vp_inb (by decide), ?_⟩
         | refine ⟨by with_reducible exact zi (by omega), ?_⟩
         | refine ⟨fun h => absurd h (by with_reducible exact nI_ge (by omega) (by omega)), fun _ => ?_⟩
         | refine ⟨fun _ => ?_, fun h => absurd (by with_reducible exact nI_le (by omega) (by omega)) h⟩
         | refine ⟨fun h => absurd h (by with_reducible exact nI_nlt (by omega) (by omega)), fun _ => ?_⟩
         | refine ⟨fun _ => ?_, fun h => absurd (by with_reducible exact nI_lt (by omega) (by omega)) h⟩
         | refine ⟨fun h => absurd h (by with_reducible exact nI_pos (by omega)), fun _ => ?_⟩
         | refine ⟨fun _ => ?_, fun h => absurd (by with_reducible exact nI_0le (by omega)) h⟩
         | refine ⟨fun h => absurd h (by decide), fun _ => ?_⟩
         | refine ⟨fun _ => ?_, fun h => absurd (by decide) h⟩
         | refine ⟨fun _ => ?_, fun h => absurd h (by decide)⟩
         | refine ⟨fun h => absurd (by decide) h, fun _ => ?_⟩
         | refine ⟨by decide, ?_⟩
         | refine ⟨rfl, ?_⟩)
      | (conv => whnf
         fail_if_success refine Exists.intro ?_ ?_
         simp only [hc, show (2 : Int32) = nI 2 from rfl]))
    try (conv => whnf)
    refine ⟨(σ, τ, f, w), rfl, rfl, ⟨by omega, hw⟩, ?_⟩
    try dsimp only [cond_true, cond_false]
    repeat (conv => whnf
            try dsimp only
            try simp (decide := true) only [zu_same, zu_ne1, zu_ne2, zu_row, zuL_same, zuL_ne1, zuL_ne2, zrow_n1, zx0, zx1, zx2, zx3, nI_1, Nat.reduceAdd, Nat.reduceMul, Int32.reduceAdd, Int32.reduceSub, Int32.reduceMul]
            first
            | refine ⟨vp_inb (by decide), ?_⟩
            | refine ⟨by with_reducible exact zi (by omega), ?_⟩
            | refine ⟨fun h => absurd h (by with_reducible exact nI_ge (by omega) (by omega)), fun _ => ?_⟩
            | refine ⟨fun _ => ?_, fun h => absurd (by with_reducible exact nI_le (by omega) (by omega)) h⟩
            | refine ⟨fun h => absurd h (by with_reducible exact nI_nlt (by omega) (by omega)), fun _ => ?_⟩
            | refine ⟨fun _ => ?_, fun h => absurd (by with_reducible exact nI_lt (by omega) (by omega)) h⟩
            | refine ⟨fun h => absurd h (by with_reducible exact nI_pos (by omega)), fun _ => ?_⟩
            | refine ⟨fun _ => ?_, fun h => absurd (by with_reducible exact nI_0le (by omega)) h⟩
            | refine ⟨fun h => absurd h (by decide), fun _ => ?_⟩
            | refine ⟨fun _ => ?_, fun h => absurd (by decide) h⟩
            | refine ⟨fun _ => ?_, fun h => absurd h (by decide)⟩
            | refine ⟨fun h => absurd (by decide) h, fun _ => ?_⟩
            | refine ⟨by decide, ?_⟩
            | refine ⟨rfl, ?_⟩)
    try (conv => whnf)
    exact hK
def spX7_leansOn : zSp := zD (X := zIn × zLo × Nat × Nat × Nat × Nat) (fun x => match x with | (σ, τ, n, pc, un, v) => [.ref 0, .int (nI v)]) (fun x => match x with | (σ, τ, n, pc, un, v) => (119, zSH, zRH, σ, τ)) (fun x => match x with | (σ, τ, n, pc, un, v) => gS σ τ n pc un ∧ v < n) (fun x => match x with | (σ, τ, n, pc, un, v) => some (.int (σ 95 v))) (fun x => match x with | (σ, τ, n, pc, un, v) => (119, zSH, zRH, σ, τ))
abbrev rmX7_leansOn : Room := ({ frames := 6, cells := 0, slots := 0, locals := 130 } : Room)
set_option maxRecDepth 100000 in
set_option maxHeartbeats 4000000 in
theorem ctX7_leansOn (l : Launch) (D : va_G) (cA : Nat → ClassId) : zCt false l D cA yX7_leansOn cX7_leansOn 2 (some .int) rmX7_leansOn spX7_leansOn := by
  refine zct_D (zCX7_leansOn [(132, 0, 1, spX7_needVariable, rmX7_needVariable.cells, rmX7_needVariable.slots), (170, 0, 0, spX7_arrange, rmX7_arrange.cells, rmX7_arrange.slots)]) zpX7_leansOn [] (by decide +kernel) zkX7_leansOn (Or.inr (by decide +kernel)) trivial ⟨by decide +kernel, by decide +kernel⟩ (fun x ad => Nat.le_of_ble_eq_true rfl) ?_ ?_
  · intro p e s m args below meth c A H0 ad0 n0 Q F hml hNw hA hX
    exact ⟨zco_V hX hA F hml hNw (ctX7_needVariable l D cA) ⟨⟨zlX7_leansOn_132, zwX7_needVariable.1.1, zwX7_needVariable.1.2⟩, zwX7_needVariable.2⟩ zdX7_needVariable ⟨Nat.le_of_ble_eq_true rfl, Nat.le_of_ble_eq_true rfl⟩ (ci := 7) (by decide) rfl (by rintro av μ K ⟨x, rfl, rfl, -⟩; exact ⟨_, _, rfl, rfl⟩), zco_V hX hA F hml hNw (ctX7_arrange l D cA) ⟨⟨zlX7_leansOn_170, zwX7_arrange.1.1, zwX7_arrange.1.2⟩, zwX7_arrange.2⟩ zdX7_arrange ⟨Nat.le_of_ble_eq_true rfl, Nat.le_of_ble_eq_true rfl⟩ (ci := 7) (by decide) rfl (by rintro av μ K ⟨x, rfl, rfl, -⟩; exact ⟨_, _, rfl, rfl⟩), trivial⟩
  · rintro ⟨σ, τ, n, pc, un, v⟩ Ret hP hK Gl hG
    try dsimp only at hP hK
    show Gl 0 (zent 2 [.ref 0, .int (nI v)]) [] (0, 0) ((119, zSH, zRH, σ, τ))
    obtain ⟨hP, hv⟩ := hP
    have h16 := hP.1.1.2.1
    refine hG 40 _ _ _ _ _ ?_
    repeat (conv => whnf
            try dsimp only
            try simp (decide := true) only [zu_same, zu_ne1, zu_ne2, zu_row, zuL_same, zuL_ne1, zuL_ne2, zrow_n1, zx0, zx1, zx2, zx3, nI_1, Nat.reduceAdd, Nat.reduceMul, Int32.reduceAdd, Int32.reduceSub, Int32.reduceMul]
            first
            | refine ⟨vp_inb (by decide), ?_⟩
            | refine ⟨by with_reducible exact zi (by omega), ?_⟩
            | refine ⟨fun h => absurd h (by with_reducible exact nI_ge (by omega) (by omega)), fun _ => ?_⟩
            | refine ⟨fun _ => ?_, fun h => absurd (by with_reducible exact nI_le (by omega) (by omega)) h⟩
            | refine ⟨fun h => absurd h (by with_reducible exact nI_nlt (by omega) (by omega)), fun _ => ?_⟩
            | refine ⟨fun _ => ?_, fun h => absurd (by with_reducible exact nI_lt (by omega) (by omega)) h⟩
            | refine ⟨fun h => absurd h (by with_reducible exact nI_pos (by omega)), fun _ => ?_⟩
            | refine ⟨fun _ => ?_, fun h => absurd (by with_reducible exact nI_0le (by omega)) h⟩
            | refine ⟨fun h => absurd h (by decide), fun _ => ?_⟩
            | refine ⟨fun _ => ?_, fun h => absurd (by decide) h⟩
            | refine ⟨fun _ => ?_, fun h => absurd h (by decide)⟩
            | refine ⟨fun h => absurd (by decide) h, fun _ => ?_⟩
            | refine ⟨by decide, ?_⟩
            | refine ⟨rfl, ?_⟩)
    try (conv => whnf)
    refine ⟨(σ, τ, n, v), rfl, rfl, ⟨hP.1.1.1, h16, hv⟩, ?_⟩
    try dsimp only [cond_true, cond_false]
    repeat (conv => whnf
            try dsimp only
            try simp (decide := true) only [zu_same, zu_ne1, zu_ne2, zu_row, zuL_same, zuL_ne1, zuL_ne2, zrow_n1, zx0, zx1, zx2, zx3, nI_1, Nat.reduceAdd, Nat.reduceMul, Int32.reduceAdd, Int32.reduceSub, Int32.reduceMul]
            first
            | refine ⟨vp_inb (by decide), ?_⟩
            | refine ⟨by with_reducible exact zi (by omega), ?_⟩
            | refine ⟨fun h => absurd h (by with_reducible exact nI_ge (by omega) (by omega)), fun _ => ?_⟩
            | refine ⟨fun _ => ?_, fun h => absurd (by with_reducible exact nI_le (by omega) (by omega)) h⟩
            | refine ⟨fun h => absurd h (by with_reducible exact nI_nlt (by omega) (by omega)), fun _ => ?_⟩
            | refine ⟨fun _ => ?_, fun h => absurd (by with_reducible exact nI_lt (by omega) (by omega)) h⟩
            | refine ⟨fun h => absurd h (by with_reducible exact nI_pos (by omega)), fun _ => ?_⟩
            | refine ⟨fun _ => ?_, fun h => absurd (by with_reducible exact nI_0le (by omega)) h⟩
            | refine ⟨fun h => absurd h (by decide), fun _ => ?_⟩
            | refine ⟨fun _ => ?_, fun h => absurd (by decide) h⟩
            | refine ⟨fun _ => ?_, fun h => absurd h (by decide)⟩
            | refine ⟨fun h => absurd (by decide) h, fun _ => ?_⟩
            | refine ⟨by decide, ?_⟩
            | refine ⟨rfl, ?_⟩)
    try (conv => whnf)
    refine ⟨(σ, τ, n, pc, un), rfl, rfl, ⟨hP.1, hP.2.1⟩, ?_⟩
    try dsimp only [cond_true, cond_false]
    rintro _ _ ⟨rfl, σ1, rfl, -, -, -, -, -, hs⟩
    rw [hs hP.2.2.1]
    repeat (first
      | (conv => whnf
         try dsimp only
         try simp (decide := true) only [nI_clamp (show v < 2 ^ 31 by omega), zu_same, zu_ne1, zu_ne2, zu_row, zuL_same, zuL_ne1, zuL_ne2, zrow_n1, zx0, zx1, zx2, zx3, nI_1, Nat.reduceAdd, Nat.reduceMul, Int32.reduceAdd, Int32.reduceSub, Int32.reduceMul]
         first
         | refine ⟨vp_inb (by decide), ?_⟩
         | refine ⟨by with_reducible exact zi (by omega), ?_⟩
         | refine ⟨fun h => absurd h (by with_reducible exact nI_ge (by omega) (by omega)), fun _ => ?_⟩
         | refine ⟨fun _ => ?_, fun h => absurd (by with_reducible exact nI_le (by omega) (by omega)) h⟩
         | refine ⟨fun h => absurd h (by with_reducible exact nI_nlt (by omega) (by omega)), fun _ => ?_⟩
         | refine ⟨fun _ => ?_, fun h => absurd (by with_reducible exact nI_lt (by omega) (by omega)) h⟩
         | refine ⟨fun h => absurd h (by with_reducible exact nI_pos (by omega)), fun _ => ?_⟩
         | refine ⟨fun _ => ?_, fun h => absurd (by with_reducible exact nI_0le (by omega)) h⟩
         | refine ⟨fun h => absurd h (by decide), fun _ => ?_⟩
         | refine ⟨fun _ => ?_, fun h => absurd (by decide) h⟩
         | refine ⟨fun _ => ?_, fun h => absurd h (by decide)⟩
         | refine ⟨fun h => absurd (by decide) h, fun _ => ?_⟩
         | refine ⟨by decide, ?_⟩
         | refine ⟨rfl, ?_⟩)
      | (conv => whnf
         fail_if_success refine Exists.intro ?_ ?_
         simp only [nI_clamp (show v < 2 ^ 31 by omega)]))
    try (conv => whnf)
    exact hK
def spX7_circles : zSp := zD (X := zIn × zLo × Nat × Nat × Nat) (fun x => match x with | (σ, τ, n, pc, un) => [.ref 0]) (fun x => match x with | (σ, τ, n, pc, un) => (119, zSH, zRH, σ, τ)) (fun x => match x with | (σ, τ, n, pc, un) => gS σ τ n pc un) (fun x => match x with | (σ, τ, n, pc, un) => some (.int (nI (cL σ n).length))) (fun x => match x with | (σ, τ, n, pc, un) => (119, zSH, zRH, σ, τ))
abbrev rmX7_circles : Room := ({ frames := 6, cells := 0, slots := 0, locals := 130 } : Room)
set_option maxRecDepth 100000 in
set_option maxHeartbeats 4000000 in
theorem ctX7_circles (l : Launch) (D : va_G) (cA : Nat → ClassId) : zCt false l D cA yX7_circles cX7_circles 1 (some .int) rmX7_circles spX7_circles := by
  refine zct_D (zCX7_circles [(170, 0, 0, spX7_arrange, rmX7_arrange.cells, rmX7_arrange.slots)]) zpX7_circles [] (by decide +kernel) zkX7_circles (Or.inr (by decide +kernel)) trivial ⟨by decide +kernel, by decide +kernel⟩ (fun x ad => Nat.le_of_ble_eq_true rfl) ?_ ?_
  · intro p e s m args below meth c A H0 ad0 n0 Q F hml hNw hA hX
    exact ⟨zco_V hX hA F hml hNw (ctX7_arrange l D cA) ⟨⟨zlX7_circles_170, zwX7_arrange.1.1, zwX7_arrange.1.2⟩, zwX7_arrange.2⟩ zdX7_arrange ⟨Nat.le_of_ble_eq_true rfl, Nat.le_of_ble_eq_true rfl⟩ (ci := 7) (by decide) rfl (by rintro av μ K ⟨x, rfl, rfl, -⟩; exact ⟨_, _, rfl, rfl⟩), trivial⟩
  · rintro ⟨σ, τ, n, pc, un⟩ Ret hP hK Gl hG
    try dsimp only at hP hK
    show Gl 0 (zent 1 [.ref 0]) [] (0, 0) ((119, zSH, zRH, σ, τ))
    refine hG 40 _ _ _ _ _ ?_
    repeat (conv => whnf
            try dsimp only
            try simp (decide := true) only [zu_same, zu_ne1, zu_ne2, zu_row, zuL_same, zuL_ne1, zuL_ne2, zrow_n1, zx0, zx1, zx2, zx3, nI_1, Nat.reduceAdd, Nat.reduceMul, Int32.reduceAdd, Int32.reduceSub, Int32.reduceMul]
            first
            | refine ⟨vp_inb (by decide), ?_⟩
            | refine ⟨by with_reducible exact zi (by omega), ?_⟩
            | refine ⟨fun h => absurd h (by with_reducible exact nI_ge (by omega) (by omega)), fun _ => ?_⟩
            | refine ⟨fun _ => ?_, fun h => absurd (by with_reducible exact nI_le (by omega) (by omega)) h⟩
            | refine ⟨fun h => absurd h (by with_reducible exact nI_nlt (by omega) (by omega)), fun _ => ?_⟩
            | refine ⟨fun _ => ?_, fun h => absurd (by with_reducible exact nI_lt (by omega) (by omega)) h⟩
            | refine ⟨fun h => absurd h (by with_reducible exact nI_pos (by omega)), fun _ => ?_⟩
            | refine ⟨fun _ => ?_, fun h => absurd (by with_reducible exact nI_0le (by omega)) h⟩
            | refine ⟨fun h => absurd h (by decide), fun _ => ?_⟩
            | refine ⟨fun _ => ?_, fun h => absurd (by decide) h⟩
            | refine ⟨fun _ => ?_, fun h => absurd h (by decide)⟩
            | refine ⟨fun h => absurd (by decide) h, fun _ => ?_⟩
            | refine ⟨by decide, ?_⟩
            | refine ⟨rfl, ?_⟩)
    try (conv => whnf)
    refine ⟨(σ, τ, n, pc, un), rfl, rfl, ⟨hP.1, hP.2.1⟩, ?_⟩
    try dsimp only [cond_true, cond_false]
    rintro _ _ ⟨rfl, σ1, rfl, -, -, -, -, -, hs⟩
    rw [hs hP.2.2.1]
    repeat (first
      | (conv => whnf
         try dsimp only
         try simp (decide := true) only [(gS_len hP).1, zu_same, zu_ne1, zu_ne2, zu_row, zuL_same, zuL_ne1, zuL_ne2, zrow_n1, zx0, zx1, zx2, zx3, nI_1, Nat.reduceAdd, Nat.reduceMul, Int32.reduceAdd, Int32.reduceSub, Int32.reduceMul]
         first
         | refine ⟨vp_inb (by decide), ?_⟩
         | refine ⟨by with_reducible exact zi (by omega), ?_⟩
         | refine ⟨fun h => absurd h (by with_reducible exact nI_ge (by omega) (by omega)), fun _ => ?_⟩
         | refine ⟨fun _ => ?_, fun h => absurd (by with_reducible exact nI_le (by omega) (by omega)) h⟩
         | refine ⟨fun h => absurd h (by with_reducible exact nI_nlt (by omega) (by omega)), fun _ => ?_⟩
         | refine ⟨fun _ => ?_, fun h => absurd (by with_reducible exact nI_lt (by omega) (by omega)) h⟩
         | refine ⟨fun h => absurd h (by with_reducible exact nI_pos (by omega)), fun _ => ?_⟩
         | refine ⟨fun _ => ?_, fun h => absurd (by with_reducible exact nI_0le (by omega)) h⟩
         | refine ⟨fun h => absurd h (by decide), fun _ => ?_⟩
         | refine ⟨fun _ => ?_, fun h => absurd (by decide) h⟩
         | refine ⟨fun _ => ?_, fun h => absurd h (by decide)⟩
         | refine ⟨fun h => absurd (by decide) h, fun _ => ?_⟩
         | refine ⟨by decide, ?_⟩
         | refine ⟨rfl, ?_⟩)
      | (conv => whnf
         fail_if_success refine Exists.intro ?_ ?_
         simp only [(gS_len hP).1]))
    try (conv => whnf)
    exact hK
def spX7_circle : zSp := zD (X := zIn × zLo × Nat × Nat × Nat × Nat × Nat) (fun x => match x with | (σ, τ, n, pc, un, k, w) => [.ref 0, .int (nI k), .int (nI w)]) (fun x => match x with | (σ, τ, n, pc, un, k, w) => (119, zSH, zRH, σ, τ)) (fun x => match x with | (σ, τ, n, pc, un, k, w) => gS σ τ n pc un ∧ k < (cL σ n).length ∧ w < 4) (fun x => match x with | (σ, τ, n, pc, un, k, w) => some (.int (pTc σ k w))) (fun x => match x with | (σ, τ, n, pc, un, k, w) => (119, zSH, zRH, σ, τ))
abbrev rmX7_circle : Room := ({ frames := 7, cells := 0, slots := 0, locals := 172 } : Room)
set_option maxRecDepth 100000 in
set_option maxHeartbeats 4000000 in
theorem ctX7_circle (l : Launch) (D : va_G) (cA : Nat → ClassId) : zCt false l D cA yX7_circle cX7_circle 3 (some .int) rmX7_circle spX7_circle := by
  refine zct_D (zCX7_circle [(170, 0, 0, spX7_arrange, rmX7_arrange.cells, rmX7_arrange.slots), (181, 0, 0, spX7_settle, rmX7_settle.cells, rmX7_settle.slots), (184, 0, 2, spX7_toldOfCircle, rmX7_toldOfCircle.cells, rmX7_toldOfCircle.slots)]) zpX7_circle [] (by decide +kernel) zkX7_circle (Or.inr (by decide +kernel)) trivial ⟨by decide +kernel, by decide +kernel⟩ (fun x ad => Nat.le_of_ble_eq_true rfl) ?_ ?_
  · intro p e s m args below meth c A H0 ad0 n0 Q F hml hNw hA hX
    exact ⟨zco_V hX hA F hml hNw (ctX7_arrange l D cA) ⟨⟨zlX7_circle_170, zwX7_arrange.1.1, zwX7_arrange.1.2⟩, zwX7_arrange.2⟩ zdX7_arrange ⟨Nat.le_of_ble_eq_true rfl, Nat.le_of_ble_eq_true rfl⟩ (ci := 7) (by decide) rfl (by rintro av μ K ⟨x, rfl, rfl, -⟩; exact ⟨_, _, rfl, rfl⟩), zco_V hX hA F hml hNw (ctX7_settle l D cA) ⟨⟨zlX7_circle_181, zwX7_settle.1.1, zwX7_settle.1.2⟩, zwX7_settle.2⟩ zdX7_settle ⟨Nat.le_of_ble_eq_true rfl, Nat.le_of_ble_eq_true rfl⟩ (ci := 7) (by decide) rfl (by rintro av μ K ⟨x, rfl, rfl, -⟩; exact ⟨_, _, rfl, rfl⟩), zco_V hX hA F hml hNw (ctX7_toldOfCircle l D cA) ⟨⟨zlX7_circle_184, zwX7_toldOfCircle.1.1, zwX7_toldOfCircle.1.2⟩, zwX7_toldOfCircle.2⟩ zdX7_toldOfCircle ⟨Nat.le_of_ble_eq_true rfl, Nat.le_of_ble_eq_true rfl⟩ (ci := 7) (by decide) rfl (by rintro av μ K ⟨x, rfl, rfl, -⟩; exact ⟨_, _, rfl, rfl⟩), trivial⟩
  · rintro ⟨σ, τ, n, pc, un, k, w⟩ Ret hP hK Gl hG
    try dsimp only at hP hK
    show Gl 0 (zent 3 [.ref 0, .int (nI k), .int (nI w)]) [] (0, 0) ((119, zSH, zRH, σ, τ))
    obtain ⟨hP, hk, hw⟩ := hP
    obtain ⟨hlen, hl16⟩ := gS_len hP
    refine hG 40 _ _ _ _ _ ?_
    repeat (conv => whnf
            try dsimp only
            try simp (decide := true) only [zu_same, zu_ne1, zu_ne2, zu_row, zuL_same, zuL_ne1, zuL_ne2, zrow_n1, zx0, zx1, zx2, zx3, nI_1, Nat.reduceAdd, Nat.reduceMul, Int32.reduceAdd, Int32.reduceSub, Int32.reduceMul]
            first
            | refine ⟨vp_inb (by decide), ?_⟩
            | refine ⟨by with_reducible exact zi (by omega), ?_⟩
            | refine ⟨fun h => absurd h (by with_reducible exact nI_ge (by omega) (by omega)), fun _ => ?_⟩
            | refine ⟨fun _ => ?_, fun h => absurd (by with_reducible exact nI_le (by omega) (by omega)) h⟩
            | refine ⟨fun h => absurd h (by with_reducible exact nI_nlt (by omega) (by omega)), fun _ => ?_⟩
            | refine ⟨fun _ => ?_, fun h => absurd (by with_reducible exact nI_lt (by omega) (by omega)) h⟩
            | refine ⟨fun h => absurd h (by with_reducible exact nI_pos (by omega)), fun _ => ?_⟩
            | refine ⟨fun _ => ?_, fun h => absurd (by with_reducible exact nI_0le (by omega)) h⟩
            | refine ⟨fun h => absurd h (by decide), fun _ => ?_⟩
            | refine ⟨fun _ => ?_, fun h => absurd (by decide) h⟩
            | refine ⟨fun _ => ?_, fun h => absurd h (by decide)⟩
            | refine ⟨fun h => absurd (by decide) h, fun _ => ?_⟩
            | refine ⟨by decide, ?_⟩
            | refine ⟨rfl, ?_⟩)
    try (conv => whnf)
    refine ⟨(σ, τ, n, pc, un), rfl, rfl, ⟨hP.1, hP.2.1⟩, ?_⟩
    try dsimp only [cond_true, cond_false]
    rintro _ _ ⟨rfl, σ1, rfl, -, -, -, -, -, hs⟩
    rw [hs hP.2.2.1]
    repeat (first
      | (conv => whnf
         try dsimp only
         try simp (decide := true) only [hlen, show (3 : Int32) = nI 3 from rfl, zu_same, zu_ne1, zu_ne2, zu_row, zuL_same, zuL_ne1, zuL_ne2, zrow_n1, zx0, zx1, zx2, zx3, nI_1, Nat.reduceAdd, Nat.reduceMul, Int32.reduceAdd, Int32.reduceSub, Int32.reduceMul]
         first
         | refine ⟨vp_inb (by decide), ?_⟩
         | refine ⟨by with_reducible exact zi (by omega), ?_⟩
         | refine ⟨fun h => absurd h (by with_reducible exact nI_ge (by omega) (by omega)), fun _ => ?_⟩
         | refine ⟨fun _ => ?_, fun h => absurd (by with_reducible exact nI_le (by omega) (by omega)) h⟩
         | refine ⟨fun h => absurd h (by with_reducible exact nI_nlt (by omega) (by omega)), fun _ => ?_⟩
         | refine ⟨fun _ => ?_, fun h => absurd (by with_reducible exact nI_lt (by omega) (by omega)) h⟩
         | refine ⟨fun h => absurd h (by with_reducible exact nI_pos (by omega)), fun _ => ?_⟩
         | refine ⟨fun _ => ?_, fun h => absurd (by with_reducible exact nI_0le (by omega)) h⟩
         | refine ⟨fun h => absurd h (by decide), fun _ => ?_⟩
         | refine ⟨fun _ => ?_, fun h => absurd (by decide) h⟩
         | refine ⟨fun _ => ?_, fun h => absurd h (by decide)⟩
         | refine ⟨fun h => absurd (by decide) h, fun _ => ?_⟩
         | refine ⟨by decide, ?_⟩
         | refine ⟨rfl, ?_⟩)
      | (conv => whnf
         fail_if_success refine Exists.intro ?_ ?_
         simp only [hlen, show (3 : Int32) = nI 3 from rfl]))
    try (conv => whnf)
    refine ⟨(σ, τ, n, pc, un), rfl, rfl, ⟨hP.1, hP.2.1⟩, ?_⟩
    try dsimp only [cond_true, cond_false]
    rintro _ _ ⟨rfl, σ1, rfl, -, -, -, -, -, hs⟩
    rw [hs hP.2.2.2.1]
    repeat (conv => whnf
            try dsimp only
            try simp (decide := true) only [zu_same, zu_ne1, zu_ne2, zu_row, zuL_same, zuL_ne1, zuL_ne2, zrow_n1, zx0, zx1, zx2, zx3, nI_1, Nat.reduceAdd, Nat.reduceMul, Int32.reduceAdd, Int32.reduceSub, Int32.reduceMul]
            first
            | refine ⟨vp_inb (by decide), ?_⟩
            | refine ⟨by with_reducible exact zi (by omega), ?_⟩
            | refine ⟨fun h => absurd h (by with_reducible exact nI_ge (by omega) (by omega)), fun _ => ?_⟩
            | refine ⟨fun _ => ?_, fun h => absurd (by with_reducible exact nI_le (by omega) (by omega)) h⟩
            | refine ⟨fun h => absurd h (by with_reducible exact nI_nlt (by omega) (by omega)), fun _ => ?_⟩
            | refine ⟨fun _ => ?_, fun h => absurd (by with_reducible exact nI_lt (by omega) (by omega)) h⟩
            | refine ⟨fun h => absurd h (by with_reducible exact nI_pos (by omega)), fun _ => ?_⟩
            | refine ⟨fun _ => ?_, fun h => absurd (by with_reducible exact nI_0le (by omega)) h⟩
            | refine ⟨fun h => absurd h (by decide), fun _ => ?_⟩
            | refine ⟨fun _ => ?_, fun h => absurd (by decide) h⟩
            | refine ⟨fun _ => ?_, fun h => absurd h (by decide)⟩
            | refine ⟨fun h => absurd (by decide) h, fun _ => ?_⟩
            | refine ⟨by decide, ?_⟩
            | refine ⟨rfl, ?_⟩)
    try (conv => whnf)
    refine ⟨(σ, τ, k, w), rfl, rfl, ⟨by omega, hw⟩, ?_⟩
    try dsimp only [cond_true, cond_false]
    repeat (conv => whnf
            try dsimp only
            try simp (decide := true) only [zu_same, zu_ne1, zu_ne2, zu_row, zuL_same, zuL_ne1, zuL_ne2, zrow_n1, zx0, zx1, zx2, zx3, nI_1, Nat.reduceAdd, Nat.reduceMul, Int32.reduceAdd, Int32.reduceSub, Int32.reduceMul]
            first
            | refine ⟨vp_inb (by decide), ?_⟩
            | refine ⟨by with_reducible exact zi (by omega), ?_⟩
            | refine ⟨fun h => absurd h (by with_reducible exact nI_ge (by omega) (by omega)), fun _ => ?_⟩
            | refine ⟨fun _ => ?_, fun h => absurd (by with_reducible exact nI_le (by omega) (by omega)) h⟩
            | refine ⟨fun h => absurd h (by with_reducible exact nI_nlt (by omega) (by omega)), fun _ => ?_⟩
            | refine ⟨fun _ => ?_, fun h => absurd (by with_reducible exact nI_lt (by omega) (by omega)) h⟩
            | refine ⟨fun h => absurd h (by with_reducible exact nI_pos (by omega)), fun _ => ?_⟩
            | refine ⟨fun _ => ?_, fun h => absurd (by with_reducible exact nI_0le (by omega)) h⟩
            | refine ⟨fun h => absurd h (by decide), fun _ => ?_⟩
            | refine ⟨fun _ => ?_, fun h => absurd (by decide) h⟩
            | refine ⟨fun _ => ?_, fun h => absurd h (by decide)⟩
            | refine ⟨fun h => absurd (by decide) h, fun _ => ?_⟩
            | refine ⟨by decide, ?_⟩
            | refine ⟨rfl, ?_⟩)
    try (conv => whnf)
    exact hK
def spX7_mostTurns : zSp := zD (X := zIn × zLo × Nat × Nat × Nat) (fun x => match x with | (σ, τ, n, pc, un) => [.ref 0]) (fun x => match x with | (σ, τ, n, pc, un) => (119, zSH, zRH, σ, τ)) (fun x => match x with | (σ, τ, n, pc, un) => gS σ τ n pc un) (fun x => match x with | (σ, τ, n, pc, un) => some (.int (pGr (σ 104) (cL σ n).length))) (fun x => match x with | (σ, τ, n, pc, un) => (119, zSH, zRH, σ, τ))
abbrev rmX7_mostTurns : Room := ({ frames := 7, cells := 0, slots := 0, locals := 172 } : Room)
set_option maxRecDepth 100000 in
set_option maxHeartbeats 4000000 in
theorem ctX7_mostTurns (l : Launch) (D : va_G) (cA : Nat → ClassId) : zCt false l D cA yX7_mostTurns cX7_mostTurns 1 (some .int) rmX7_mostTurns spX7_mostTurns := by
  refine zct_D (zCX7_mostTurns [(181, 0, 0, spX7_settle, rmX7_settle.cells, rmX7_settle.slots), (187, 0, 1, spX3_greatestTurns, rmX3_greatestTurns.cells, rmX3_greatestTurns.slots)]) zpX7_mostTurns [] (by decide +kernel) zkX7_mostTurns (Or.inr (by decide +kernel)) trivial ⟨by decide +kernel, by decide +kernel⟩ (fun x ad => Nat.le_of_ble_eq_true rfl) ?_ ?_
  · intro p e s m args below meth c A H0 ad0 n0 Q F hml hNw hA hX
    exact ⟨zco_V hX hA F hml hNw (ctX7_settle l D cA) ⟨⟨zlX7_mostTurns_181, zwX7_settle.1.1, zwX7_settle.1.2⟩, zwX7_settle.2⟩ zdX7_settle ⟨Nat.le_of_ble_eq_true rfl, Nat.le_of_ble_eq_true rfl⟩ (ci := 7) (by decide) rfl (by rintro av μ K ⟨x, rfl, rfl, -⟩; exact ⟨_, _, rfl, rfl⟩), zco_V hX hA F hml hNw (ctX3_greatestTurns l D cA) ⟨⟨zlX7_mostTurns_187, zwX3_greatestTurns.1.1, zwX3_greatestTurns.1.2⟩, zwX3_greatestTurns.2⟩ zdX3_greatestTurns ⟨Nat.le_of_ble_eq_true rfl, Nat.le_of_ble_eq_true rfl⟩ (ci := 3) (by decide) rfl (by rintro av μ K ⟨x, rfl, rfl, -⟩; exact ⟨_, _, rfl, rfl⟩), trivial⟩
  · rintro ⟨σ, τ, n, pc, un⟩ Ret hP hK Gl hG
    try dsimp only at hP hK
    show Gl 0 (zent 1 [.ref 0]) [] (0, 0) ((119, zSH, zRH, σ, τ))
    obtain ⟨hlen, hl16⟩ := gS_len hP
    refine hG 40 _ _ _ _ _ ?_
    repeat (conv => whnf
            try dsimp only
            try simp (decide := true) only [zu_same, zu_ne1, zu_ne2, zu_row, zuL_same, zuL_ne1, zuL_ne2, zrow_n1, zx0, zx1, zx2, zx3, nI_1, Nat.reduceAdd, Nat.reduceMul, Int32.reduceAdd, Int32.reduceSub, Int32.reduceMul]
            first
            | refine ⟨vp_inb (by decide), ?_⟩
            | refine ⟨by with_reducible exact zi (by omega), ?_⟩
            | refine ⟨fun h => absurd h (by with_reducible exact nI_ge (by omega) (by omega)), fun _ => ?_⟩
            | refine ⟨fun _ => ?_, fun h => absurd (by with_reducible exact nI_le (by omega) (by omega)) h⟩
            | refine ⟨fun h => absurd h (by with_reducible exact nI_nlt (by omega) (by omega)), fun _ => ?_⟩
            | refine ⟨fun _ => ?_, fun h => absurd (by with_reducible exact nI_lt (by omega) (by omega)) h⟩
            | refine ⟨fun h => absurd h (by with_reducible exact nI_pos (by omega)), fun _ => ?_⟩
            | refine ⟨fun _ => ?_, fun h => absurd (by with_reducible exact nI_0le (by omega)) h⟩
            | refine ⟨fun h => absurd h (by decide), fun _ => ?_⟩
            | refine ⟨fun _ => ?_, fun h => absurd (by decide) h⟩
            | refine ⟨fun _ => ?_, fun h => absurd h (by decide)⟩
            | refine ⟨fun h => absurd (by decide) h, fun _ => ?_⟩
            | refine ⟨by decide, ?_⟩
            | refine ⟨rfl, ?_⟩)
    try (conv => whnf)
    refine ⟨(σ, τ, n, pc, un), rfl, rfl, ⟨hP.1, hP.2.1⟩, ?_⟩
    try dsimp only [cond_true, cond_false]
    rintro _ _ ⟨rfl, σ1, rfl, -, -, -, -, -, hs⟩
    rw [hs hP.2.2.2.1]
    repeat (first
      | (conv => whnf
         try dsimp only
         try simp (decide := true) only [hlen, zu_same, zu_ne1, zu_ne2, zu_row, zuL_same, zuL_ne1, zuL_ne2, zrow_n1, zx0, zx1, zx2, zx3, nI_1, Nat.reduceAdd, Nat.reduceMul, Int32.reduceAdd, Int32.reduceSub, Int32.reduceMul]
         first
         | refine ⟨vp_inb (by decide), ?_⟩
         | refine ⟨by with_reducible exact zi (by omega), ?_⟩
         | refine ⟨fun h => absurd h (by with_reducible exact nI_ge (by omega) (by omega)), fun _ => ?_⟩
         | refine ⟨fun _ => ?_, fun h => absurd (by with_reducible exact nI_le (by omega) (by omega)) h⟩
         | refine ⟨fun h => absurd h (by with_reducible exact nI_nlt (by omega) (by omega)), fun _ => ?_⟩
         | refine ⟨fun _ => ?_, fun h => absurd (by with_reducible exact nI_lt (by omega) (by omega)) h⟩
         | refine ⟨fun h => absurd h (by with_reducible exact nI_pos (by omega)), fun _ => ?_⟩
         | refine ⟨fun _ => ?_, fun h => absurd (by with_reducible exact nI_0le (by omega)) h⟩
         | refine ⟨fun h => absurd h (by decide), fun _ => ?_⟩
         | refine ⟨fun _ => ?_, fun h => absurd (by decide) h⟩
         | refine ⟨fun _ => ?_, fun h => absurd h (by decide)⟩
         | refine ⟨fun h => absurd (by decide) h, fun _ => ?_⟩
         | refine ⟨by decide, ?_⟩
         | refine ⟨rfl, ?_⟩)
      | (conv => whnf
         fail_if_success refine Exists.intro ?_ ?_
         simp only [hlen]))
    try (conv => whnf)
    refine ⟨(σ, τ, (cL σ n).length), rfl, rfl, hl16, ?_⟩
    try dsimp only [cond_true, cond_false]
    repeat (conv => whnf
            try dsimp only
            try simp (decide := true) only [zu_same, zu_ne1, zu_ne2, zu_row, zuL_same, zuL_ne1, zuL_ne2, zrow_n1, zx0, zx1, zx2, zx3, nI_1, Nat.reduceAdd, Nat.reduceMul, Int32.reduceAdd, Int32.reduceSub, Int32.reduceMul]
            first
            | refine ⟨vp_inb (by decide), ?_⟩
            | refine ⟨by with_reducible exact zi (by omega), ?_⟩
            | refine ⟨fun h => absurd h (by with_reducible exact nI_ge (by omega) (by omega)), fun _ => ?_⟩
            | refine ⟨fun _ => ?_, fun h => absurd (by with_reducible exact nI_le (by omega) (by omega)) h⟩
            | refine ⟨fun h => absurd h (by with_reducible exact nI_nlt (by omega) (by omega)), fun _ => ?_⟩
            | refine ⟨fun _ => ?_, fun h => absurd (by with_reducible exact nI_lt (by omega) (by omega)) h⟩
            | refine ⟨fun h => absurd h (by with_reducible exact nI_pos (by omega)), fun _ => ?_⟩
            | refine ⟨fun _ => ?_, fun h => absurd (by with_reducible exact nI_0le (by omega)) h⟩
            | refine ⟨fun h => absurd h (by decide), fun _ => ?_⟩
            | refine ⟨fun _ => ?_, fun h => absurd (by decide) h⟩
            | refine ⟨fun _ => ?_, fun h => absurd h (by decide)⟩
            | refine ⟨fun h => absurd (by decide) h, fun _ => ?_⟩
            | refine ⟨by decide, ?_⟩
            | refine ⟨rfl, ?_⟩)
    try (conv => whnf)
    exact hK
def spX7_amount : zSp := zD (X := zIn × zLo × Nat × Nat × Nat × Nat) (fun x => match x with | (σ, τ, n, pc, un, v) => [.ref 0, .int (nI v)]) (fun x => match x with | (σ, τ, n, pc, un, v) => (119, zSH, zRH, σ, τ)) (fun x => match x with | (σ, τ, n, pc, un, v) => gS σ τ n pc un ∧ v < n) (fun x => match x with | (σ, τ, n, pc, un, v) => some (.int (fSh (σ 103 v)))) (fun x => match x with | (σ, τ, n, pc, un, v) => (119, zSH, zRH, σ, τ))
abbrev rmX7_amount : Room := ({ frames := 7, cells := 0, slots := 0, locals := 172 } : Room)
set_option maxRecDepth 100000 in
set_option maxHeartbeats 4000000 in
theorem ctX7_amount (l : Launch) (D : va_G) (cA : Nat → ClassId) : zCt false l D cA yX7_amount cX7_amount 2 (some .int) rmX7_amount spX7_amount := by
  refine zct_D (zCX7_amount [(132, 0, 1, spX7_needVariable, rmX7_needVariable.cells, rmX7_needVariable.slots), (181, 0, 0, spX7_settle, rmX7_settle.cells, rmX7_settle.slots), (193, 1, 1, spX7_shown, rmX7_shown.cells, rmX7_shown.slots)]) zpX7_amount [] (by decide +kernel) zkX7_amount (Or.inr (by decide +kernel)) trivial ⟨by decide +kernel, by decide +kernel⟩ (fun x ad => Nat.le_of_ble_eq_true rfl) ?_ ?_
  · intro p e s m args below meth c A H0 ad0 n0 Q F hml hNw hA hX
    exact ⟨zco_V hX hA F hml hNw (ctX7_needVariable l D cA) ⟨⟨zlX7_amount_132, zwX7_needVariable.1.1, zwX7_needVariable.1.2⟩, zwX7_needVariable.2⟩ zdX7_needVariable ⟨Nat.le_of_ble_eq_true rfl, Nat.le_of_ble_eq_true rfl⟩ (ci := 7) (by decide) rfl (by rintro av μ K ⟨x, rfl, rfl, -⟩; exact ⟨_, _, rfl, rfl⟩), zco_V hX hA F hml hNw (ctX7_settle l D cA) ⟨⟨zlX7_amount_181, zwX7_settle.1.1, zwX7_settle.1.2⟩, zwX7_settle.2⟩ zdX7_settle ⟨Nat.le_of_ble_eq_true rfl, Nat.le_of_ble_eq_true rfl⟩ (ci := 7) (by decide) rfl (by rintro av μ K ⟨x, rfl, rfl, -⟩; exact ⟨_, _, rfl, rfl⟩), zco_S hX hA F hml hNw (ctX7_shown l D cA) ⟨⟨zlX7_amount_193, zwX7_shown.1⟩, zwX7_shown.2⟩ zdX7_shown ⟨Nat.le_of_ble_eq_true rfl, Nat.le_of_ble_eq_true rfl⟩, trivial⟩
  · rintro ⟨σ, τ, n, pc, un, v⟩ Ret hP hK Gl hG
    try dsimp only at hP hK
    show Gl 0 (zent 2 [.ref 0, .int (nI v)]) [] (0, 0) ((119, zSH, zRH, σ, τ))
    obtain ⟨hP, hv⟩ := hP
    have h16 := hP.1.1.2.1
    refine hG 40 _ _ _ _ _ ?_
    repeat (conv => whnf
            try dsimp only
            try simp (decide := true) only [zu_same, zu_ne1, zu_ne2, zu_row, zuL_same, zuL_ne1, zuL_ne2, zrow_n1, zx0, zx1, zx2, zx3, nI_1, Nat.reduceAdd, Nat.reduceMul, Int32.reduceAdd, Int32.reduceSub, Int32.reduceMul]
            first
            | refine ⟨vp_inb (by decide), ?_⟩
            | refine ⟨by with_reducible exact zi (by omega), ?_⟩
            | refine ⟨fun h => absurd h (by with_reducible exact nI_ge (by omega) (by omega)), fun _ => ?_⟩
            | refine ⟨fun _ => ?_, fun h => absurd (by with_reducible exact nI_le (by omega) (by omega)) h⟩
            | refine ⟨fun h => absurd h (by with_reducible exact nI_nlt (by omega) (by omega)), fun _ => ?_⟩
            | refine ⟨fun _ => ?_, fun h => absurd (by with_reducible exact nI_lt (by omega) (by omega)) h⟩
            | refine ⟨fun h => absurd h (by with_reducible exact nI_pos (by omega)), fun _ => ?_⟩
            | refine ⟨fun _ => ?_, fun h => absurd (by with_reducible exact nI_0le (by omega)) h⟩
            | refine ⟨fun h => absurd h (by decide), fun _ => ?_⟩
            | refine ⟨fun _ => ?_, fun h => absurd (by decide) h⟩
            | refine ⟨fun _ => ?_, fun h => absurd h (by decide)⟩
            | refine ⟨fun h => absurd (by decide) h, fun _ => ?_⟩
            | refine ⟨by decide, ?_⟩
            | refine ⟨rfl, ?_⟩)
    try (conv => whnf)
    refine ⟨(σ, τ, n, v), rfl, rfl, ⟨hP.1.1.1, h16, hv⟩, ?_⟩
    try dsimp only [cond_true, cond_false]
    repeat (conv => whnf
            try dsimp only
            try simp (decide := true) only [zu_same, zu_ne1, zu_ne2, zu_row, zuL_same, zuL_ne1, zuL_ne2, zrow_n1, zx0, zx1, zx2, zx3, nI_1, Nat.reduceAdd, Nat.reduceMul, Int32.reduceAdd, Int32.reduceSub, Int32.reduceMul]
            first
            | refine ⟨vp_inb (by decide), ?_⟩
            | refine ⟨by with_reducible exact zi (by omega), ?_⟩
            | refine ⟨fun h => absurd h (by with_reducible exact nI_ge (by omega) (by omega)), fun _ => ?_⟩
            | refine ⟨fun _ => ?_, fun h => absurd (by with_reducible exact nI_le (by omega) (by omega)) h⟩
            | refine ⟨fun h => absurd h (by with_reducible exact nI_nlt (by omega) (by omega)), fun _ => ?_⟩
            | refine ⟨fun _ => ?_, fun h => absurd (by with_reducible exact nI_lt (by omega) (by omega)) h⟩
            | refine ⟨fun h => absurd h (by with_reducible exact nI_pos (by omega)), fun _ => ?_⟩
            | refine ⟨fun _ => ?_, fun h => absurd (by with_reducible exact nI_0le (by omega)) h⟩
            | refine ⟨fun h => absurd h (by decide), fun _ => ?_⟩
            | refine ⟨fun _ => ?_, fun h => absurd (by decide) h⟩
            | refine ⟨fun _ => ?_, fun h => absurd h (by decide)⟩
            | refine ⟨fun h => absurd (by decide) h, fun _ => ?_⟩
            | refine ⟨by decide, ?_⟩
            | refine ⟨rfl, ?_⟩)
    try (conv => whnf)
    refine ⟨(σ, τ, n, pc, un), rfl, rfl, ⟨hP.1, hP.2.1⟩, ?_⟩
    try dsimp only [cond_true, cond_false]
    rintro _ _ ⟨rfl, σ1, rfl, -, -, -, -, -, hs⟩
    rw [hs hP.2.2.2.1]
    repeat (first
      | (conv => whnf
         try dsimp only
         try simp (decide := true) only [nI_clamp (show v < 2 ^ 31 by omega), zu_same, zu_ne1, zu_ne2, zu_row, zuL_same, zuL_ne1, zuL_ne2, zrow_n1, zx0, zx1, zx2, zx3, nI_1, Nat.reduceAdd, Nat.reduceMul, Int32.reduceAdd, Int32.reduceSub, Int32.reduceMul]
         first
         | refine ⟨vp_inb (by decide), ?_⟩
         | refine ⟨by with_reducible exact zi (by omega), ?_⟩
         | refine ⟨fun h => absurd h (by with_reducible exact nI_ge (by omega) (by omega)), fun _ => ?_⟩
         | refine ⟨fun _ => ?_, fun h => absurd (by with_reducible exact nI_le (by omega) (by omega)) h⟩
         | refine ⟨fun h => absurd h (by with_reducible exact nI_nlt (by omega) (by omega)), fun _ => ?_⟩
         | refine ⟨fun _ => ?_, fun h => absurd (by with_reducible exact nI_lt (by omega) (by omega)) h⟩
         | refine ⟨fun h => absurd h (by with_reducible exact nI_pos (by omega)), fun _ => ?_⟩
         | refine ⟨fun _ => ?_, fun h => absurd (by with_reducible exact nI_0le (by omega)) h⟩
         | refine ⟨fun h => absurd h (by decide), fun _ => ?_⟩
         | refine ⟨fun _ => ?_, fun h => absurd (by decide) h⟩
         | refine ⟨fun _ => ?_, fun h => absurd h (by decide)⟩
         | refine ⟨fun h => absurd (by decide) h, fun _ => ?_⟩
         | refine ⟨by decide, ?_⟩
         | refine ⟨rfl, ?_⟩)
      | (conv => whnf
         fail_if_success refine Exists.intro ?_ ?_
         simp only [nI_clamp (show v < 2 ^ 31 by omega)]))
    try (conv => whnf)
    refine ⟨(_, _), rfl, rfl, trivial, ?_⟩
    try dsimp only [cond_true, cond_false]
    repeat (conv => whnf
            try dsimp only
            try simp (decide := true) only [zu_same, zu_ne1, zu_ne2, zu_row, zuL_same, zuL_ne1, zuL_ne2, zrow_n1, zx0, zx1, zx2, zx3, nI_1, Nat.reduceAdd, Nat.reduceMul, Int32.reduceAdd, Int32.reduceSub, Int32.reduceMul]
            first
            | refine ⟨vp_inb (by decide), ?_⟩
            | refine ⟨by with_reducible exact zi (by omega), ?_⟩
            | refine ⟨fun h => absurd h (by with_reducible exact nI_ge (by omega) (by omega)), fun _ => ?_⟩
            | refine ⟨fun _ => ?_, fun h => absurd (by with_reducible exact nI_le (by omega) (by omega)) h⟩
            | refine ⟨fun h => absurd h (by with_reducible exact nI_nlt (by omega) (by omega)), fun _ => ?_⟩
            | refine ⟨fun _ => ?_, fun h => absurd (by with_reducible exact nI_lt (by omega) (by omega)) h⟩
            | refine ⟨fun h => absurd h (by with_reducible exact nI_pos (by omega)), fun _ => ?_⟩
            | refine ⟨fun _ => ?_, fun h => absurd (by with_reducible exact nI_0le (by omega)) h⟩
            | refine ⟨fun h => absurd h (by decide), fun _ => ?_⟩
            | refine ⟨fun _ => ?_, fun h => absurd (by decide) h⟩
            | refine ⟨fun _ => ?_, fun h => absurd h (by decide)⟩
            | refine ⟨fun h => absurd (by decide) h, fun _ => ?_⟩
            | refine ⟨by decide, ?_⟩
            | refine ⟨rfl, ?_⟩)
    try (conv => whnf)
    exact hK
def spX7_isBroken : zSp := zD (X := zIn × zLo × Nat × Nat × Nat × Nat) (fun x => match x with | (σ, τ, n, pc, un, v) => [.ref 0, .int (nI v)]) (fun x => match x with | (σ, τ, n, pc, un, v) => (119, zSH, zRH, σ, τ)) (fun x => match x with | (σ, τ, n, pc, un, v) => gS σ τ n pc un ∧ v < n) (fun x => match x with | (σ, τ, n, pc, un, v) => some (.int (if σ 103 v = zBRK then 1 else 0))) (fun x => match x with | (σ, τ, n, pc, un, v) => (119, zSH, zRH, σ, τ))
abbrev rmX7_isBroken : Room := ({ frames := 7, cells := 0, slots := 0, locals := 172 } : Room)
set_option maxRecDepth 100000 in
set_option maxHeartbeats 4000000 in
theorem ctX7_isBroken (l : Launch) (D : va_G) (cA : Nat → ClassId) : zCt false l D cA yX7_isBroken cX7_isBroken 2 (some .boolean) rmX7_isBroken spX7_isBroken := by
  refine zct_D (zCX7_isBroken [(132, 0, 1, spX7_needVariable, rmX7_needVariable.cells, rmX7_needVariable.slots), (181, 0, 0, spX7_settle, rmX7_settle.cells, rmX7_settle.slots)]) zpX7_isBroken [] (by decide +kernel) zkX7_isBroken (Or.inr (by decide +kernel)) trivial ⟨by decide +kernel, by decide +kernel⟩ (fun x ad => Nat.le_of_ble_eq_true rfl) ?_ ?_
  · intro p e s m args below meth c A H0 ad0 n0 Q F hml hNw hA hX
    exact ⟨zco_V hX hA F hml hNw (ctX7_needVariable l D cA) ⟨⟨zlX7_isBroken_132, zwX7_needVariable.1.1, zwX7_needVariable.1.2⟩, zwX7_needVariable.2⟩ zdX7_needVariable ⟨Nat.le_of_ble_eq_true rfl, Nat.le_of_ble_eq_true rfl⟩ (ci := 7) (by decide) rfl (by rintro av μ K ⟨x, rfl, rfl, -⟩; exact ⟨_, _, rfl, rfl⟩), zco_V hX hA F hml hNw (ctX7_settle l D cA) ⟨⟨zlX7_isBroken_181, zwX7_settle.1.1, zwX7_settle.1.2⟩, zwX7_settle.2⟩ zdX7_settle ⟨Nat.le_of_ble_eq_true rfl, Nat.le_of_ble_eq_true rfl⟩ (ci := 7) (by decide) rfl (by rintro av μ K ⟨x, rfl, rfl, -⟩; exact ⟨_, _, rfl, rfl⟩), trivial⟩
  · rintro ⟨σ, τ, n, pc, un, v⟩ Ret hP hK Gl hG
    try dsimp only at hP hK
    show Gl 0 (zent 2 [.ref 0, .int (nI v)]) [] (0, 0) ((119, zSH, zRH, σ, τ))
    obtain ⟨hP, hv⟩ := hP
    have h16 := hP.1.1.2.1
    refine hG 40 _ _ _ _ _ ?_
    repeat (conv => whnf
            try dsimp only
            try simp (decide := true) only [zu_same, zu_ne1, zu_ne2, zu_row, zuL_same, zuL_ne1, zuL_ne2, zrow_n1, zx0, zx1, zx2, zx3, nI_1, Nat.reduceAdd, Nat.reduceMul, Int32.reduceAdd, Int32.reduceSub, Int32.reduceMul]
            first
            | refine ⟨vp_inb (by decide), ?_⟩
            | refine ⟨by with_reducible exact zi (by omega), ?_⟩
            | refine ⟨fun h => absurd h (by with_reducible exact nI_ge (by omega) (by omega)), fun _ => ?_⟩
            | refine ⟨fun _ => ?_, fun h => absurd (by with_reducible exact nI_le (by omega) (by omega)) h⟩
            | refine ⟨fun h => absurd h (by with_reducible exact nI_nlt (by omega) (by omega)), fun _ => ?_⟩
            | refine ⟨fun _ => ?_, fun h => absurd (by with_reducible exact nI_lt (by omega) (by omega)) h⟩
            | refine ⟨fun h => absurd h (by with_reducible exact nI_pos (by omega)), fun _ => ?_⟩
            | refine ⟨fun _ => ?_, fun h => absurd (by with_reducible exact nI_0le (by omega)) h⟩
            | refine ⟨fun h => absurd h (by decide), fun _ => ?_⟩
            | refine ⟨fun _ => ?_, fun h => absurd (by decide) h⟩
            | refine ⟨fun _ => ?_, fun h => absurd h (by decide)⟩
            | refine ⟨fun h => absurd (by decide) h, fun _ => ?_⟩
            | refine ⟨by decide, ?_⟩
            | refine ⟨rfl, ?_⟩)
    try (conv => whnf)
    refine ⟨(σ, τ, n, v), rfl, rfl, ⟨hP.1.1.1, h16, hv⟩, ?_⟩
    try dsimp only [cond_true, cond_false]
    repeat (conv => whnf
            try dsimp only
            try simp (decide := true) only [zu_same, zu_ne1, zu_ne2, zu_row, zuL_same, zuL_ne1, zuL_ne2, zrow_n1, zx0, zx1, zx2, zx3, nI_1, Nat.reduceAdd, Nat.reduceMul, Int32.reduceAdd, Int32.reduceSub, Int32.reduceMul]
            first
            | refine ⟨vp_inb (by decide), ?_⟩
            | refine ⟨by with_reducible exact zi (by omega), ?_⟩
            | refine ⟨fun h => absurd h (by with_reducible exact nI_ge (by omega) (by omega)), fun _ => ?_⟩
            | refine ⟨fun _ => ?_, fun h => absurd (by with_reducible exact nI_le (by omega) (by omega)) h⟩
            | refine ⟨fun h => absurd h (by with_reducible exact nI_nlt (by omega) (by omega)), fun _ => ?_⟩
            | refine ⟨fun _ => ?_, fun h => absurd (by with_reducible exact nI_lt (by omega) (by omega)) h⟩
            | refine ⟨fun h => absurd h (by with_reducible exact nI_pos (by omega)), fun _ => ?_⟩
            | refine ⟨fun _ => ?_, fun h => absurd (by with_reducible exact nI_0le (by omega)) h⟩
            | refine ⟨fun h => absurd h (by decide), fun _ => ?_⟩
            | refine ⟨fun _ => ?_, fun h => absurd (by decide) h⟩
            | refine ⟨fun _ => ?_, fun h => absurd h (by decide)⟩
            | refine ⟨fun h => absurd (by decide) h, fun _ => ?_⟩
            | refine ⟨by decide, ?_⟩
            | refine ⟨rfl, ?_⟩)
    try (conv => whnf)
    refine ⟨(σ, τ, n, pc, un), rfl, rfl, ⟨hP.1, hP.2.1⟩, ?_⟩
    try dsimp only [cond_true, cond_false]
    rintro _ _ ⟨rfl, σ1, rfl, -, -, -, -, -, hs⟩
    rw [hs hP.2.2.2.1]
    repeat (first
      | (conv => whnf
         try dsimp only
         try simp (decide := true) only [nI_clamp (show v < 2 ^ 31 by omega), zu_same, zu_ne1, zu_ne2, zu_row, zuL_same, zuL_ne1, zuL_ne2, zrow_n1, zx0, zx1, zx2, zx3, nI_1, Nat.reduceAdd, Nat.reduceMul, Int32.reduceAdd, Int32.reduceSub, Int32.reduceMul]
         first
         | refine ⟨vp_inb (by decide), ?_⟩
         | refine ⟨by with_reducible exact zi (by omega), ?_⟩
         | refine ⟨fun h => absurd h (by with_reducible exact nI_ge (by omega) (by omega)), fun _ => ?_⟩
         | refine ⟨fun _ => ?_, fun h => absurd (by with_reducible exact nI_le (by omega) (by omega)) h⟩
         | refine ⟨fun h => absurd h (by with_reducible exact nI_nlt (by omega) (by omega)), fun _ => ?_⟩
         | refine ⟨fun _ => ?_, fun h => absurd (by with_reducible exact nI_lt (by omega) (by omega)) h⟩
         | refine ⟨fun h => absurd h (by with_reducible exact nI_pos (by omega)), fun _ => ?_⟩
         | refine ⟨fun _ => ?_, fun h => absurd (by with_reducible exact nI_0le (by omega)) h⟩
         | refine ⟨fun h => absurd h (by decide), fun _ => ?_⟩
         | refine ⟨fun _ => ?_, fun h => absurd (by decide) h⟩
         | refine ⟨fun _ => ?_, fun h => absurd h (by decide)⟩
         | refine ⟨fun h => absurd (by decide) h, fun _ => ?_⟩
         | refine ⟨by decide, ?_⟩
         | refine ⟨rfl, ?_⟩)
      | (conv => whnf
         fail_if_success refine Exists.intro ?_ ?_
         simp only [nI_clamp (show v < 2 ^ 31 by omega)]))
    try (conv => whnf)
    refine ⟨fun h => ?_, fun h => ?_⟩
    · rw [if_neg h] at hK
      repeat (conv => whnf
              try dsimp only
              try simp (decide := true) only [zu_same, zu_ne1, zu_ne2, zu_row, zuL_same, zuL_ne1, zuL_ne2, zrow_n1, zx0, zx1, zx2, zx3, nI_1, Nat.reduceAdd, Nat.reduceMul, Int32.reduceAdd, Int32.reduceSub, Int32.reduceMul]
              first
              | refine ⟨vp_inb (by decide), ?_⟩
              | refine ⟨by with_reducible exact zi (by omega), ?_⟩
              | refine ⟨fun h => absurd h (by with_reducible exact nI_ge (by omega) (by omega)), fun _ => ?_⟩
              | refine ⟨fun _ => ?_, fun h => absurd (by with_reducible exact nI_le (by omega) (by omega)) h⟩
              | refine ⟨fun h => absurd h (by with_reducible exact nI_nlt (by omega) (by omega)), fun _ => ?_⟩
              | refine ⟨fun _ => ?_, fun h => absurd (by with_reducible exact nI_lt (by omega) (by omega)) h⟩
              | refine ⟨fun h => absurd h (by with_reducible exact nI_pos (by omega)), fun _ => ?_⟩
              | refine ⟨fun _ => ?_, fun h => absurd (by with_reducible exact nI_0le (by omega)) h⟩
              | refine ⟨fun h => absurd h (by decide), fun _ => ?_⟩
              | refine ⟨fun _ => ?_, fun h => absurd (by decide) h⟩
              | refine ⟨fun _ => ?_, fun h => absurd h (by decide)⟩
              | refine ⟨fun h => absurd (by decide) h, fun _ => ?_⟩
              | refine ⟨by decide, ?_⟩
              | refine ⟨rfl, ?_⟩)
      try (conv => whnf)
      exact hK
    · rw [if_pos h] at hK
      repeat (conv => whnf
              try dsimp only
              try simp (decide := true) only [zu_same, zu_ne1, zu_ne2, zu_row, zuL_same, zuL_ne1, zuL_ne2, zrow_n1, zx0, zx1, zx2, zx3, nI_1, Nat.reduceAdd, Nat.reduceMul, Int32.reduceAdd, Int32.reduceSub, Int32.reduceMul]
              first
              | refine ⟨vp_inb (by decide), ?_⟩
              | refine ⟨by with_reducible exact zi (by omega), ?_⟩
              | refine ⟨fun h => absurd h (by with_reducible exact nI_ge (by omega) (by omega)), fun _ => ?_⟩
              | refine ⟨fun _ => ?_, fun h => absurd (by with_reducible exact nI_le (by omega) (by omega)) h⟩
              | refine ⟨fun h => absurd h (by with_reducible exact nI_nlt (by omega) (by omega)), fun _ => ?_⟩
              | refine ⟨fun _ => ?_, fun h => absurd (by with_reducible exact nI_lt (by omega) (by omega)) h⟩
              | refine ⟨fun h => absurd h (by with_reducible exact nI_pos (by omega)), fun _ => ?_⟩
              | refine ⟨fun _ => ?_, fun h => absurd (by with_reducible exact nI_0le (by omega)) h⟩
              | refine ⟨fun h => absurd h (by decide), fun _ => ?_⟩
              | refine ⟨fun _ => ?_, fun h => absurd (by decide) h⟩
              | refine ⟨fun _ => ?_, fun h => absurd h (by decide)⟩
              | refine ⟨fun h => absurd (by decide) h, fun _ => ?_⟩
              | refine ⟨by decide, ?_⟩
              | refine ⟨rfl, ?_⟩)
      try (conv => whnf)
      exact hK
def spX7_worth : zSp := zDQ (X := zIn × zLo × Nat × Nat × Nat × Nat) (fun x => match x with | (σ, τ, n, pc, un, k) => [.ref 0, .int (nI k)]) (fun x => match x with | (σ, τ, n, pc, un, k) => (119, zSH, zRH, σ, τ)) (fun x => match x with | (σ, τ, n, pc, un, k) => gS σ τ n pc un ∧ k < pc) (fun x r9 μ9 => match x with | (σ, τ, n, pc, un, k) => r9 = some (.int (fSh (pW (zPT σ) (σ 103) k))) ∧ ∃ σ1 : zIn, μ9 = (119, zSH, zRH, σ1, τ) ∧ ∀ r, r ≠ 101 → σ1 r = σ r)
abbrev rmX7_worth : Room := ({ frames := 7, cells := 0, slots := 0, locals := 172 } : Room)
set_option maxRecDepth 100000 in
set_option maxHeartbeats 4000000 in
theorem ctX7_worth (l : Launch) (D : va_G) (cA : Nat → ClassId) : zCt false l D cA yX7_worth cX7_worth 2 (some .int) rmX7_worth spX7_worth := by
  refine zct_Q (zCX7_worth [(138, 0, 1, spX7_needPart, rmX7_needPart.cells, rmX7_needPart.slots), (181, 0, 0, spX7_settle, rmX7_settle.cells, rmX7_settle.slots), (204, 0, 2, spX4_reckon, rmX4_reckon.cells, rmX4_reckon.slots), (193, 1, 1, spX7_shown, rmX7_shown.cells, rmX7_shown.slots)]) zpX7_worth [] (by decide +kernel) zkX7_worth (Or.inr (by decide +kernel)) trivial ⟨by decide +kernel, by decide +kernel⟩ (fun x ad => Nat.le_of_ble_eq_true rfl) ?_ ?_
  · intro p e s m args below meth c A H0 ad0 n0 Q F hml hNw hA hX
    exact ⟨zco_V hX hA F hml hNw (ctX7_needPart l D cA) ⟨⟨zlX7_worth_138, zwX7_needPart.1.1, zwX7_needPart.1.2⟩, zwX7_needPart.2⟩ zdX7_needPart ⟨Nat.le_of_ble_eq_true rfl, Nat.le_of_ble_eq_true rfl⟩ (ci := 7) (by decide) rfl (by rintro av μ K ⟨x, rfl, rfl, -⟩; exact ⟨_, _, rfl, rfl⟩), zco_V hX hA F hml hNw (ctX7_settle l D cA) ⟨⟨zlX7_worth_181, zwX7_settle.1.1, zwX7_settle.1.2⟩, zwX7_settle.2⟩ zdX7_settle ⟨Nat.le_of_ble_eq_true rfl, Nat.le_of_ble_eq_true rfl⟩ (ci := 7) (by decide) rfl (by rintro av μ K ⟨x, rfl, rfl, -⟩; exact ⟨_, _, rfl, rfl⟩), zco_V hX hA F hml hNw (ctX4_reckon l D cA) ⟨⟨zlX7_worth_204, zwX4_reckon.1.1, zwX4_reckon.1.2⟩, zwX4_reckon.2⟩ zdX4_reckon ⟨Nat.le_of_ble_eq_true rfl, Nat.le_of_ble_eq_true rfl⟩ (ci := 4) (by decide) rfl (by rintro av μ K ⟨x, rfl, rfl, -⟩; exact ⟨_, _, rfl, rfl⟩), zco_S hX hA F hml hNw (ctX7_shown l D cA) ⟨⟨zlX7_worth_193, zwX7_shown.1⟩, zwX7_shown.2⟩ zdX7_shown ⟨Nat.le_of_ble_eq_true rfl, Nat.le_of_ble_eq_true rfl⟩, trivial⟩
  · rintro ⟨σ, τ, n, pc, un, k⟩ Ret hP hK Gl hG
    try dsimp only at hP hK
    show Gl 0 (zent 2 [.ref 0, .int (nI k)]) [] (0, 0) ((119, zSH, zRH, σ, τ))
    obtain ⟨hP, hk⟩ := hP
    have h60 := hP.1.1.2.2.1
    refine hG 40 _ _ _ _ _ ?_
    repeat (conv => whnf
            try dsimp only
            try simp (decide := true) only [zu_same, zu_ne1, zu_ne2, zu_row, zuL_same, zuL_ne1, zuL_ne2, zrow_n1, zx0, zx1, zx2, zx3, nI_1, Nat.reduceAdd, Nat.reduceMul, Int32.reduceAdd, Int32.reduceSub, Int32.reduceMul]
            first
            | refine ⟨vp_inb (by decide), ?_⟩
            | refine ⟨by with_reducible exact zi (by omega), ?_⟩
            | refine ⟨fun h => absurd h (by with_reducible exact nI_ge (by omega) (by omega)), fun _ => ?_⟩
            | refine ⟨fun _ => ?_, fun h => absurd (by with_reducible exact nI_le (by omega) (by omega)) h⟩
            | refine ⟨fun h => absurd h (by with_reducible exact nI_nlt (by omega) (by omega)), fun _ => ?_⟩
            | refine ⟨fun _ => ?_, fun h => absurd (by with_reducible exact nI_lt (by omega) (by omega)) h⟩
            | refine ⟨fun h => absurd h (by with_reducible exact nI_pos (by omega)), fun _ => ?_⟩
            | refine ⟨fun _ => ?_, fun h => absurd (by with_reducible exact nI_0le (by omega)) h⟩
            | refine ⟨fun h => absurd h (by decide), fun _ => ?_⟩
            | refine ⟨fun _ => ?_, fun h => absurd (by decide) h⟩
            | refine ⟨fun _ => ?_, fun h => absurd h (by decide)⟩
            | refine ⟨fun h => absurd (by decide) h, fun _ => ?_⟩
            | refine ⟨by decide, ?_⟩
            | refine ⟨rfl, ?_⟩)
    try (conv => whnf)
    refine ⟨(σ, τ, pc, k), rfl, rfl, ⟨hP.1.2.2.1.1, h60, hk⟩, ?_⟩
    try dsimp only [cond_true, cond_false]
    repeat (conv => whnf
            try dsimp only
            try simp (decide := true) only [zu_same, zu_ne1, zu_ne2, zu_row, zuL_same, zuL_ne1, zuL_ne2, zrow_n1, zx0, zx1, zx2, zx3, nI_1, Nat.reduceAdd, Nat.reduceMul, Int32.reduceAdd, Int32.reduceSub, Int32.reduceMul]
            first
            | refine ⟨vp_inb (by decide), ?_⟩
            | refine ⟨by with_reducible exact zi (by omega), ?_⟩
            | refine ⟨fun h => absurd h (by with_reducible exact nI_ge (by omega) (by omega)), fun _ => ?_⟩
            | refine ⟨fun _ => ?_, fun h => absurd (by with_reducible exact nI_le (by omega) (by omega)) h⟩
            | refine ⟨fun h => absurd h (by with_reducible exact nI_nlt (by omega) (by omega)), fun _ => ?_⟩
            | refine ⟨fun _ => ?_, fun h => absurd (by with_reducible exact nI_lt (by omega) (by omega)) h⟩
            | refine ⟨fun h => absurd h (by with_reducible exact nI_pos (by omega)), fun _ => ?_⟩
            | refine ⟨fun _ => ?_, fun h => absurd (by with_reducible exact nI_0le (by omega)) h⟩
            | refine ⟨fun h => absurd h (by decide), fun _ => ?_⟩
            | refine ⟨fun _ => ?_, fun h => absurd (by decide) h⟩
            | refine ⟨fun _ => ?_, fun h => absurd h (by decide)⟩
            | refine ⟨fun h => absurd (by decide) h, fun _ => ?_⟩
            | refine ⟨by decide, ?_⟩
            | refine ⟨rfl, ?_⟩)
    try (conv => whnf)
    refine ⟨(σ, τ, n, pc, un), rfl, rfl, ⟨hP.1, hP.2.1⟩, ?_⟩
    try dsimp only [cond_true, cond_false]
    rintro _ _ ⟨rfl, σ1, rfl, -, -, -, -, -, hs⟩
    rw [hs hP.2.2.2.1]
    repeat (conv => whnf
            try dsimp only
            try simp (decide := true) only [zu_same, zu_ne1, zu_ne2, zu_row, zuL_same, zuL_ne1, zuL_ne2, zrow_n1, zx0, zx1, zx2, zx3, nI_1, Nat.reduceAdd, Nat.reduceMul, Int32.reduceAdd, Int32.reduceSub, Int32.reduceMul]
            first
            | refine ⟨vp_inb (by decide), ?_⟩
            | refine ⟨by with_reducible exact zi (by omega), ?_⟩
            | refine ⟨fun h => absurd h (by with_reducible exact nI_ge (by omega) (by omega)), fun _ => ?_⟩
            | refine ⟨fun _ => ?_, fun h => absurd (by with_reducible exact nI_le (by omega) (by omega)) h⟩
            | refine ⟨fun h => absurd h (by with_reducible exact nI_nlt (by omega) (by omega)), fun _ => ?_⟩
            | refine ⟨fun _ => ?_, fun h => absurd (by with_reducible exact nI_lt (by omega) (by omega)) h⟩
            | refine ⟨fun h => absurd h (by with_reducible exact nI_pos (by omega)), fun _ => ?_⟩
            | refine ⟨fun _ => ?_, fun h => absurd (by with_reducible exact nI_0le (by omega)) h⟩
            | refine ⟨fun h => absurd h (by decide), fun _ => ?_⟩
            | refine ⟨fun _ => ?_, fun h => absurd (by decide) h⟩
            | refine ⟨fun _ => ?_, fun h => absurd h (by decide)⟩
            | refine ⟨fun h => absurd (by decide) h, fun _ => ?_⟩
            | refine ⟨by decide, ?_⟩
            | refine ⟨rfl, ?_⟩)
    try (conv => whnf)
    refine ⟨(true, σ, τ, k), rfl, rfl, ⟨by omega, hP.1.1.2.2.2.2.2 k hk⟩, ?_⟩
    try dsimp only [cond_true, cond_false]
    rintro _ _ ⟨rfl, w, rfl⟩
    repeat (conv => whnf
            try dsimp only
            try simp (decide := true) only [zu_same, zu_ne1, zu_ne2, zu_row, zuL_same, zuL_ne1, zuL_ne2, zrow_n1, zx0, zx1, zx2, zx3, nI_1, Nat.reduceAdd, Nat.reduceMul, Int32.reduceAdd, Int32.reduceSub, Int32.reduceMul]
            first
            | refine ⟨vp_inb (by decide), ?_⟩
            | refine ⟨by with_reducible exact zi (by omega), ?_⟩
            | refine ⟨fun h => absurd h (by with_reducible exact nI_ge (by omega) (by omega)), fun _ => ?_⟩
            | refine ⟨fun _ => ?_, fun h => absurd (by with_reducible exact nI_le (by omega) (by omega)) h⟩
            | refine ⟨fun h => absurd h (by with_reducible exact nI_nlt (by omega) (by omega)), fun _ => ?_⟩
            | refine ⟨fun _ => ?_, fun h => absurd (by with_reducible exact nI_lt (by omega) (by omega)) h⟩
            | refine ⟨fun h => absurd h (by with_reducible exact nI_pos (by omega)), fun _ => ?_⟩
            | refine ⟨fun _ => ?_, fun h => absurd (by with_reducible exact nI_0le (by omega)) h⟩
            | refine ⟨fun h => absurd h (by decide), fun _ => ?_⟩
            | refine ⟨fun _ => ?_, fun h => absurd (by decide) h⟩
            | refine ⟨fun _ => ?_, fun h => absurd h (by decide)⟩
            | refine ⟨fun h => absurd (by decide) h, fun _ => ?_⟩
            | refine ⟨by decide, ?_⟩
            | refine ⟨rfl, ?_⟩)
    try (conv => whnf)
    refine ⟨(_, _), rfl, rfl, trivial, ?_⟩
    try dsimp only [cond_true, cond_false]
    repeat (conv => whnf
            try dsimp only
            try simp (decide := true) only [zu_same, zu_ne1, zu_ne2, zu_row, zuL_same, zuL_ne1, zuL_ne2, zrow_n1, zx0, zx1, zx2, zx3, nI_1, Nat.reduceAdd, Nat.reduceMul, Int32.reduceAdd, Int32.reduceSub, Int32.reduceMul]
            first
            | refine ⟨vp_inb (by decide), ?_⟩
            | refine ⟨by with_reducible exact zi (by omega), ?_⟩
            | refine ⟨fun h => absurd h (by with_reducible exact nI_ge (by omega) (by omega)), fun _ => ?_⟩
            | refine ⟨fun _ => ?_, fun h => absurd (by with_reducible exact nI_le (by omega) (by omega)) h⟩
            | refine ⟨fun h => absurd h (by with_reducible exact nI_nlt (by omega) (by omega)), fun _ => ?_⟩
            | refine ⟨fun _ => ?_, fun h => absurd (by with_reducible exact nI_lt (by omega) (by omega)) h⟩
            | refine ⟨fun h => absurd h (by with_reducible exact nI_pos (by omega)), fun _ => ?_⟩
            | refine ⟨fun _ => ?_, fun h => absurd (by with_reducible exact nI_0le (by omega)) h⟩
            | refine ⟨fun h => absurd h (by decide), fun _ => ?_⟩
            | refine ⟨fun _ => ?_, fun h => absurd (by decide) h⟩
            | refine ⟨fun _ => ?_, fun h => absurd h (by decide)⟩
            | refine ⟨fun h => absurd (by decide) h, fun _ => ?_⟩
            | refine ⟨by decide, ?_⟩
            | refine ⟨rfl, ?_⟩)
    try (conv => whnf)
    exact hK _ _ ⟨rfl, _, rfl, fun r h => zrow_ne h⟩
def spX7_broken : zSp := zD (X := zIn × zLo × Nat × Nat × Nat) (fun x => match x with | (σ, τ, n, pc, un) => [.ref 0]) (fun x => match x with | (σ, τ, n, pc, un) => (119, zSH, zRH, σ, τ)) (fun x => match x with | (σ, τ, n, pc, un) => gS σ τ n pc un) (fun x => match x with | (σ, τ, n, pc, un) => some (.int (nI (pBr (σ 103) n)))) (fun x => match x with | (σ, τ, n, pc, un) => (119, zSH, zRH, σ, τ))
abbrev rmX7_broken : Room := ({ frames := 7, cells := 0, slots := 0, locals := 172 } : Room)
set_option maxRecDepth 100000 in
set_option maxHeartbeats 4000000 in
theorem ctX7_broken (l : Launch) (D : va_G) (cA : Nat → ClassId) : zCt false l D cA yX7_broken cX7_broken 1 (some .int) rmX7_broken spX7_broken := by
  refine zct_D (zCX7_broken [(181, 0, 0, spX7_settle, rmX7_settle.cells, rmX7_settle.slots), (208, 0, 1, spX3_brokenOnes, rmX3_brokenOnes.cells, rmX3_brokenOnes.slots)]) zpX7_broken [] (by decide +kernel) zkX7_broken (Or.inr (by decide +kernel)) trivial ⟨by decide +kernel, by decide +kernel⟩ (fun x ad => Nat.le_of_ble_eq_true rfl) ?_ ?_
  · intro p e s m args below meth c A H0 ad0 n0 Q F hml hNw hA hX
    exact ⟨zco_V hX hA F hml hNw (ctX7_settle l D cA) ⟨⟨zlX7_broken_181, zwX7_settle.1.1, zwX7_settle.1.2⟩, zwX7_settle.2⟩ zdX7_settle ⟨Nat.le_of_ble_eq_true rfl, Nat.le_of_ble_eq_true rfl⟩ (ci := 7) (by decide) rfl (by rintro av μ K ⟨x, rfl, rfl, -⟩; exact ⟨_, _, rfl, rfl⟩), zco_V hX hA F hml hNw (ctX3_brokenOnes l D cA) ⟨⟨zlX7_broken_208, zwX3_brokenOnes.1.1, zwX3_brokenOnes.1.2⟩, zwX3_brokenOnes.2⟩ zdX3_brokenOnes ⟨Nat.le_of_ble_eq_true rfl, Nat.le_of_ble_eq_true rfl⟩ (ci := 3) (by decide) rfl (by rintro av μ K ⟨x, rfl, rfl, -⟩; exact ⟨_, _, rfl, rfl⟩), trivial⟩
  · rintro ⟨σ, τ, n, pc, un⟩ Ret hP hK Gl hG
    try dsimp only at hP hK
    show Gl 0 (zent 1 [.ref 0]) [] (0, 0) ((119, zSH, zRH, σ, τ))
    have h16 := hP.1.1.2.1
    refine hG 40 _ _ _ _ _ ?_
    repeat (conv => whnf
            try dsimp only
            try simp (decide := true) only [zu_same, zu_ne1, zu_ne2, zu_row, zuL_same, zuL_ne1, zuL_ne2, zrow_n1, zx0, zx1, zx2, zx3, nI_1, Nat.reduceAdd, Nat.reduceMul, Int32.reduceAdd, Int32.reduceSub, Int32.reduceMul]
            first
            | refine ⟨vp_inb (by decide), ?_⟩
            | refine ⟨by with_reducible exact zi (by omega), ?_⟩
            | refine ⟨fun h => absurd h (by with_reducible exact nI_ge (by omega) (by omega)), fun _ => ?_⟩
            | refine ⟨fun _ => ?_, fun h => absurd (by with_reducible exact nI_le (by omega) (by omega)) h⟩
            | refine ⟨fun h => absurd h (by with_reducible exact nI_nlt (by omega) (by omega)), fun _ => ?_⟩
            | refine ⟨fun _ => ?_, fun h => absurd (by with_reducible exact nI_lt (by omega) (by omega)) h⟩
            | refine ⟨fun h => absurd h (by with_reducible exact nI_pos (by omega)), fun _ => ?_⟩
            | refine ⟨fun _ => ?_, fun h => absurd (by with_reducible exact nI_0le (by omega)) h⟩
            | refine ⟨fun h => absurd h (by decide), fun _ => ?_⟩
            | refine ⟨fun _ => ?_, fun h => absurd (by decide) h⟩
            | refine ⟨fun _ => ?_, fun h => absurd h (by decide)⟩
            | refine ⟨fun h => absurd (by decide) h, fun _ => ?_⟩
            | refine ⟨by decide, ?_⟩
            | refine ⟨rfl, ?_⟩)
    try (conv => whnf)
    refine ⟨(σ, τ, n, pc, un), rfl, rfl, ⟨hP.1, hP.2.1⟩, ?_⟩
    try dsimp only [cond_true, cond_false]
    rintro _ _ ⟨rfl, σ1, rfl, -, -, -, -, -, hs⟩
    rw [hs hP.2.2.2.1]
    repeat (first
      | (conv => whnf
         try dsimp only
         try simp (decide := true) only [hP.1.1.1, zu_same, zu_ne1, zu_ne2, zu_row, zuL_same, zuL_ne1, zuL_ne2, zrow_n1, zx0, zx1, zx2, zx3, nI_1, Nat.reduceAdd, Nat.reduceMul, Int32.reduceAdd, Int32.reduceSub, Int32.reduceMul]
         first
         | refine ⟨vp_inb (by decide), ?_⟩
         | refine ⟨by with_reducible exact zi (by omega), ?_⟩
         | refine ⟨fun h => absurd h (by with_reducible exact nI_ge (by omega) (by omega)), fun _ => ?_⟩
         | refine ⟨fun _ => ?_, fun h => absurd (by with_reducible exact nI_le (by omega) (by omega)) h⟩
         | refine ⟨fun h => absurd h (by with_reducible exact nI_nlt (by omega) (by omega)), fun _ => ?_⟩
         | refine ⟨fun _ => ?_, fun h => absurd (by with_reducible exact nI_lt (by omega) (by omega)) h⟩
         | refine ⟨fun h => absurd h (by with_reducible exact nI_pos (by omega)), fun _ => ?_⟩
         | refine ⟨fun _ => ?_, fun h => absurd (by with_reducible exact nI_0le (by omega)) h⟩
         | refine ⟨fun h => absurd h (by decide), fun _ => ?_⟩
         | refine ⟨fun _ => ?_, fun h => absurd (by decide) h⟩
         | refine ⟨fun _ => ?_, fun h => absurd h (by decide)⟩
         | refine ⟨fun h => absurd (by decide) h, fun _ => ?_⟩
         | refine ⟨by decide, ?_⟩
         | refine ⟨rfl, ?_⟩)
      | (conv => whnf
         fail_if_success refine Exists.intro ?_ ?_
         simp only [hP.1.1.1]))
    try (conv => whnf)
    refine ⟨(σ, τ, n), rfl, rfl, h16, ?_⟩
    try dsimp only [cond_true, cond_false]
    repeat (conv => whnf
            try dsimp only
            try simp (decide := true) only [zu_same, zu_ne1, zu_ne2, zu_row, zuL_same, zuL_ne1, zuL_ne2, zrow_n1, zx0, zx1, zx2, zx3, nI_1, Nat.reduceAdd, Nat.reduceMul, Int32.reduceAdd, Int32.reduceSub, Int32.reduceMul]
            first
            | refine ⟨vp_inb (by decide), ?_⟩
            | refine ⟨by with_reducible exact zi (by omega), ?_⟩
            | refine ⟨fun h => absurd h (by with_reducible exact nI_ge (by omega) (by omega)), fun _ => ?_⟩
            | refine ⟨fun _ => ?_, fun h => absurd (by with_reducible exact nI_le (by omega) (by omega)) h⟩
            | refine ⟨fun h => absurd h (by with_reducible exact nI_nlt (by omega) (by omega)), fun _ => ?_⟩
            | refine ⟨fun _ => ?_, fun h => absurd (by with_reducible exact nI_lt (by omega) (by omega)) h⟩
            | refine ⟨fun h => absurd h (by with_reducible exact nI_pos (by omega)), fun _ => ?_⟩
            | refine ⟨fun _ => ?_, fun h => absurd (by with_reducible exact nI_0le (by omega)) h⟩
            | refine ⟨fun h => absurd h (by decide), fun _ => ?_⟩
            | refine ⟨fun _ => ?_, fun h => absurd (by decide) h⟩
            | refine ⟨fun _ => ?_, fun h => absurd h (by decide)⟩
            | refine ⟨fun h => absurd (by decide) h, fun _ => ?_⟩
            | refine ⟨by decide, ?_⟩
            | refine ⟨rfl, ?_⟩)
    try (conv => whnf)
    exact hK
def spX7_movedBy : zSp := zD (X := zIn × zLo × Nat × Nat × Nat × Nat) (fun x => match x with | (σ, τ, n, pc, un, v) => [.ref 0, .int (nI v)]) (fun x => match x with | (σ, τ, n, pc, un, v) => (119, zSH, zRH, σ, τ)) (fun x => match x with | (σ, τ, n, pc, un, v) => gS σ τ n pc un ∧ v < n) (fun x => match x with | (σ, τ, n, pc, un, v) => some (.int (σ 112 v))) (fun x => match x with | (σ, τ, n, pc, un, v) => (119, zSH, zRH, σ, τ))
abbrev rmX7_movedBy : Room := ({ frames := 7, cells := 0, slots := 0, locals := 176 } : Room)
set_option maxRecDepth 100000 in
set_option maxHeartbeats 4000000 in
theorem ctX7_movedBy (l : Launch) (D : va_G) (cA : Nat → ClassId) : zCt false l D cA yX7_movedBy cX7_movedBy 2 (some .int) rmX7_movedBy spX7_movedBy := by
  refine zct_D (zCX7_movedBy [(132, 0, 1, spX7_needVariable, rmX7_needVariable.cells, rmX7_needVariable.slots), (181, 0, 0, spX7_settle, rmX7_settle.cells, rmX7_settle.slots), (225, 0, 0, spX7_findMovers, rmX7_findMovers.cells, rmX7_findMovers.slots)]) zpX7_movedBy [] (by decide +kernel) zkX7_movedBy (Or.inr (by decide +kernel)) trivial ⟨by decide +kernel, by decide +kernel⟩ (fun x ad => Nat.le_of_ble_eq_true rfl) ?_ ?_
  · intro p e s m args below meth c A H0 ad0 n0 Q F hml hNw hA hX
    exact ⟨zco_V hX hA F hml hNw (ctX7_needVariable l D cA) ⟨⟨zlX7_movedBy_132, zwX7_needVariable.1.1, zwX7_needVariable.1.2⟩, zwX7_needVariable.2⟩ zdX7_needVariable ⟨Nat.le_of_ble_eq_true rfl, Nat.le_of_ble_eq_true rfl⟩ (ci := 7) (by decide) rfl (by rintro av μ K ⟨x, rfl, rfl, -⟩; exact ⟨_, _, rfl, rfl⟩), zco_V hX hA F hml hNw (ctX7_settle l D cA) ⟨⟨zlX7_movedBy_181, zwX7_settle.1.1, zwX7_settle.1.2⟩, zwX7_settle.2⟩ zdX7_settle ⟨Nat.le_of_ble_eq_true rfl, Nat.le_of_ble_eq_true rfl⟩ (ci := 7) (by decide) rfl (by rintro av μ K ⟨x, rfl, rfl, -⟩; exact ⟨_, _, rfl, rfl⟩), zco_V hX hA F hml hNw (ctX7_findMovers l D cA) ⟨⟨zlX7_movedBy_225, zwX7_findMovers.1.1, zwX7_findMovers.1.2⟩, zwX7_findMovers.2⟩ zdX7_findMovers ⟨Nat.le_of_ble_eq_true rfl, Nat.le_of_ble_eq_true rfl⟩ (ci := 7) (by decide) rfl (by rintro av μ K ⟨x, rfl, rfl, -⟩; exact ⟨_, _, rfl, rfl⟩), trivial⟩
  · rintro ⟨σ, τ, n, pc, un, v⟩ Ret hP hK Gl hG
    try dsimp only at hP hK
    show Gl 0 (zent 2 [.ref 0, .int (nI v)]) [] (0, 0) ((119, zSH, zRH, σ, τ))
    obtain ⟨hP, hv⟩ := hP
    have h16 := hP.1.1.2.1
    refine hG 40 _ _ _ _ _ ?_
    repeat (conv => whnf
            try dsimp only
            try simp (decide := true) only [zu_same, zu_ne1, zu_ne2, zu_row, zuL_same, zuL_ne1, zuL_ne2, zrow_n1, zx0, zx1, zx2, zx3, nI_1, Nat.reduceAdd, Nat.reduceMul, Int32.reduceAdd, Int32.reduceSub, Int32.reduceMul]
            first
            | refine ⟨vp_inb (by decide), ?_⟩
            | refine ⟨by with_reducible exact zi (by omega), ?_⟩
            | refine ⟨fun h => absurd h (by with_reducible exact nI_ge (by omega) (by omega)), fun _ => ?_⟩
            | refine ⟨fun _ => ?_, fun h => absurd (by with_reducible exact nI_le (by omega) (by omega)) h⟩
            | refine ⟨fun h => absurd h (by with_reducible exact nI_nlt (by omega) (by omega)), fun _ => ?_⟩
            | refine ⟨fun _ => ?_, fun h => absurd (by with_reducible exact nI_lt (by omega) (by omega)) h⟩
            | refine ⟨fun h => absurd h (by with_reducible exact nI_pos (by omega)), fun _ => ?_⟩
            | refine ⟨fun _ => ?_, fun h => absurd (by with_reducible exact nI_0le (by omega)) h⟩
            | refine ⟨fun h => absurd h (by decide), fun _ => ?_⟩
            | refine ⟨fun _ => ?_, fun h => absurd (by decide) h⟩
            | refine ⟨fun _ => ?_, fun h => absurd h (by decide)⟩
            | refine ⟨fun h => absurd (by decide) h, fun _ => ?_⟩
            | refine ⟨by decide, ?_⟩
            | refine ⟨rfl, ?_⟩)
    try (conv => whnf)
    refine ⟨(σ, τ, n, v), rfl, rfl, ⟨hP.1.1.1, h16, hv⟩, ?_⟩
    try dsimp only [cond_true, cond_false]
    repeat (conv => whnf
            try dsimp only
            try simp (decide := true) only [zu_same, zu_ne1, zu_ne2, zu_row, zuL_same, zuL_ne1, zuL_ne2, zrow_n1, zx0, zx1, zx2, zx3, nI_1, Nat.reduceAdd, Nat.reduceMul, Int32.reduceAdd, Int32.reduceSub, Int32.reduceMul]
            first
            | refine ⟨vp_inb (by decide), ?_⟩
            | refine ⟨by with_reducible exact zi (by omega), ?_⟩
            | refine ⟨fun h => absurd h (by with_reducible exact nI_ge (by omega) (by omega)), fun _ => ?_⟩
            | refine ⟨fun _ => ?_, fun h => absurd (by with_reducible exact nI_le (by omega) (by omega)) h⟩
            | refine ⟨fun h => absurd h (by with_reducible exact nI_nlt (by omega) (by omega)), fun _ => ?_⟩
            | refine ⟨fun _ => ?_, fun h => absurd (by with_reducible exact nI_lt (by omega) (by omega)) h⟩
            | refine ⟨fun h => absurd h (by with_reducible exact nI_pos (by omega)), fun _ => ?_⟩
            | refine ⟨fun _ => ?_, fun h => absurd (by with_reducible exact nI_0le (by omega)) h⟩
            | refine ⟨fun h => absurd h (by decide), fun _ => ?_⟩
            | refine ⟨fun _ => ?_, fun h => absurd (by decide) h⟩
            | refine ⟨fun _ => ?_, fun h => absurd h (by decide)⟩
            | refine ⟨fun h => absurd (by decide) h, fun _ => ?_⟩
            | refine ⟨by decide, ?_⟩
            | refine ⟨rfl, ?_⟩)
    try (conv => whnf)
    refine ⟨(σ, τ, n, pc, un), rfl, rfl, ⟨hP.1, hP.2.1⟩, ?_⟩
    try dsimp only [cond_true, cond_false]
    rintro _ _ ⟨rfl, σ1, rfl, -, -, -, -, -, hs⟩
    rw [hs hP.2.2.2.1]
    repeat (conv => whnf
            try dsimp only
            try simp (decide := true) only [zu_same, zu_ne1, zu_ne2, zu_row, zuL_same, zuL_ne1, zuL_ne2, zrow_n1, zx0, zx1, zx2, zx3, nI_1, Nat.reduceAdd, Nat.reduceMul, Int32.reduceAdd, Int32.reduceSub, Int32.reduceMul]
            first
            | refine ⟨vp_inb (by decide), ?_⟩
            | refine ⟨by with_reducible exact zi (by omega), ?_⟩
            | refine ⟨fun h => absurd h (by with_reducible exact nI_ge (by omega) (by omega)), fun _ => ?_⟩
            | refine ⟨fun _ => ?_, fun h => absurd (by with_reducible exact nI_le (by omega) (by omega)) h⟩
            | refine ⟨fun h => absurd h (by with_reducible exact nI_nlt (by omega) (by omega)), fun _ => ?_⟩
            | refine ⟨fun _ => ?_, fun h => absurd (by with_reducible exact nI_lt (by omega) (by omega)) h⟩
            | refine ⟨fun h => absurd h (by with_reducible exact nI_pos (by omega)), fun _ => ?_⟩
            | refine ⟨fun _ => ?_, fun h => absurd (by with_reducible exact nI_0le (by omega)) h⟩
            | refine ⟨fun h => absurd h (by decide), fun _ => ?_⟩
            | refine ⟨fun _ => ?_, fun h => absurd (by decide) h⟩
            | refine ⟨fun _ => ?_, fun h => absurd h (by decide)⟩
            | refine ⟨fun h => absurd (by decide) h, fun _ => ?_⟩
            | refine ⟨by decide, ?_⟩
            | refine ⟨rfl, ?_⟩)
    try (conv => whnf)
    refine ⟨(σ, τ, n, pc, un), rfl, rfl, ⟨hP.1, hP.2.1, hP.2.2.1, hP.2.2.2.1⟩, ?_⟩
    try dsimp only [cond_true, cond_false]
    rintro _ _ ⟨rfl, σ1, rfl, -, -, -, -, -, hs⟩
    rw [hs hP.2.2.2.2]
    repeat (first
      | (conv => whnf
         try dsimp only
         try simp (decide := true) only [nI_clamp (show v < 2 ^ 31 by omega), zu_same, zu_ne1, zu_ne2, zu_row, zuL_same, zuL_ne1, zuL_ne2, zrow_n1, zx0, zx1, zx2, zx3, nI_1, Nat.reduceAdd, Nat.reduceMul, Int32.reduceAdd, Int32.reduceSub, Int32.reduceMul]
         first
         | refine ⟨vp_inb (by decide), ?_⟩
         | refine ⟨by with_reducible exact zi (by omega), ?_⟩
         | refine ⟨fun h => absurd h (by with_reducible exact nI_ge (by omega) (by omega)), fun _ => ?_⟩
         | refine ⟨fun _ => ?_, fun h => absurd (by with_reducible exact nI_le (by omega) (by omega)) h⟩
         | refine ⟨fun h => absurd h (by with_reducible exact nI_nlt (by omega) (by omega)), fun _ => ?_⟩
         | refine ⟨fun _ => ?_, fun h => absurd (by with_reducible exact nI_lt (by omega) (by omega)) h⟩
         | refine ⟨fun h => absurd h (by with_reducible exact nI_pos (by omega)), fun _ => ?_⟩
         | refine ⟨fun _ => ?_, fun h => absurd (by with_reducible exact nI_0le (by omega)) h⟩
         | refine ⟨fun h => absurd h (by decide), fun _ => ?_⟩
         | refine ⟨fun _ => ?_, fun h => absurd (by decide) h⟩
         | refine ⟨fun _ => ?_, fun h => absurd h (by decide)⟩
         | refine ⟨fun h => absurd (by decide) h, fun _ => ?_⟩
         | refine ⟨by decide, ?_⟩
         | refine ⟨rfl, ?_⟩)
      | (conv => whnf
         fail_if_success refine Exists.intro ?_ ?_
         simp only [nI_clamp (show v < 2 ^ 31 by omega)]))
    try (conv => whnf)
    exact hK

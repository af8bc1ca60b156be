/-! ===== the law's cases ===== -/
def zscr (xs : Nat → Int32) : List (Nat × Int32) := [(299999, 7), (300000, xs 0), (300001, xs 1), (300002, xs 2), (300003, xs 3), (300004, xs 4), (300005, xs 5), (300006, xs 6)]
theorem zscr_sc {xs : Nat → Int32} : ∀ j v, (300000 + j, v) ∈ zscr xs → j < 7 ∧ xs j = v := by
  intro j v h
  simp only [zscr, List.mem_cons, List.not_mem_nil, or_false, Prod.mk.injEq] at h
  rcases h with ⟨h, rfl⟩ | ⟨h, rfl⟩ | ⟨h, rfl⟩ | ⟨h, rfl⟩ | ⟨h, rfl⟩ | ⟨h, rfl⟩ | ⟨h, rfl⟩ | ⟨h, rfl⟩
  · omega
  · exact ⟨by omega, congrArg xs (by omega)⟩
  · exact ⟨by omega, congrArg xs (by omega)⟩
  · exact ⟨by omega, congrArg xs (by omega)⟩
  · exact ⟨by omega, congrArg xs (by omega)⟩
  · exact ⟨by omega, congrArg xs (by omega)⟩
  · exact ⟨by omega, congrArg xs (by omega)⟩
  · exact ⟨by omega, congrArg xs (by omega)⟩
theorem zscr_sl {xs : Nat → Int32} : ∀ v, (299999, v) ∈ zscr xs → Int32.ofNat 7 = v := by
  intro v h
  simp only [zscr, List.mem_cons, List.not_mem_nil, or_false, Prod.mk.injEq] at h
  rcases h with ⟨-, rfl⟩ | ⟨h, -⟩ | ⟨h, -⟩ | ⟨h, -⟩ | ⟨h, -⟩ | ⟨h, -⟩ | ⟨h, -⟩ | ⟨h, -⟩
  · rfl
  all_goals exact absurd h (by decide)
/-- the script's name is no cell's -/
theorem zLw_Z {p : Program} {l : Launch} {e : Env} {s : State} {m : MethodId} {below : List Frame} {meth : Method} {c : Code} {b : Nat} {D : va_G} {cA : Nat → ClassId} (pc : Nat) (ll : zLc) (st : List Value) (κ : Nat × Nat) (μ : zM) (k : zLw p l e s m below meth c b D cA pc ll st κ ((μ.1, zuS μ.2.1 zS (999, 0), μ.2.2) : zM)) : zLw p l e s m below meth c b D cA pc ll st κ μ := by
  intro ad H locs ls ha hn hwf hrm hP hD hS hl
  refine zG_same (μ := μ) (μ1 := ((μ.1, zuS μ.2.1 zS (999, 0), μ.2.2) : zM)) ⟨rfl, fun j hj => ⟨(if_neg ?_).symm, rfl, rfl, rfl⟩, ?_⟩ k ad H locs ls ha hn hwf hrm hP hD hS hl
  · have h1 := ha.2.2.1
    have h2 := ha.2.2.2.2
    have h3 := hrm.1
    omega
  · show (if zS = zS then ((999, 0) : Nat × Nat) else μ.2.1 zS).1 = 999
    rw [if_pos rfl]
set_option maxRecDepth 100000 in
set_option maxHeartbeats 4000000 in
theorem zlc0 {p : Program} {e : Env} {s : State} {m : MethodId} {below : List Frame} {meth : Method} {c : Code} (l : Launch) (hlt : l.stackTraces = false) {b : Nat} {xs : Nat → Int32} {D : va_G} {cA : Nat → ClassId} (F9 : zLf p s m meth c b 7 xs D cA) : zLw p l e s m below meth c b D cA 200 zl0 [] (234, 11049) (145, zSH, zRH, zs0, zt0) := by
  obtain ⟨F, hml, hNw, hX, -, -, -⟩ := id F9
  have hA : ∀ q : Nat, s.heap.size ≤ q → (fun q => s.heap.size ≤ q) q := fun _ h => h
  have hS := zlaw_step (l := l) (e := e) (below := below) F9 (zCL_law0 [(107, 1, 8, spL_unit, rmL_unit.cells, rmL_unit.slots), (112, 0, 6, spX8_unit, rmX8_unit.cells, rmX8_unit.slots), (113, 0, 0, spX8_thrown, rmX8_thrown.cells, rmX8_thrown.slots)]) (zscr xs) zpL_law0 [2219] zkL_law0 ⟨by decide +kernel, by decide +kernel, by decide +kernel, by decide +kernel⟩ rfl rfl zscr_sc zscr_sl ⟨zco_SW hX hA F hml hNw (zctW_X (ctL_unit l hlt D cA)) ⟨⟨zlL_law0_107, zwL_unit.1⟩, zwL_unit.2⟩ zdL_unit ⟨Nat.le_of_ble_eq_true rfl, Nat.le_of_ble_eq_true rfl⟩, zco_V hX hA F hml hNw (zct_X (ctX8_unit l D cA)) ⟨⟨zlL_law0_112, zwX8_unit.1.1, zwX8_unit.1.2⟩, zwX8_unit.2⟩ zdX8_unit ⟨Nat.le_of_ble_eq_true rfl, Nat.le_of_ble_eq_true rfl⟩ (ci := 8) (by decide) rfl (by rintro av μ K ⟨x, rfl, rfl, -⟩; exact ⟨_, _, rfl, rfl⟩), zco_V hX hA F hml hNw (zct_X (ctX8_thrown l D cA)) ⟨⟨zlL_law0_113, zwX8_thrown.1.1, zwX8_thrown.1.2⟩, zwX8_thrown.2⟩ zdX8_thrown ⟨Nat.le_of_ble_eq_true rfl, Nat.le_of_ble_eq_true rfl⟩ (ci := 8) (by decide) rfl (by rintro av μ K ⟨⟨μ0, x9⟩, rfl, rfl, h9, -⟩; exact ⟨_, _, rfl, congrArg Prod.fst h9.1⟩), trivial⟩
  have hZ := zLw_Z (p := p) (l := l) (e := e) (s := s) (m := m) (below := below) (meth := meth) (c := c) (b := b) (D := D) (cA := cA)
  generalize zLw p l e s m below meth c b D cA = Gl at hS hZ ⊢
  refine hS 400 _ _ _ _ _ ?_
  by_cases hc : (-3 ≤ xs 1 ∧ xs 1 ≤ 3) ∧ (-3 ≤ xs 2 ∧ xs 2 ≤ 3) ∧ (-3 ≤ xs 3 ∧ xs 3 ≤ 3) ∧ (-3 ≤ xs 4 ∧ xs 4 ≤ 3) ∧ (1 ≤ xs 5 ∧ xs 5 ≤ 100000) ∧ (1 ≤ xs 6 ∧ xs 6 ≤ 100000)
  · skip
    repeat (conv => whnf
            try dsimp only
            try simp (decide := true) only [zu_same, zu_ne1, zu_ne2, zuL_same, zuL_ne1, zuL_ne2, zrow_n1, zx0, zx1, zx2, zx3, zf_0_13, zf_0_14, zf_0_15, zf_1_3, zf_15_0, zf_16_0, zf_17_10, zf_86_3, zf_90_6, zf_90_7, zf_94_7, zf_100_6, zf_100_7, zf_118_0, zf_118_1, zf_118_2, zf_118_3, zg_119_0, zg_119_5, zg_119_9, zg_119_15, zg_119_19, zg_119_22, zg_119_1, zg_119_16, zg_120_0, zg_120_1, zg_120_2, zg_120_3, zg_121_0, zg_122_0, zg_124_0, zg_126_0, zg_127_0, zg_128_0, zg_129_0, zg_131_0, zg_131_1, zg_131_2, zg_131_3, Nat.reduceAdd, Nat.reduceMul, Int32.reduceAdd, Int32.reduceSub, Int32.reduceMul]
            first
            | refine ⟨vp_inb rfl, ?_⟩
            | refine ⟨fun h => absurd h (of_decide_eq_false rfl), fun _ => ?_⟩
            | refine ⟨fun _ => ?_, fun h => absurd (of_decide_eq_true rfl) h⟩
            | refine ⟨fun _ => ?_, fun h => absurd h (of_decide_eq_false rfl)⟩
            | refine ⟨fun h => absurd (of_decide_eq_true rfl) h, fun _ => ?_⟩
            | refine ⟨of_decide_eq_true rfl, ?_⟩
            | refine ⟨rfl, ?_⟩)
    try (conv => whnf)
    refine ⟨(xs 1, xs 2, xs 3, xs 4, xs 5, xs 6), rfl, rfl, trivial, ?_⟩
    try dsimp only
    simp only [if_pos hc]
    rintro _ _ ⟨rfl, σ1, τ1, rfl⟩
    repeat (conv => whnf
            try dsimp only
            try simp (decide := true) only [zu_same, zu_ne1, zu_ne2, zuL_same, zuL_ne1, zuL_ne2, zrow_n1, zx0, zx1, zx2, zx3, zf_0_13, zf_0_14, zf_0_15, zf_1_3, zf_15_0, zf_16_0, zf_17_10, zf_86_3, zf_90_6, zf_90_7, zf_94_7, zf_100_6, zf_100_7, zf_118_0, zf_118_1, zf_118_2, zf_118_3, zg_119_0, zg_119_5, zg_119_9, zg_119_15, zg_119_19, zg_119_22, zg_119_1, zg_119_16, zg_120_0, zg_120_1, zg_120_2, zg_120_3, zg_121_0, zg_122_0, zg_124_0, zg_126_0, zg_127_0, zg_128_0, zg_129_0, zg_131_0, zg_131_1, zg_131_2, zg_131_3, Nat.reduceAdd, Nat.reduceMul, Int32.reduceAdd, Int32.reduceSub, Int32.reduceMul]
            first
            | refine ⟨vp_inb rfl, ?_⟩
            | refine ⟨fun h => absurd h (of_decide_eq_false rfl), fun _ => ?_⟩
            | refine ⟨fun _ => ?_, fun h => absurd (of_decide_eq_true rfl) h⟩
            | refine ⟨fun _ => ?_, fun h => absurd h (of_decide_eq_false rfl)⟩
            | refine ⟨fun h => absurd (of_decide_eq_true rfl) h, fun _ => ?_⟩
            | refine ⟨of_decide_eq_true rfl, ?_⟩
            | refine ⟨rfl, ?_⟩)
    try (conv => whnf)
    refine ⟨(xs 1, xs 2, xs 3, xs 4, xs 5, xs 6, σ1, τ1, 1), rfl, rfl, trivial, ?_⟩
    try dsimp only
    simp only [if_pos hc]
    rintro _ μ2 ⟨rfl, h1, h2, h3, h4⟩
    repeat (first
      | (conv => whnf
         try dsimp only
         try simp (decide := true) only [h1, h2, h3, h4, zu_same, zu_ne1, zu_ne2, zuL_same, zuL_ne1, zuL_ne2, zrow_n1, zx0, zx1, zx2, zx3, zf_0_13, zf_0_14, zf_0_15, zf_1_3, zf_15_0, zf_16_0, zf_17_10, zf_86_3, zf_90_6, zf_90_7, zf_94_7, zf_100_6, zf_100_7, zf_118_0, zf_118_1, zf_118_2, zf_118_3, zg_119_0, zg_119_5, zg_119_9, zg_119_15, zg_119_19, zg_119_22, zg_119_1, zg_119_16, zg_120_0, zg_120_1, zg_120_2, zg_120_3, zg_121_0, zg_122_0, zg_124_0, zg_126_0, zg_127_0, zg_128_0, zg_129_0, zg_131_0, zg_131_1, zg_131_2, zg_131_3, Nat.reduceAdd, Nat.reduceMul, Int32.reduceAdd, Int32.reduceSub, Int32.reduceMul]
         first
         | refine ⟨vp_inb rfl, ?_⟩
         | refine ⟨fun h => absurd h (of_decide_eq_false rfl), fun _ => ?_⟩
         | refine ⟨fun _ => ?_, fun h => absurd (of_decide_eq_true rfl) h⟩
         | refine ⟨fun _ => ?_, fun h => absurd h (of_decide_eq_false rfl)⟩
         | refine ⟨fun h => absurd (of_decide_eq_true rfl) h, fun _ => ?_⟩
         | refine ⟨of_decide_eq_true rfl, ?_⟩
         | refine ⟨rfl, ?_⟩)
      | (conv => whnf
         fail_if_success refine Exists.intro ?_ ?_
         simp only [h1, h2, h3, h4]))
    try (conv => whnf)
    refine ⟨(μ2, ()), rfl, rfl, ⟨h1, trivial⟩, ?_⟩
    try dsimp only
    repeat (first
      | (conv => whnf
         try dsimp only
         try simp (decide := true) only [h1, h2, h3, h4, zu_same, zu_ne1, zu_ne2, zuL_same, zuL_ne1, zuL_ne2, zrow_n1, zx0, zx1, zx2, zx3, zf_0_13, zf_0_14, zf_0_15, zf_1_3, zf_15_0, zf_16_0, zf_17_10, zf_86_3, zf_90_6, zf_90_7, zf_94_7, zf_100_6, zf_100_7, zf_118_0, zf_118_1, zf_118_2, zf_118_3, zg_119_0, zg_119_5, zg_119_9, zg_119_15, zg_119_19, zg_119_22, zg_119_1, zg_119_16, zg_120_0, zg_120_1, zg_120_2, zg_120_3, zg_121_0, zg_122_0, zg_124_0, zg_126_0, zg_127_0, zg_128_0, zg_129_0, zg_131_0, zg_131_1, zg_131_2, zg_131_3, Nat.reduceAdd, Nat.reduceMul, Int32.reduceAdd, Int32.reduceSub, Int32.reduceMul]
         first
         | refine ⟨vp_inb rfl, ?_⟩
         | refine ⟨fun h => absurd h (of_decide_eq_false rfl), fun _ => ?_⟩
         | refine ⟨fun _ => ?_, fun h => absurd (of_decide_eq_true rfl) h⟩
         | refine ⟨fun _ => ?_, fun h => absurd h (of_decide_eq_false rfl)⟩
         | refine ⟨fun h => absurd (of_decide_eq_true rfl) h, fun _ => ?_⟩
         | refine ⟨of_decide_eq_true rfl, ?_⟩
         | refine ⟨rfl, ?_⟩)
      | (conv => whnf
         fail_if_success refine Exists.intro ?_ ?_
         simp only [h1, h2, h3, h4]))
    try (conv => whnf)
    refine hZ _ _ _ _ _ ?_
    refine hS 40 _ _ _ _ _ ?_
    repeat (conv => whnf
            try dsimp only
            try simp (decide := true) only [zu_same, zu_ne1, zu_ne2, zuL_same, zuL_ne1, zuL_ne2, zrow_n1, zx0, zx1, zx2, zx3, zf_0_13, zf_0_14, zf_0_15, zf_1_3, zf_15_0, zf_16_0, zf_17_10, zf_86_3, zf_90_6, zf_90_7, zf_94_7, zf_100_6, zf_100_7, zf_118_0, zf_118_1, zf_118_2, zf_118_3, zg_119_0, zg_119_5, zg_119_9, zg_119_15, zg_119_19, zg_119_22, zg_119_1, zg_119_16, zg_120_0, zg_120_1, zg_120_2, zg_120_3, zg_121_0, zg_122_0, zg_124_0, zg_126_0, zg_127_0, zg_128_0, zg_129_0, zg_131_0, zg_131_1, zg_131_2, zg_131_3, Nat.reduceAdd, Nat.reduceMul, Int32.reduceAdd, Int32.reduceSub, Int32.reduceMul]
            first
            | refine ⟨vp_inb rfl, ?_⟩
            | refine ⟨fun h => absurd h (of_decide_eq_false rfl), fun _ => ?_⟩
            | refine ⟨fun _ => ?_, fun h => absurd (of_decide_eq_true rfl) h⟩
            | refine ⟨fun _ => ?_, fun h => absurd h (of_decide_eq_false rfl)⟩
            | refine ⟨fun h => absurd (of_decide_eq_true rfl) h, fun _ => ?_⟩
            | refine ⟨of_decide_eq_true rfl, ?_⟩
            | refine ⟨rfl, ?_⟩)
    try (conv => whnf)
    first | exact rfl | exact ⟨rfl, rfl⟩
  · skip
    repeat (conv => whnf
            try dsimp only
            try simp (decide := true) only [zu_same, zu_ne1, zu_ne2, zuL_same, zuL_ne1, zuL_ne2, zrow_n1, zx0, zx1, zx2, zx3, zf_0_13, zf_0_14, zf_0_15, zf_1_3, zf_15_0, zf_16_0, zf_17_10, zf_86_3, zf_90_6, zf_90_7, zf_94_7, zf_100_6, zf_100_7, zf_118_0, zf_118_1, zf_118_2, zf_118_3, zg_119_0, zg_119_5, zg_119_9, zg_119_15, zg_119_19, zg_119_22, zg_119_1, zg_119_16, zg_120_0, zg_120_1, zg_120_2, zg_120_3, zg_121_0, zg_122_0, zg_124_0, zg_126_0, zg_127_0, zg_128_0, zg_129_0, zg_131_0, zg_131_1, zg_131_2, zg_131_3, Nat.reduceAdd, Nat.reduceMul, Int32.reduceAdd, Int32.reduceSub, Int32.reduceMul]
            first
            | refine ⟨vp_inb rfl, ?_⟩
            | refine ⟨fun h => absurd h (of_decide_eq_false rfl), fun _ => ?_⟩
            | refine ⟨fun _ => ?_, fun h => absurd (of_decide_eq_true rfl) h⟩
            | refine ⟨fun _ => ?_, fun h => absurd h (of_decide_eq_false rfl)⟩
            | refine ⟨fun h => absurd (of_decide_eq_true rfl) h, fun _ => ?_⟩
            | refine ⟨of_decide_eq_true rfl, ?_⟩
            | refine ⟨rfl, ?_⟩)
    try (conv => whnf)
    refine ⟨(xs 1, xs 2, xs 3, xs 4, xs 5, xs 6), rfl, rfl, trivial, ?_⟩
    try dsimp only
    simp only [if_neg hc]
    rintro _ _ ⟨rfl, σ1, τ1, rfl⟩
    repeat (conv => whnf
            try dsimp only
            try simp (decide := true) only [zu_same, zu_ne1, zu_ne2, zuL_same, zuL_ne1, zuL_ne2, zrow_n1, zx0, zx1, zx2, zx3, zf_0_13, zf_0_14, zf_0_15, zf_1_3, zf_15_0, zf_16_0, zf_17_10, zf_86_3, zf_90_6, zf_90_7, zf_94_7, zf_100_6, zf_100_7, zf_118_0, zf_118_1, zf_118_2, zf_118_3, zg_119_0, zg_119_5, zg_119_9, zg_119_15, zg_119_19, zg_119_22, zg_119_1, zg_119_16, zg_120_0, zg_120_1, zg_120_2, zg_120_3, zg_121_0, zg_122_0, zg_124_0, zg_126_0, zg_127_0, zg_128_0, zg_129_0, zg_131_0, zg_131_1, zg_131_2, zg_131_3, Nat.reduceAdd, Nat.reduceMul, Int32.reduceAdd, Int32.reduceSub, Int32.reduceMul]
            first
            | refine ⟨vp_inb rfl, ?_⟩
            | refine ⟨fun h => absurd h (of_decide_eq_false rfl), fun _ => ?_⟩
            | refine ⟨fun _ => ?_, fun h => absurd (of_decide_eq_true rfl) h⟩
            | refine ⟨fun _ => ?_, fun h => absurd h (of_decide_eq_false rfl)⟩
            | refine ⟨fun h => absurd (of_decide_eq_true rfl) h, fun _ => ?_⟩
            | refine ⟨of_decide_eq_true rfl, ?_⟩
            | refine ⟨rfl, ?_⟩)
    try (conv => whnf)
    refine ⟨(xs 1, xs 2, xs 3, xs 4, xs 5, xs 6, σ1, τ1, 0), rfl, rfl, trivial, ?_⟩
    try dsimp only
    simp only [if_neg hc]
    rintro _ μ2 ⟨rfl, h1, h2, h3, h4⟩
    repeat (first
      | (conv => whnf
         try dsimp only
         try simp (decide := true) only [h1, h2, h3, h4, zu_same, zu_ne1, zu_ne2, zuL_same, zuL_ne1, zuL_ne2, zrow_n1, zx0, zx1, zx2, zx3, zf_0_13, zf_0_14, zf_0_15, zf_1_3, zf_15_0, zf_16_0, zf_17_10, zf_86_3, zf_90_6, zf_90_7, zf_94_7, zf_100_6, zf_100_7, zf_118_0, zf_118_1, zf_118_2, zf_118_3, zg_119_0, zg_119_5, zg_119_9, zg_119_15, zg_119_19, zg_119_22, zg_119_1, zg_119_16, zg_120_0, zg_120_1, zg_120_2, zg_120_3, zg_121_0, zg_122_0, zg_124_0, zg_126_0, zg_127_0, zg_128_0, zg_129_0, zg_131_0, zg_131_1, zg_131_2, zg_131_3, Nat.reduceAdd, Nat.reduceMul, Int32.reduceAdd, Int32.reduceSub, Int32.reduceMul]
         first
         | refine ⟨vp_inb rfl, ?_⟩
         | refine ⟨fun h => absurd h (of_decide_eq_false rfl), fun _ => ?_⟩
         | refine ⟨fun _ => ?_, fun h => absurd (of_decide_eq_true rfl) h⟩
         | refine ⟨fun _ => ?_, fun h => absurd h (of_decide_eq_false rfl)⟩
         | refine ⟨fun h => absurd (of_decide_eq_true rfl) h, fun _ => ?_⟩
         | refine ⟨of_decide_eq_true rfl, ?_⟩
         | refine ⟨rfl, ?_⟩)
      | (conv => whnf
         fail_if_success refine Exists.intro ?_ ?_
         simp only [h1, h2, h3, h4]))
    try (conv => whnf)
    refine ⟨(μ2, ()), rfl, rfl, ⟨h1, trivial⟩, ?_⟩
    try dsimp only
    repeat (first
      | (conv => whnf
         try dsimp only
         try simp (decide := true) only [h1, h2, h3, h4, zu_same, zu_ne1, zu_ne2, zuL_same, zuL_ne1, zuL_ne2, zrow_n1, zx0, zx1, zx2, zx3, zf_0_13, zf_0_14, zf_0_15, zf_1_3, zf_15_0, zf_16_0, zf_17_10, zf_86_3, zf_90_6, zf_90_7, zf_94_7, zf_100_6, zf_100_7, zf_118_0, zf_118_1, zf_118_2, zf_118_3, zg_119_0, zg_119_5, zg_119_9, zg_119_15, zg_119_19, zg_119_22, zg_119_1, zg_119_16, zg_120_0, zg_120_1, zg_120_2, zg_120_3, zg_121_0, zg_122_0, zg_124_0, zg_126_0, zg_127_0, zg_128_0, zg_129_0, zg_131_0, zg_131_1, zg_131_2, zg_131_3, Nat.reduceAdd, Nat.reduceMul, Int32.reduceAdd, Int32.reduceSub, Int32.reduceMul]
         first
         | refine ⟨vp_inb rfl, ?_⟩
         | refine ⟨fun h => absurd h (of_decide_eq_false rfl), fun _ => ?_⟩
         | refine ⟨fun _ => ?_, fun h => absurd (of_decide_eq_true rfl) h⟩
         | refine ⟨fun _ => ?_, fun h => absurd h (of_decide_eq_false rfl)⟩
         | refine ⟨fun h => absurd (of_decide_eq_true rfl) h, fun _ => ?_⟩
         | refine ⟨of_decide_eq_true rfl, ?_⟩
         | refine ⟨rfl, ?_⟩)
      | (conv => whnf
         fail_if_success refine Exists.intro ?_ ?_
         simp only [h1, h2, h3, h4]))
    try (conv => whnf)
    refine hZ _ _ _ _ _ ?_
    refine hS 40 _ _ _ _ _ ?_
    repeat (conv => whnf
            try dsimp only
            try simp (decide := true) only [zu_same, zu_ne1, zu_ne2, zuL_same, zuL_ne1, zuL_ne2, zrow_n1, zx0, zx1, zx2, zx3, zf_0_13, zf_0_14, zf_0_15, zf_1_3, zf_15_0, zf_16_0, zf_17_10, zf_86_3, zf_90_6, zf_90_7, zf_94_7, zf_100_6, zf_100_7, zf_118_0, zf_118_1, zf_118_2, zf_118_3, zg_119_0, zg_119_5, zg_119_9, zg_119_15, zg_119_19, zg_119_22, zg_119_1, zg_119_16, zg_120_0, zg_120_1, zg_120_2, zg_120_3, zg_121_0, zg_122_0, zg_124_0, zg_126_0, zg_127_0, zg_128_0, zg_129_0, zg_131_0, zg_131_1, zg_131_2, zg_131_3, Nat.reduceAdd, Nat.reduceMul, Int32.reduceAdd, Int32.reduceSub, Int32.reduceMul]
            first
            | refine ⟨vp_inb rfl, ?_⟩
            | refine ⟨fun h => absurd h (of_decide_eq_false rfl), fun _ => ?_⟩
            | refine ⟨fun _ => ?_, fun h => absurd (of_decide_eq_true rfl) h⟩
            | refine ⟨fun _ => ?_, fun h => absurd h (of_decide_eq_false rfl)⟩
            | refine ⟨fun h => absurd (of_decide_eq_true rfl) h, fun _ => ?_⟩
            | refine ⟨of_decide_eq_true rfl, ?_⟩
            | refine ⟨rfl, ?_⟩)
    try (conv => whnf)
    first | exact rfl | exact ⟨rfl, rfl⟩
set_option maxRecDepth 100000 in
set_option maxHeartbeats 4000000 in
theorem zlc1 {p : Program} {e : Env} {s : State} {m : MethodId} {below : List Frame} {meth : Method} {c : Code} (l : Launch) (hlt : l.stackTraces = false) {b : Nat} {xs : Nat → Int32} {D : va_G} {cA : Nat → ClassId} (F9 : zLf p s m meth c b 7 xs D cA) : zLw p l e s m below meth c b D cA 318 zl0 [] (234, 11049) (145, zSH, zRH, zs0, zt0) := by
  obtain ⟨F, hml, hNw, hX, -, -, -⟩ := id F9
  have hA : ∀ q : Nat, s.heap.size ≤ q → (fun q => s.heap.size ≤ q) q := fun _ h => h
  have hS := zlaw_step (l := l) (e := e) (below := below) F9 (zCL_law1 [(117, 1, 3, spL_variable, rmL_variable.cells, rmL_variable.slots), (120, 0, 1, spX8_variable, rmX8_variable.cells, rmX8_variable.slots), (113, 0, 0, spX8_thrown, rmX8_thrown.cells, rmX8_thrown.slots)]) (zscr xs) zpL_law1 [2219] zkL_law1 ⟨by decide +kernel, by decide +kernel, by decide +kernel, by decide +kernel⟩ rfl rfl zscr_sc zscr_sl ⟨zco_SW hX hA F hml hNw (zctW_X (ctL_variable l hlt D cA)) ⟨⟨zlL_law1_117, zwL_variable.1⟩, zwL_variable.2⟩ zdL_variable ⟨Nat.le_of_ble_eq_true rfl, Nat.le_of_ble_eq_true rfl⟩, zco_V hX hA F hml hNw (zct_X (ctX8_variable l D cA)) ⟨⟨zlL_law1_120, zwX8_variable.1.1, zwX8_variable.1.2⟩, zwX8_variable.2⟩ zdX8_variable ⟨Nat.le_of_ble_eq_true rfl, Nat.le_of_ble_eq_true rfl⟩ (ci := 8) (by decide) rfl (by rintro av μ K ⟨x, rfl, rfl, -⟩; exact ⟨_, _, rfl, rfl⟩), zco_V hX hA F hml hNw (zct_X (ctX8_thrown l D cA)) ⟨⟨zlL_law1_113, zwX8_thrown.1.1, zwX8_thrown.1.2⟩, zwX8_thrown.2⟩ zdX8_thrown ⟨Nat.le_of_ble_eq_true rfl, Nat.le_of_ble_eq_true rfl⟩ (ci := 8) (by decide) rfl (by rintro av μ K ⟨⟨μ0, x9⟩, rfl, rfl, h9, -⟩; exact ⟨_, _, rfl, congrArg Prod.fst h9.1⟩), trivial⟩
  have hZ := zLw_Z (p := p) (l := l) (e := e) (s := s) (m := m) (below := below) (meth := meth) (c := c) (b := b) (D := D) (cA := cA)
  generalize zLw p l e s m below meth c b D cA = Gl at hS hZ ⊢
  refine hS 400 _ _ _ _ _ ?_
  by_cases hc : 0 ≤ xs 1 ∧ xs 1 < 1
  · have hd := zeq1 hc
    repeat (conv => whnf
            try dsimp only
            try simp (decide := true) only [zu_same, zu_ne1, zu_ne2, zuL_same, zuL_ne1, zuL_ne2, zrow_n1, zx0, zx1, zx2, zx3, zf_0_13, zf_0_14, zf_0_15, zf_1_3, zf_15_0, zf_16_0, zf_17_10, zf_86_3, zf_90_6, zf_90_7, zf_94_7, zf_100_6, zf_100_7, zf_118_0, zf_118_1, zf_118_2, zf_118_3, zg_119_0, zg_119_5, zg_119_9, zg_119_15, zg_119_19, zg_119_22, zg_119_1, zg_119_16, zg_120_0, zg_120_1, zg_120_2, zg_120_3, zg_121_0, zg_122_0, zg_124_0, zg_126_0, zg_127_0, zg_128_0, zg_129_0, zg_131_0, zg_131_1, zg_131_2, zg_131_3, Nat.reduceAdd, Nat.reduceMul, Int32.reduceAdd, Int32.reduceSub, Int32.reduceMul]
            first
            | refine ⟨vp_inb rfl, ?_⟩
            | refine ⟨fun h => absurd h (of_decide_eq_false rfl), fun _ => ?_⟩
            | refine ⟨fun _ => ?_, fun h => absurd (of_decide_eq_true rfl) h⟩
            | refine ⟨fun _ => ?_, fun h => absurd h (of_decide_eq_false rfl)⟩
            | refine ⟨fun h => absurd (of_decide_eq_true rfl) h, fun _ => ?_⟩
            | refine ⟨of_decide_eq_true rfl, ?_⟩
            | refine ⟨rfl, ?_⟩)
    try (conv => whnf)
    refine ⟨xs 1, rfl, rfl, trivial, ?_⟩
    try dsimp only
    simp only [if_pos hc, if_pos hd]
    rintro _ _ ⟨rfl, σ1, τ1, rfl⟩
    repeat (conv => whnf
            try dsimp only
            try simp (decide := true) only [zu_same, zu_ne1, zu_ne2, zuL_same, zuL_ne1, zuL_ne2, zrow_n1, zx0, zx1, zx2, zx3, zf_0_13, zf_0_14, zf_0_15, zf_1_3, zf_15_0, zf_16_0, zf_17_10, zf_86_3, zf_90_6, zf_90_7, zf_94_7, zf_100_6, zf_100_7, zf_118_0, zf_118_1, zf_118_2, zf_118_3, zg_119_0, zg_119_5, zg_119_9, zg_119_15, zg_119_19, zg_119_22, zg_119_1, zg_119_16, zg_120_0, zg_120_1, zg_120_2, zg_120_3, zg_121_0, zg_122_0, zg_124_0, zg_126_0, zg_127_0, zg_128_0, zg_129_0, zg_131_0, zg_131_1, zg_131_2, zg_131_3, Nat.reduceAdd, Nat.reduceMul, Int32.reduceAdd, Int32.reduceSub, Int32.reduceMul]
            first
            | refine ⟨vp_inb rfl, ?_⟩
            | refine ⟨fun h => absurd h (of_decide_eq_false rfl), fun _ => ?_⟩
            | refine ⟨fun _ => ?_, fun h => absurd (of_decide_eq_true rfl) h⟩
            | refine ⟨fun _ => ?_, fun h => absurd h (of_decide_eq_false rfl)⟩
            | refine ⟨fun h => absurd (of_decide_eq_true rfl) h, fun _ => ?_⟩
            | refine ⟨of_decide_eq_true rfl, ?_⟩
            | refine ⟨rfl, ?_⟩)
    try (conv => whnf)
    refine ⟨(xs 1, σ1, τ1, 0), rfl, rfl, trivial, ?_⟩
    try dsimp only
    simp only [if_pos hc, if_pos hd]
    rintro _ μ2 ⟨rfl, h1, h2, h3, h4⟩
    repeat (first
      | (conv => whnf
         try dsimp only
         try simp (decide := true) only [h1, h2, h3, h4, zu_same, zu_ne1, zu_ne2, zuL_same, zuL_ne1, zuL_ne2, zrow_n1, zx0, zx1, zx2, zx3, zf_0_13, zf_0_14, zf_0_15, zf_1_3, zf_15_0, zf_16_0, zf_17_10, zf_86_3, zf_90_6, zf_90_7, zf_94_7, zf_100_6, zf_100_7, zf_118_0, zf_118_1, zf_118_2, zf_118_3, zg_119_0, zg_119_5, zg_119_9, zg_119_15, zg_119_19, zg_119_22, zg_119_1, zg_119_16, zg_120_0, zg_120_1, zg_120_2, zg_120_3, zg_121_0, zg_122_0, zg_124_0, zg_126_0, zg_127_0, zg_128_0, zg_129_0, zg_131_0, zg_131_1, zg_131_2, zg_131_3, Nat.reduceAdd, Nat.reduceMul, Int32.reduceAdd, Int32.reduceSub, Int32.reduceMul]
         first
         | refine ⟨vp_inb rfl, ?_⟩
         | refine ⟨fun h => absurd h (of_decide_eq_false rfl), fun _ => ?_⟩
         | refine ⟨fun _ => ?_, fun h => absurd (of_decide_eq_true rfl) h⟩
         | refine ⟨fun _ => ?_, fun h => absurd h (of_decide_eq_false rfl)⟩
         | refine ⟨fun h => absurd (of_decide_eq_true rfl) h, fun _ => ?_⟩
         | refine ⟨of_decide_eq_true rfl, ?_⟩
         | refine ⟨rfl, ?_⟩)
      | (conv => whnf
         fail_if_success refine Exists.intro ?_ ?_
         simp only [h1, h2, h3, h4]))
    try (conv => whnf)
    refine ⟨(μ2, ()), rfl, rfl, ⟨h1, trivial⟩, ?_⟩
    try dsimp only
    repeat (first
      | (conv => whnf
         try dsimp only
         try simp (decide := true) only [h1, h2, h3, h4, zu_same, zu_ne1, zu_ne2, zuL_same, zuL_ne1, zuL_ne2, zrow_n1, zx0, zx1, zx2, zx3, zf_0_13, zf_0_14, zf_0_15, zf_1_3, zf_15_0, zf_16_0, zf_17_10, zf_86_3, zf_90_6, zf_90_7, zf_94_7, zf_100_6, zf_100_7, zf_118_0, zf_118_1, zf_118_2, zf_118_3, zg_119_0, zg_119_5, zg_119_9, zg_119_15, zg_119_19, zg_119_22, zg_119_1, zg_119_16, zg_120_0, zg_120_1, zg_120_2, zg_120_3, zg_121_0, zg_122_0, zg_124_0, zg_126_0, zg_127_0, zg_128_0, zg_129_0, zg_131_0, zg_131_1, zg_131_2, zg_131_3, Nat.reduceAdd, Nat.reduceMul, Int32.reduceAdd, Int32.reduceSub, Int32.reduceMul]
         first
         | refine ⟨vp_inb rfl, ?_⟩
         | refine ⟨fun h => absurd h (of_decide_eq_false rfl), fun _ => ?_⟩
         | refine ⟨fun _ => ?_, fun h => absurd (of_decide_eq_true rfl) h⟩
         | refine ⟨fun _ => ?_, fun h => absurd h (of_decide_eq_false rfl)⟩
         | refine ⟨fun h => absurd (of_decide_eq_true rfl) h, fun _ => ?_⟩
         | refine ⟨of_decide_eq_true rfl, ?_⟩
         | refine ⟨rfl, ?_⟩)
      | (conv => whnf
         fail_if_success refine Exists.intro ?_ ?_
         simp only [h1, h2, h3, h4]))
    try (conv => whnf)
    refine hZ _ _ _ _ _ ?_
    refine hS 40 _ _ _ _ _ ?_
    repeat (conv => whnf
            try dsimp only
            try simp (decide := true) only [zu_same, zu_ne1, zu_ne2, zuL_same, zuL_ne1, zuL_ne2, zrow_n1, zx0, zx1, zx2, zx3, zf_0_13, zf_0_14, zf_0_15, zf_1_3, zf_15_0, zf_16_0, zf_17_10, zf_86_3, zf_90_6, zf_90_7, zf_94_7, zf_100_6, zf_100_7, zf_118_0, zf_118_1, zf_118_2, zf_118_3, zg_119_0, zg_119_5, zg_119_9, zg_119_15, zg_119_19, zg_119_22, zg_119_1, zg_119_16, zg_120_0, zg_120_1, zg_120_2, zg_120_3, zg_121_0, zg_122_0, zg_124_0, zg_126_0, zg_127_0, zg_128_0, zg_129_0, zg_131_0, zg_131_1, zg_131_2, zg_131_3, Nat.reduceAdd, Nat.reduceMul, Int32.reduceAdd, Int32.reduceSub, Int32.reduceMul]
            first
            | refine ⟨vp_inb rfl, ?_⟩
            | refine ⟨fun h => absurd h (of_decide_eq_false rfl), fun _ => ?_⟩
            | refine ⟨fun _ => ?_, fun h => absurd (of_decide_eq_true rfl) h⟩
            | refine ⟨fun _ => ?_, fun h => absurd h (of_decide_eq_false rfl)⟩
            | refine ⟨fun h => absurd (of_decide_eq_true rfl) h, fun _ => ?_⟩
            | refine ⟨of_decide_eq_true rfl, ?_⟩
            | refine ⟨rfl, ?_⟩)
    try (conv => whnf)
    first | exact rfl | exact ⟨rfl, rfl⟩
  · have hd := zeq1n hc
    repeat (conv => whnf
            try dsimp only
            try simp (decide := true) only [zu_same, zu_ne1, zu_ne2, zuL_same, zuL_ne1, zuL_ne2, zrow_n1, zx0, zx1, zx2, zx3, zf_0_13, zf_0_14, zf_0_15, zf_1_3, zf_15_0, zf_16_0, zf_17_10, zf_86_3, zf_90_6, zf_90_7, zf_94_7, zf_100_6, zf_100_7, zf_118_0, zf_118_1, zf_118_2, zf_118_3, zg_119_0, zg_119_5, zg_119_9, zg_119_15, zg_119_19, zg_119_22, zg_119_1, zg_119_16, zg_120_0, zg_120_1, zg_120_2, zg_120_3, zg_121_0, zg_122_0, zg_124_0, zg_126_0, zg_127_0, zg_128_0, zg_129_0, zg_131_0, zg_131_1, zg_131_2, zg_131_3, Nat.reduceAdd, Nat.reduceMul, Int32.reduceAdd, Int32.reduceSub, Int32.reduceMul]
            first
            | refine ⟨vp_inb rfl, ?_⟩
            | refine ⟨fun h => absurd h (of_decide_eq_false rfl), fun _ => ?_⟩
            | refine ⟨fun _ => ?_, fun h => absurd (of_decide_eq_true rfl) h⟩
            | refine ⟨fun _ => ?_, fun h => absurd h (of_decide_eq_false rfl)⟩
            | refine ⟨fun h => absurd (of_decide_eq_true rfl) h, fun _ => ?_⟩
            | refine ⟨of_decide_eq_true rfl, ?_⟩
            | refine ⟨rfl, ?_⟩)
    try (conv => whnf)
    refine ⟨xs 1, rfl, rfl, trivial, ?_⟩
    try dsimp only
    simp only [if_neg hc, if_neg hd]
    rintro _ _ ⟨rfl, σ1, τ1, rfl⟩
    repeat (conv => whnf
            try dsimp only
            try simp (decide := true) only [zu_same, zu_ne1, zu_ne2, zuL_same, zuL_ne1, zuL_ne2, zrow_n1, zx0, zx1, zx2, zx3, zf_0_13, zf_0_14, zf_0_15, zf_1_3, zf_15_0, zf_16_0, zf_17_10, zf_86_3, zf_90_6, zf_90_7, zf_94_7, zf_100_6, zf_100_7, zf_118_0, zf_118_1, zf_118_2, zf_118_3, zg_119_0, zg_119_5, zg_119_9, zg_119_15, zg_119_19, zg_119_22, zg_119_1, zg_119_16, zg_120_0, zg_120_1, zg_120_2, zg_120_3, zg_121_0, zg_122_0, zg_124_0, zg_126_0, zg_127_0, zg_128_0, zg_129_0, zg_131_0, zg_131_1, zg_131_2, zg_131_3, Nat.reduceAdd, Nat.reduceMul, Int32.reduceAdd, Int32.reduceSub, Int32.reduceMul]
            first
            | refine ⟨vp_inb rfl, ?_⟩
            | refine ⟨fun h => absurd h (of_decide_eq_false rfl), fun _ => ?_⟩
            | refine ⟨fun _ => ?_, fun h => absurd (of_decide_eq_true rfl) h⟩
            | refine ⟨fun _ => ?_, fun h => absurd h (of_decide_eq_false rfl)⟩
            | refine ⟨fun h => absurd (of_decide_eq_true rfl) h, fun _ => ?_⟩
            | refine ⟨of_decide_eq_true rfl, ?_⟩
            | refine ⟨rfl, ?_⟩)
    try (conv => whnf)
    refine ⟨(xs 1, σ1, τ1, 0), rfl, rfl, trivial, ?_⟩
    try dsimp only
    simp only [if_neg hc, if_neg hd]
    rintro _ μ2 ⟨rfl, h1, h2, h3, h4⟩
    repeat (first
      | (conv => whnf
         try dsimp only
         try simp (decide := true) only [h1, h2, h3, h4, zu_same, zu_ne1, zu_ne2, zuL_same, zuL_ne1, zuL_ne2, zrow_n1, zx0, zx1, zx2, zx3, zf_0_13, zf_0_14, zf_0_15, zf_1_3, zf_15_0, zf_16_0, zf_17_10, zf_86_3, zf_90_6, zf_90_7, zf_94_7, zf_100_6, zf_100_7, zf_118_0, zf_118_1, zf_118_2, zf_118_3, zg_119_0, zg_119_5, zg_119_9, zg_119_15, zg_119_19, zg_119_22, zg_119_1, zg_119_16, zg_120_0, zg_120_1, zg_120_2, zg_120_3, zg_121_0, zg_122_0, zg_124_0, zg_126_0, zg_127_0, zg_128_0, zg_129_0, zg_131_0, zg_131_1, zg_131_2, zg_131_3, Nat.reduceAdd, Nat.reduceMul, Int32.reduceAdd, Int32.reduceSub, Int32.reduceMul]
         first
         | refine ⟨vp_inb rfl, ?_⟩
         | refine ⟨fun h => absurd h (of_decide_eq_false rfl), fun _ => ?_⟩
         | refine ⟨fun _ => ?_, fun h => absurd (of_decide_eq_true rfl) h⟩
         | refine ⟨fun _ => ?_, fun h => absurd h (of_decide_eq_false rfl)⟩
         | refine ⟨fun h => absurd (of_decide_eq_true rfl) h, fun _ => ?_⟩
         | refine ⟨of_decide_eq_true rfl, ?_⟩
         | refine ⟨rfl, ?_⟩)
      | (conv => whnf
         fail_if_success refine Exists.intro ?_ ?_
         simp only [h1, h2, h3, h4]))
    try (conv => whnf)
    refine ⟨(μ2, ()), rfl, rfl, ⟨h1, trivial⟩, ?_⟩
    try dsimp only
    repeat (first
      | (conv => whnf
         try dsimp only
         try simp (decide := true) only [h1, h2, h3, h4, zu_same, zu_ne1, zu_ne2, zuL_same, zuL_ne1, zuL_ne2, zrow_n1, zx0, zx1, zx2, zx3, zf_0_13, zf_0_14, zf_0_15, zf_1_3, zf_15_0, zf_16_0, zf_17_10, zf_86_3, zf_90_6, zf_90_7, zf_94_7, zf_100_6, zf_100_7, zf_118_0, zf_118_1, zf_118_2, zf_118_3, zg_119_0, zg_119_5, zg_119_9, zg_119_15, zg_119_19, zg_119_22, zg_119_1, zg_119_16, zg_120_0, zg_120_1, zg_120_2, zg_120_3, zg_121_0, zg_122_0, zg_124_0, zg_126_0, zg_127_0, zg_128_0, zg_129_0, zg_131_0, zg_131_1, zg_131_2, zg_131_3, Nat.reduceAdd, Nat.reduceMul, Int32.reduceAdd, Int32.reduceSub, Int32.reduceMul]
         first
         | refine ⟨vp_inb rfl, ?_⟩
         | refine ⟨fun h => absurd h (of_decide_eq_false rfl), fun _ => ?_⟩
         | refine ⟨fun _ => ?_, fun h => absurd (of_decide_eq_true rfl) h⟩
         | refine ⟨fun _ => ?_, fun h => absurd h (of_decide_eq_false rfl)⟩
         | refine ⟨fun h => absurd (of_decide_eq_true rfl) h, fun _ => ?_⟩
         | refine ⟨of_decide_eq_true rfl, ?_⟩
         | refine ⟨rfl, ?_⟩)
      | (conv => whnf
         fail_if_success refine Exists.intro ?_ ?_
         simp only [h1, h2, h3, h4]))
    try (conv => whnf)
    refine hZ _ _ _ _ _ ?_
    refine hS 40 _ _ _ _ _ ?_
    repeat (conv => whnf
            try dsimp only
            try simp (decide := true) only [zu_same, zu_ne1, zu_ne2, zuL_same, zuL_ne1, zuL_ne2, zrow_n1, zx0, zx1, zx2, zx3, zf_0_13, zf_0_14, zf_0_15, zf_1_3, zf_15_0, zf_16_0, zf_17_10, zf_86_3, zf_90_6, zf_90_7, zf_94_7, zf_100_6, zf_100_7, zf_118_0, zf_118_1, zf_118_2, zf_118_3, zg_119_0, zg_119_5, zg_119_9, zg_119_15, zg_119_19, zg_119_22, zg_119_1, zg_119_16, zg_120_0, zg_120_1, zg_120_2, zg_120_3, zg_121_0, zg_122_0, zg_124_0, zg_126_0, zg_127_0, zg_128_0, zg_129_0, zg_131_0, zg_131_1, zg_131_2, zg_131_3, Nat.reduceAdd, Nat.reduceMul, Int32.reduceAdd, Int32.reduceSub, Int32.reduceMul]
            first
            | refine ⟨vp_inb rfl, ?_⟩
            | refine ⟨fun h => absurd h (of_decide_eq_false rfl), fun _ => ?_⟩
            | refine ⟨fun _ => ?_, fun h => absurd (of_decide_eq_true rfl) h⟩
            | refine ⟨fun _ => ?_, fun h => absurd h (of_decide_eq_false rfl)⟩
            | refine ⟨fun h => absurd (of_decide_eq_true rfl) h, fun _ => ?_⟩
            | refine ⟨of_decide_eq_true rfl, ?_⟩
            | refine ⟨rfl, ?_⟩)
    try (conv => whnf)
    first | exact rfl | exact ⟨rfl, rfl⟩
set_option maxRecDepth 100000 in
set_option maxHeartbeats 4000000 in
theorem zlc2 {p : Program} {e : Env} {s : State} {m : MethodId} {below : List Frame} {meth : Method} {c : Code} (l : Launch) (hlt : l.stackTraces = false) {b : Nat} {xs : Nat → Int32} {D : va_G} {cA : Nat → ClassId} (F9 : zLf p s m meth c b 7 xs D cA) : zLw p l e s m below meth c b D cA 374 zl0 [] (234, 11049) (145, zSH, zRH, zs0, zt0) := by
  obtain ⟨F, hml, hNw, hX, -, -, -⟩ := id F9
  have hA : ∀ q : Nat, s.heap.size ≤ q → (fun q => s.heap.size ≤ q) q := fun _ h => h
  have hS := zlaw_step (l := l) (e := e) (below := below) F9 (zCL_law2 [(121, 1, 4, spL_number, rmL_number.cells, rmL_number.slots), (124, 0, 2, spX8_number, rmX8_number.cells, rmX8_number.slots), (113, 0, 0, spX8_thrown, rmX8_thrown.cells, rmX8_thrown.slots)]) (zscr xs) zpL_law2 [2219] zkL_law2 ⟨by decide +kernel, by decide +kernel, by decide +kernel, by decide +kernel⟩ rfl rfl zscr_sc zscr_sl ⟨zco_SW hX hA F hml hNw (zctW_X (ctL_number l hlt D cA)) ⟨⟨zlL_law2_121, zwL_number.1⟩, zwL_number.2⟩ zdL_number ⟨Nat.le_of_ble_eq_true rfl, Nat.le_of_ble_eq_true rfl⟩, zco_V hX hA F hml hNw (zct_X (ctX8_number l D cA)) ⟨⟨zlL_law2_124, zwX8_number.1.1, zwX8_number.1.2⟩, zwX8_number.2⟩ zdX8_number ⟨Nat.le_of_ble_eq_true rfl, Nat.le_of_ble_eq_true rfl⟩ (ci := 8) (by decide) rfl (by rintro av μ K ⟨x, rfl, rfl, -⟩; exact ⟨_, _, rfl, rfl⟩), zco_V hX hA F hml hNw (zct_X (ctX8_thrown l D cA)) ⟨⟨zlL_law2_113, zwX8_thrown.1.1, zwX8_thrown.1.2⟩, zwX8_thrown.2⟩ zdX8_thrown ⟨Nat.le_of_ble_eq_true rfl, Nat.le_of_ble_eq_true rfl⟩ (ci := 8) (by decide) rfl (by rintro av μ K ⟨⟨μ0, x9⟩, rfl, rfl, h9, -⟩; exact ⟨_, _, rfl, congrArg Prod.fst h9.1⟩), trivial⟩
  have hZ := zLw_Z (p := p) (l := l) (e := e) (s := s) (m := m) (below := below) (meth := meth) (c := c) (b := b) (D := D) (cA := cA)
  generalize zLw p l e s m below meth c b D cA = Gl at hS hZ ⊢
  refine hS 400 _ _ _ _ _ ?_
  by_cases hc : 0 ≤ xs 2 ∧ xs 2 < 1
  · have hd := zeq1 hc
    by_cases he : -1000000000 ≤ xs 1 ∧ xs 1 ≤ 1000000000
    · skip
      repeat (conv => whnf
              try dsimp only
              try simp (decide := true) only [zu_same, zu_ne1, zu_ne2, zuL_same, zuL_ne1, zuL_ne2, zrow_n1, zx0, zx1, zx2, zx3, zf_0_13, zf_0_14, zf_0_15, zf_1_3, zf_15_0, zf_16_0, zf_17_10, zf_86_3, zf_90_6, zf_90_7, zf_94_7, zf_100_6, zf_100_7, zf_118_0, zf_118_1, zf_118_2, zf_118_3, zg_119_0, zg_119_5, zg_119_9, zg_119_15, zg_119_19, zg_119_22, zg_119_1, zg_119_16, zg_120_0, zg_120_1, zg_120_2, zg_120_3, zg_121_0, zg_122_0, zg_124_0, zg_126_0, zg_127_0, zg_128_0, zg_129_0, zg_131_0, zg_131_1, zg_131_2, zg_131_3, Nat.reduceAdd, Nat.reduceMul, Int32.reduceAdd, Int32.reduceSub, Int32.reduceMul]
              first
              | refine ⟨vp_inb rfl, ?_⟩
              | refine ⟨fun h => absurd h (of_decide_eq_false rfl), fun _ => ?_⟩
              | refine ⟨fun _ => ?_, fun h => absurd (of_decide_eq_true rfl) h⟩
              | refine ⟨fun _ => ?_, fun h => absurd h (of_decide_eq_false rfl)⟩
              | refine ⟨fun h => absurd (of_decide_eq_true rfl) h, fun _ => ?_⟩
              | refine ⟨of_decide_eq_true rfl, ?_⟩
              | refine ⟨rfl, ?_⟩)
      try (conv => whnf)
      refine ⟨(xs 1, xs 2), rfl, rfl, trivial, ?_⟩
      try dsimp only
      simp only [if_pos hc, if_pos hd, if_pos he]
      rintro _ _ ⟨rfl, σ1, τ1, rfl⟩
      repeat (conv => whnf
              try dsimp only
              try simp (decide := true) only [zu_same, zu_ne1, zu_ne2, zuL_same, zuL_ne1, zuL_ne2, zrow_n1, zx0, zx1, zx2, zx3, zf_0_13, zf_0_14, zf_0_15, zf_1_3, zf_15_0, zf_16_0, zf_17_10, zf_86_3, zf_90_6, zf_90_7, zf_94_7, zf_100_6, zf_100_7, zf_118_0, zf_118_1, zf_118_2, zf_118_3, zg_119_0, zg_119_5, zg_119_9, zg_119_15, zg_119_19, zg_119_22, zg_119_1, zg_119_16, zg_120_0, zg_120_1, zg_120_2, zg_120_3, zg_121_0, zg_122_0, zg_124_0, zg_126_0, zg_127_0, zg_128_0, zg_129_0, zg_131_0, zg_131_1, zg_131_2, zg_131_3, Nat.reduceAdd, Nat.reduceMul, Int32.reduceAdd, Int32.reduceSub, Int32.reduceMul]
              first
              | refine ⟨vp_inb rfl, ?_⟩
              | refine ⟨fun h => absurd h (of_decide_eq_false rfl), fun _ => ?_⟩
              | refine ⟨fun _ => ?_, fun h => absurd (of_decide_eq_true rfl) h⟩
              | refine ⟨fun _ => ?_, fun h => absurd h (of_decide_eq_false rfl)⟩
              | refine ⟨fun h => absurd (of_decide_eq_true rfl) h, fun _ => ?_⟩
              | refine ⟨of_decide_eq_true rfl, ?_⟩
              | refine ⟨rfl, ?_⟩)
      try (conv => whnf)
      refine ⟨(xs 1, xs 2, σ1, τ1, 0), rfl, rfl, trivial, ?_⟩
      try dsimp only
      simp only [if_pos hc, if_pos hd, if_pos he]
      rintro _ μ2 ⟨rfl, h1, h2, h3, h4⟩
      repeat (first
        | (conv => whnf
           try dsimp only
           try simp (decide := true) only [h1, h2, h3, h4, zu_same, zu_ne1, zu_ne2, zuL_same, zuL_ne1, zuL_ne2, zrow_n1, zx0, zx1, zx2, zx3, zf_0_13, zf_0_14, zf_0_15, zf_1_3, zf_15_0, zf_16_0, zf_17_10, zf_86_3, zf_90_6, zf_90_7, zf_94_7, zf_100_6, zf_100_7, zf_118_0, zf_118_1, zf_118_2, zf_118_3, zg_119_0, zg_119_5, zg_119_9, zg_119_15, zg_119_19, zg_119_22, zg_119_1, zg_119_16, zg_120_0, zg_120_1, zg_120_2, zg_120_3, zg_121_0, zg_122_0, zg_124_0, zg_126_0, zg_127_0, zg_128_0, zg_129_0, zg_131_0, zg_131_1, zg_131_2, zg_131_3, Nat.reduceAdd, Nat.reduceMul, Int32.reduceAdd, Int32.reduceSub, Int32.reduceMul]
           first
           | refine ⟨vp_inb rfl, ?_⟩
           | refine ⟨fun h => absurd h (of_decide_eq_false rfl), fun _ => ?_⟩
           | refine ⟨fun _ => ?_, fun h => absurd (of_decide_eq_true rfl) h⟩
           | refine ⟨fun _ => ?_, fun h => absurd h (of_decide_eq_false rfl)⟩
           | refine ⟨fun h => absurd (of_decide_eq_true rfl) h, fun _ => ?_⟩
           | refine ⟨of_decide_eq_true rfl, ?_⟩
           | refine ⟨rfl, ?_⟩)
        | (conv => whnf
           fail_if_success refine Exists.intro ?_ ?_
           simp only [h1, h2, h3, h4]))
      try (conv => whnf)
      refine ⟨(μ2, ()), rfl, rfl, ⟨h1, trivial⟩, ?_⟩
      try dsimp only
      repeat (first
        | (conv => whnf
           try dsimp only
           try simp (decide := true) only [h1, h2, h3, h4, zu_same, zu_ne1, zu_ne2, zuL_same, zuL_ne1, zuL_ne2, zrow_n1, zx0, zx1, zx2, zx3, zf_0_13, zf_0_14, zf_0_15, zf_1_3, zf_15_0, zf_16_0, zf_17_10, zf_86_3, zf_90_6, zf_90_7, zf_94_7, zf_100_6, zf_100_7, zf_118_0, zf_118_1, zf_118_2, zf_118_3, zg_119_0, zg_119_5, zg_119_9, zg_119_15, zg_119_19, zg_119_22, zg_119_1, zg_119_16, zg_120_0, zg_120_1, zg_120_2, zg_120_3, zg_121_0, zg_122_0, zg_124_0, zg_126_0, zg_127_0, zg_128_0, zg_129_0, zg_131_0, zg_131_1, zg_131_2, zg_131_3, Nat.reduceAdd, Nat.reduceMul, Int32.reduceAdd, Int32.reduceSub, Int32.reduceMul]
           first
           | refine ⟨vp_inb rfl, ?_⟩
           | refine ⟨fun h => absurd h (of_decide_eq_false rfl), fun _ => ?_⟩
           | refine ⟨fun _ => ?_, fun h => absurd (of_decide_eq_true rfl) h⟩
           | refine ⟨fun _ => ?_, fun h => absurd h (of_decide_eq_false rfl)⟩
           | refine ⟨fun h => absurd (of_decide_eq_true rfl) h, fun _ => ?_⟩
           | refine ⟨of_decide_eq_true rfl, ?_⟩
           | refine ⟨rfl, ?_⟩)
        | (conv => whnf
           fail_if_success refine Exists.intro ?_ ?_
           simp only [h1, h2, h3, h4]))
      try (conv => whnf)
      refine hZ _ _ _ _ _ ?_
      refine hS 40 _ _ _ _ _ ?_
      repeat (conv => whnf
              try dsimp only
              try simp (decide := true) only [zu_same, zu_ne1, zu_ne2, zuL_same, zuL_ne1, zuL_ne2, zrow_n1, zx0, zx1, zx2, zx3, zf_0_13, zf_0_14, zf_0_15, zf_1_3, zf_15_0, zf_16_0, zf_17_10, zf_86_3, zf_90_6, zf_90_7, zf_94_7, zf_100_6, zf_100_7, zf_118_0, zf_118_1, zf_118_2, zf_118_3, zg_119_0, zg_119_5, zg_119_9, zg_119_15, zg_119_19, zg_119_22, zg_119_1, zg_119_16, zg_120_0, zg_120_1, zg_120_2, zg_120_3, zg_121_0, zg_122_0, zg_124_0, zg_126_0, zg_127_0, zg_128_0, zg_129_0, zg_131_0, zg_131_1, zg_131_2, zg_131_3, Nat.reduceAdd, Nat.reduceMul, Int32.reduceAdd, Int32.reduceSub, Int32.reduceMul]
              first
              | refine ⟨vp_inb rfl, ?_⟩
              | refine ⟨fun h => absurd h (of_decide_eq_false rfl), fun _ => ?_⟩
              | refine ⟨fun _ => ?_, fun h => absurd (of_decide_eq_true rfl) h⟩
              | refine ⟨fun _ => ?_, fun h => absurd h (of_decide_eq_false rfl)⟩
              | refine ⟨fun h => absurd (of_decide_eq_true rfl) h, fun _ => ?_⟩
              | refine ⟨of_decide_eq_true rfl, ?_⟩
              | refine ⟨rfl, ?_⟩)
      try (conv => whnf)
      first | exact rfl | exact ⟨rfl, rfl⟩
    · skip
      repeat (conv => whnf
              try dsimp only
              try simp (decide := true) only [zu_same, zu_ne1, zu_ne2, zuL_same, zuL_ne1, zuL_ne2, zrow_n1, zx0, zx1, zx2, zx3, zf_0_13, zf_0_14, zf_0_15, zf_1_3, zf_15_0, zf_16_0, zf_17_10, zf_86_3, zf_90_6, zf_90_7, zf_94_7, zf_100_6, zf_100_7, zf_118_0, zf_118_1, zf_118_2, zf_118_3, zg_119_0, zg_119_5, zg_119_9, zg_119_15, zg_119_19, zg_119_22, zg_119_1, zg_119_16, zg_120_0, zg_120_1, zg_120_2, zg_120_3, zg_121_0, zg_122_0, zg_124_0, zg_126_0, zg_127_0, zg_128_0, zg_129_0, zg_131_0, zg_131_1, zg_131_2, zg_131_3, Nat.reduceAdd, Nat.reduceMul, Int32.reduceAdd, Int32.reduceSub, Int32.reduceMul]
              first
              | refine ⟨vp_inb rfl, ?_⟩
              | refine ⟨fun h => absurd h (of_decide_eq_false rfl), fun _ => ?_⟩
              | refine ⟨fun _ => ?_, fun h => absurd (of_decide_eq_true rfl) h⟩
              | refine ⟨fun _ => ?_, fun h => absurd h (of_decide_eq_false rfl)⟩
              | refine ⟨fun h => absurd (of_decide_eq_true rfl) h, fun _ => ?_⟩
              | refine ⟨of_decide_eq_true rfl, ?_⟩
              | refine ⟨rfl, ?_⟩)
      try (conv => whnf)
      refine ⟨(xs 1, xs 2), rfl, rfl, trivial, ?_⟩
      try dsimp only
      simp only [if_pos hc, if_pos hd, if_neg he]
      rintro _ _ ⟨rfl, σ1, τ1, rfl⟩
      repeat (conv => whnf
              try dsimp only
              try simp (decide := true) only [zu_same, zu_ne1, zu_ne2, zuL_same, zuL_ne1, zuL_ne2, zrow_n1, zx0, zx1, zx2, zx3, zf_0_13, zf_0_14, zf_0_15, zf_1_3, zf_15_0, zf_16_0, zf_17_10, zf_86_3, zf_90_6, zf_90_7, zf_94_7, zf_100_6, zf_100_7, zf_118_0, zf_118_1, zf_118_2, zf_118_3, zg_119_0, zg_119_5, zg_119_9, zg_119_15, zg_119_19, zg_119_22, zg_119_1, zg_119_16, zg_120_0, zg_120_1, zg_120_2, zg_120_3, zg_121_0, zg_122_0, zg_124_0, zg_126_0, zg_127_0, zg_128_0, zg_129_0, zg_131_0, zg_131_1, zg_131_2, zg_131_3, Nat.reduceAdd, Nat.reduceMul, Int32.reduceAdd, Int32.reduceSub, Int32.reduceMul]
              first
              | refine ⟨vp_inb rfl, ?_⟩
              | refine ⟨fun h => absurd h (of_decide_eq_false rfl), fun _ => ?_⟩
              | refine ⟨fun _ => ?_, fun h => absurd (of_decide_eq_true rfl) h⟩
              | refine ⟨fun _ => ?_, fun h => absurd h (of_decide_eq_false rfl)⟩
              | refine ⟨fun h => absurd (of_decide_eq_true rfl) h, fun _ => ?_⟩
              | refine ⟨of_decide_eq_true rfl, ?_⟩
              | refine ⟨rfl, ?_⟩)
      try (conv => whnf)
      refine ⟨(xs 1, xs 2, σ1, τ1, 0), rfl, rfl, trivial, ?_⟩
      try dsimp only
      simp only [if_pos hc, if_pos hd, if_neg he]
      rintro _ μ2 ⟨rfl, h1, h2, h3, h4⟩
      repeat (first
        | (conv => whnf
           try dsimp only
           try simp (decide := true) only [h1, h2, h3, h4, zu_same, zu_ne1, zu_ne2, zuL_same, zuL_ne1, zuL_ne2, zrow_n1, zx0, zx1, zx2, zx3, zf_0_13, zf_0_14, zf_0_15, zf_1_3, zf_15_0, zf_16_0, zf_17_10, zf_86_3, zf_90_6, zf_90_7, zf_94_7, zf_100_6, zf_100_7, zf_118_0, zf_118_1, zf_118_2, zf_118_3, zg_119_0, zg_119_5, zg_119_9, zg_119_15, zg_119_19, zg_119_22, zg_119_1, zg_119_16, zg_120_0, zg_120_1, zg_120_2, zg_120_3, zg_121_0, zg_122_0, zg_124_0, zg_126_0, zg_127_0, zg_128_0, zg_129_0, zg_131_0, zg_131_1, zg_131_2, zg_131_3, Nat.reduceAdd, Nat.reduceMul, Int32.reduceAdd, Int32.reduceSub, Int32.reduceMul]
           first
           | refine ⟨vp_inb rfl, ?_⟩
           | refine ⟨fun h => absurd h (of_decide_eq_false rfl), fun _ => ?_⟩
           | refine ⟨fun _ => ?_, fun h => absurd (of_decide_eq_true rfl) h⟩
           | refine ⟨fun _ => ?_, fun h => absurd h (of_decide_eq_false rfl)⟩
           | refine ⟨fun h => absurd (of_decide_eq_true rfl) h, fun _ => ?_⟩
           | refine ⟨of_decide_eq_true rfl, ?_⟩
           | refine ⟨rfl, ?_⟩)
        | (conv => whnf
           fail_if_success refine Exists.intro ?_ ?_
           simp only [h1, h2, h3, h4]))
      try (conv => whnf)
      refine ⟨(μ2, ()), rfl, rfl, ⟨h1, trivial⟩, ?_⟩
      try dsimp only
      repeat (first
        | (conv => whnf
           try dsimp only
           try simp (decide := true) only [h1, h2, h3, h4, zu_same, zu_ne1, zu_ne2, zuL_same, zuL_ne1, zuL_ne2, zrow_n1, zx0, zx1, zx2, zx3, zf_0_13, zf_0_14, zf_0_15, zf_1_3, zf_15_0, zf_16_0, zf_17_10, zf_86_3, zf_90_6, zf_90_7, zf_94_7, zf_100_6, zf_100_7, zf_118_0, zf_118_1, zf_118_2, zf_118_3, zg_119_0, zg_119_5, zg_119_9, zg_119_15, zg_119_19, zg_119_22, zg_119_1, zg_119_16, zg_120_0, zg_120_1, zg_120_2, zg_120_3, zg_121_0, zg_122_0, zg_124_0, zg_126_0, zg_127_0, zg_128_0, zg_129_0, zg_131_0, zg_131_1, zg_131_2, zg_131_3, Nat.reduceAdd, Nat.reduceMul, Int32.reduceAdd, Int32.reduceSub, Int32.reduceMul]
           first
           | refine ⟨vp_inb rfl, ?_⟩
           | refine ⟨fun h => absurd h (of_decide_eq_false rfl), fun _ => ?_⟩
           | refine ⟨fun _ => ?_, fun h => absurd (of_decide_eq_true rfl) h⟩
           | refine ⟨fun _ => ?_, fun h => absurd h (of_decide_eq_false rfl)⟩
           | refine ⟨fun h => absurd (of_decide_eq_true rfl) h, fun _ => ?_⟩
           | refine ⟨of_decide_eq_true rfl, ?_⟩
           | refine ⟨rfl, ?_⟩)
        | (conv => whnf
           fail_if_success refine Exists.intro ?_ ?_
           simp only [h1, h2, h3, h4]))
      try (conv => whnf)
      refine hZ _ _ _ _ _ ?_
      refine hS 40 _ _ _ _ _ ?_
      repeat (conv => whnf
              try dsimp only
              try simp (decide := true) only [zu_same, zu_ne1, zu_ne2, zuL_same, zuL_ne1, zuL_ne2, zrow_n1, zx0, zx1, zx2, zx3, zf_0_13, zf_0_14, zf_0_15, zf_1_3, zf_15_0, zf_16_0, zf_17_10, zf_86_3, zf_90_6, zf_90_7, zf_94_7, zf_100_6, zf_100_7, zf_118_0, zf_118_1, zf_118_2, zf_118_3, zg_119_0, zg_119_5, zg_119_9, zg_119_15, zg_119_19, zg_119_22, zg_119_1, zg_119_16, zg_120_0, zg_120_1, zg_120_2, zg_120_3, zg_121_0, zg_122_0, zg_124_0, zg_126_0, zg_127_0, zg_128_0, zg_129_0, zg_131_0, zg_131_1, zg_131_2, zg_131_3, Nat.reduceAdd, Nat.reduceMul, Int32.reduceAdd, Int32.reduceSub, Int32.reduceMul]
              first
              | refine ⟨vp_inb rfl, ?_⟩
              | refine ⟨fun h => absurd h (of_decide_eq_false rfl), fun _ => ?_⟩
              | refine ⟨fun _ => ?_, fun h => absurd (of_decide_eq_true rfl) h⟩
              | refine ⟨fun _ => ?_, fun h => absurd h (of_decide_eq_false rfl)⟩
              | refine ⟨fun h => absurd (of_decide_eq_true rfl) h, fun _ => ?_⟩
              | refine ⟨of_decide_eq_true rfl, ?_⟩
              | refine ⟨rfl, ?_⟩)
      try (conv => whnf)
      first | exact rfl | exact ⟨rfl, rfl⟩
  · have hd := zeq1n hc
    repeat (conv => whnf
            try dsimp only
            try simp (decide := true) only [zu_same, zu_ne1, zu_ne2, zuL_same, zuL_ne1, zuL_ne2, zrow_n1, zx0, zx1, zx2, zx3, zf_0_13, zf_0_14, zf_0_15, zf_1_3, zf_15_0, zf_16_0, zf_17_10, zf_86_3, zf_90_6, zf_90_7, zf_94_7, zf_100_6, zf_100_7, zf_118_0, zf_118_1, zf_118_2, zf_118_3, zg_119_0, zg_119_5, zg_119_9, zg_119_15, zg_119_19, zg_119_22, zg_119_1, zg_119_16, zg_120_0, zg_120_1, zg_120_2, zg_120_3, zg_121_0, zg_122_0, zg_124_0, zg_126_0, zg_127_0, zg_128_0, zg_129_0, zg_131_0, zg_131_1, zg_131_2, zg_131_3, Nat.reduceAdd, Nat.reduceMul, Int32.reduceAdd, Int32.reduceSub, Int32.reduceMul]
            first
            | refine ⟨vp_inb rfl, ?_⟩
            | refine ⟨fun h => absurd h (of_decide_eq_false rfl), fun _ => ?_⟩
            | refine ⟨fun _ => ?_, fun h => absurd (of_decide_eq_true rfl) h⟩
            | refine ⟨fun _ => ?_, fun h => absurd h (of_decide_eq_false rfl)⟩
            | refine ⟨fun h => absurd (of_decide_eq_true rfl) h, fun _ => ?_⟩
            | refine ⟨of_decide_eq_true rfl, ?_⟩
            | refine ⟨rfl, ?_⟩)
    try (conv => whnf)
    refine ⟨(xs 1, xs 2), rfl, rfl, trivial, ?_⟩
    try dsimp only
    simp only [if_neg hc, if_neg hd]
    rintro _ _ ⟨rfl, σ1, τ1, rfl⟩
    repeat (conv => whnf
            try dsimp only
            try simp (decide := true) only [zu_same, zu_ne1, zu_ne2, zuL_same, zuL_ne1, zuL_ne2, zrow_n1, zx0, zx1, zx2, zx3, zf_0_13, zf_0_14, zf_0_15, zf_1_3, zf_15_0, zf_16_0, zf_17_10, zf_86_3, zf_90_6, zf_90_7, zf_94_7, zf_100_6, zf_100_7, zf_118_0, zf_118_1, zf_118_2, zf_118_3, zg_119_0, zg_119_5, zg_119_9, zg_119_15, zg_119_19, zg_119_22, zg_119_1, zg_119_16, zg_120_0, zg_120_1, zg_120_2, zg_120_3, zg_121_0, zg_122_0, zg_124_0, zg_126_0, zg_127_0, zg_128_0, zg_129_0, zg_131_0, zg_131_1, zg_131_2, zg_131_3, Nat.reduceAdd, Nat.reduceMul, Int32.reduceAdd, Int32.reduceSub, Int32.reduceMul]
            first
            | refine ⟨vp_inb rfl, ?_⟩
            | refine ⟨fun h => absurd h (of_decide_eq_false rfl), fun _ => ?_⟩
            | refine ⟨fun _ => ?_, fun h => absurd (of_decide_eq_true rfl) h⟩
            | refine ⟨fun _ => ?_, fun h => absurd h (of_decide_eq_false rfl)⟩
            | refine ⟨fun h => absurd (of_decide_eq_true rfl) h, fun _ => ?_⟩
            | refine ⟨of_decide_eq_true rfl, ?_⟩
            | refine ⟨rfl, ?_⟩)
    try (conv => whnf)
    refine ⟨(xs 1, xs 2, σ1, τ1, 0), rfl, rfl, trivial, ?_⟩
    try dsimp only
    simp only [if_neg hc, if_neg hd]
    rintro _ μ2 ⟨rfl, h1, h2, h3, h4⟩
    repeat (first
      | (conv => whnf
         try dsimp only
         try simp (decide := true) only [h1, h2, h3, h4, zu_same, zu_ne1, zu_ne2, zuL_same, zuL_ne1, zuL_ne2, zrow_n1, zx0, zx1, zx2, zx3, zf_0_13, zf_0_14, zf_0_15, zf_1_3, zf_15_0, zf_16_0, zf_17_10, zf_86_3, zf_90_6, zf_90_7, zf_94_7, zf_100_6, zf_100_7, zf_118_0, zf_118_1, zf_118_2, zf_118_3, zg_119_0, zg_119_5, zg_119_9, zg_119_15, zg_119_19, zg_119_22, zg_119_1, zg_119_16, zg_120_0, zg_120_1, zg_120_2, zg_120_3, zg_121_0, zg_122_0, zg_124_0, zg_126_0, zg_127_0, zg_128_0, zg_129_0, zg_131_0, zg_131_1, zg_131_2, zg_131_3, Nat.reduceAdd, Nat.reduceMul, Int32.reduceAdd, Int32.reduceSub, Int32.reduceMul]
         first
         | refine ⟨vp_inb rfl, ?_⟩
         | refine ⟨fun h => absurd h (of_decide_eq_false rfl), fun _ => ?_⟩
         | refine ⟨fun _ => ?_, fun h => absurd (of_decide_eq_true rfl) h⟩
         | refine ⟨fun _ => ?_, fun h => absurd h (of_decide_eq_false rfl)⟩
         | refine ⟨fun h => absurd (of_decide_eq_true rfl) h, fun _ => ?_⟩
         | refine ⟨of_decide_eq_true rfl, ?_⟩
         | refine ⟨rfl, ?_⟩)
      | (conv => whnf
         fail_if_success refine Exists.intro ?_ ?_
         simp only [h1, h2, h3, h4]))
    try (conv => whnf)
    refine ⟨(μ2, ()), rfl, rfl, ⟨h1, trivial⟩, ?_⟩
    try dsimp only
    repeat (first
      | (conv => whnf
         try dsimp only
         try simp (decide := true) only [h1, h2, h3, h4, zu_same, zu_ne1, zu_ne2, zuL_same, zuL_ne1, zuL_ne2, zrow_n1, zx0, zx1, zx2, zx3, zf_0_13, zf_0_14, zf_0_15, zf_1_3, zf_15_0, zf_16_0, zf_17_10, zf_86_3, zf_90_6, zf_90_7, zf_94_7, zf_100_6, zf_100_7, zf_118_0, zf_118_1, zf_118_2, zf_118_3, zg_119_0, zg_119_5, zg_119_9, zg_119_15, zg_119_19, zg_119_22, zg_119_1, zg_119_16, zg_120_0, zg_120_1, zg_120_2, zg_120_3, zg_121_0, zg_122_0, zg_124_0, zg_126_0, zg_127_0, zg_128_0, zg_129_0, zg_131_0, zg_131_1, zg_131_2, zg_131_3, Nat.reduceAdd, Nat.reduceMul, Int32.reduceAdd, Int32.reduceSub, Int32.reduceMul]
         first
         | refine ⟨vp_inb rfl, ?_⟩
         | refine ⟨fun h => absurd h (of_decide_eq_false rfl), fun _ => ?_⟩
         | refine ⟨fun _ => ?_, fun h => absurd (of_decide_eq_true rfl) h⟩
         | refine ⟨fun _ => ?_, fun h => absurd h (of_decide_eq_false rfl)⟩
         | refine ⟨fun h => absurd (of_decide_eq_true rfl) h, fun _ => ?_⟩
         | refine ⟨of_decide_eq_true rfl, ?_⟩
         | refine ⟨rfl, ?_⟩)
      | (conv => whnf
         fail_if_success refine Exists.intro ?_ ?_
         simp only [h1, h2, h3, h4]))
    try (conv => whnf)
    refine hZ _ _ _ _ _ ?_
    refine hS 40 _ _ _ _ _ ?_
    repeat (conv => whnf
            try dsimp only
            try simp (decide := true) only [zu_same, zu_ne1, zu_ne2, zuL_same, zuL_ne1, zuL_ne2, zrow_n1, zx0, zx1, zx2, zx3, zf_0_13, zf_0_14, zf_0_15, zf_1_3, zf_15_0, zf_16_0, zf_17_10, zf_86_3, zf_90_6, zf_90_7, zf_94_7, zf_100_6, zf_100_7, zf_118_0, zf_118_1, zf_118_2, zf_118_3, zg_119_0, zg_119_5, zg_119_9, zg_119_15, zg_119_19, zg_119_22, zg_119_1, zg_119_16, zg_120_0, zg_120_1, zg_120_2, zg_120_3, zg_121_0, zg_122_0, zg_124_0, zg_126_0, zg_127_0, zg_128_0, zg_129_0, zg_131_0, zg_131_1, zg_131_2, zg_131_3, Nat.reduceAdd, Nat.reduceMul, Int32.reduceAdd, Int32.reduceSub, Int32.reduceMul]
            first
            | refine ⟨vp_inb rfl, ?_⟩
            | refine ⟨fun h => absurd h (of_decide_eq_false rfl), fun _ => ?_⟩
            | refine ⟨fun _ => ?_, fun h => absurd (of_decide_eq_true rfl) h⟩
            | refine ⟨fun _ => ?_, fun h => absurd h (of_decide_eq_false rfl)⟩
            | refine ⟨fun h => absurd (of_decide_eq_true rfl) h, fun _ => ?_⟩
            | refine ⟨of_decide_eq_true rfl, ?_⟩
            | refine ⟨rfl, ?_⟩)
    try (conv => whnf)
    first | exact rfl | exact ⟨rfl, rfl⟩
set_option maxRecDepth 100000 in
set_option maxHeartbeats 4000000 in
theorem zlc3 {p : Program} {e : Env} {s : State} {m : MethodId} {below : List Frame} {meth : Method} {c : Code} (l : Launch) (hlt : l.stackTraces = false) {b : Nat} {xs : Nat → Int32} {D : va_G} {cA : Nat → ClassId} (F9 : zLf p s m meth c b 7 xs D cA) : zLw p l e s m below meth c b D cA 442 zl0 [] (234, 11049) (145, zSH, zRH, zs0, zt0) := by
  obtain ⟨F, hml, hNw, hX, -, -, -⟩ := id F9
  have hA : ∀ q : Nat, s.heap.size ≤ q → (fun q => s.heap.size ≤ q) q := fun _ h => h
  have hS := zlaw_step (l := l) (e := e) (below := below) F9 (zCL_law3 [(125, 1, 3, spL_of, rmL_of.cells, rmL_of.slots), (127, 0, 1, spX8_of, rmX8_of.cells, rmX8_of.slots), (113, 0, 0, spX8_thrown, rmX8_thrown.cells, rmX8_thrown.slots)]) (zscr xs) zpL_law3 [2219] zkL_law3 ⟨by decide +kernel, by decide +kernel, by decide +kernel, by decide +kernel⟩ rfl rfl zscr_sc zscr_sl ⟨zco_SW hX hA F hml hNw (zctW_X (ctL_of l hlt D cA)) ⟨⟨zlL_law3_125, zwL_of.1⟩, zwL_of.2⟩ zdL_of ⟨Nat.le_of_ble_eq_true rfl, Nat.le_of_ble_eq_true rfl⟩, zco_V hX hA F hml hNw (zct_X (ctX8_of l D cA)) ⟨⟨zlL_law3_127, zwX8_of.1.1, zwX8_of.1.2⟩, zwX8_of.2⟩ zdX8_of ⟨Nat.le_of_ble_eq_true rfl, Nat.le_of_ble_eq_true rfl⟩ (ci := 8) (by decide) rfl (by rintro av μ K ⟨x, rfl, rfl, -⟩; exact ⟨_, _, rfl, rfl⟩), zco_V hX hA F hml hNw (zct_X (ctX8_thrown l D cA)) ⟨⟨zlL_law3_113, zwX8_thrown.1.1, zwX8_thrown.1.2⟩, zwX8_thrown.2⟩ zdX8_thrown ⟨Nat.le_of_ble_eq_true rfl, Nat.le_of_ble_eq_true rfl⟩ (ci := 8) (by decide) rfl (by rintro av μ K ⟨⟨μ0, x9⟩, rfl, rfl, h9, -⟩; exact ⟨_, _, rfl, congrArg Prod.fst h9.1⟩), trivial⟩
  have hZ := zLw_Z (p := p) (l := l) (e := e) (s := s) (m := m) (below := below) (meth := meth) (c := c) (b := b) (D := D) (cA := cA)
  generalize zLw p l e s m below meth c b D cA = Gl at hS hZ ⊢
  refine hS 400 _ _ _ _ _ ?_
  repeat (conv => whnf
          try dsimp only
          try simp (decide := true) only [zu_same, zu_ne1, zu_ne2, zuL_same, zuL_ne1, zuL_ne2, zrow_n1, zx0, zx1, zx2, zx3, zf_0_13, zf_0_14, zf_0_15, zf_1_3, zf_15_0, zf_16_0, zf_17_10, zf_86_3, zf_90_6, zf_90_7, zf_94_7, zf_100_6, zf_100_7, zf_118_0, zf_118_1, zf_118_2, zf_118_3, zg_119_0, zg_119_5, zg_119_9, zg_119_15, zg_119_19, zg_119_22, zg_119_1, zg_119_16, zg_120_0, zg_120_1, zg_120_2, zg_120_3, zg_121_0, zg_122_0, zg_124_0, zg_126_0, zg_127_0, zg_128_0, zg_129_0, zg_131_0, zg_131_1, zg_131_2, zg_131_3, Nat.reduceAdd, Nat.reduceMul, Int32.reduceAdd, Int32.reduceSub, Int32.reduceMul]
          first
          | refine ⟨vp_inb rfl, ?_⟩
          | refine ⟨fun h => absurd h (of_decide_eq_false rfl), fun _ => ?_⟩
          | refine ⟨fun _ => ?_, fun h => absurd (of_decide_eq_true rfl) h⟩
          | refine ⟨fun _ => ?_, fun h => absurd h (of_decide_eq_false rfl)⟩
          | refine ⟨fun h => absurd (of_decide_eq_true rfl) h, fun _ => ?_⟩
          | refine ⟨of_decide_eq_true rfl, ?_⟩
          | refine ⟨rfl, ?_⟩)
  try (conv => whnf)
  refine ⟨xs 1, rfl, rfl, trivial, ?_⟩
  try dsimp only
  rintro _ _ ⟨rfl, σ1, τ1, rfl⟩
  repeat (conv => whnf
          try dsimp only
          try simp (decide := true) only [zu_same, zu_ne1, zu_ne2, zuL_same, zuL_ne1, zuL_ne2, zrow_n1, zx0, zx1, zx2, zx3, zf_0_13, zf_0_14, zf_0_15, zf_1_3, zf_15_0, zf_16_0, zf_17_10, zf_86_3, zf_90_6, zf_90_7, zf_94_7, zf_100_6, zf_100_7, zf_118_0, zf_118_1, zf_118_2, zf_118_3, zg_119_0, zg_119_5, zg_119_9, zg_119_15, zg_119_19, zg_119_22, zg_119_1, zg_119_16, zg_120_0, zg_120_1, zg_120_2, zg_120_3, zg_121_0, zg_122_0, zg_124_0, zg_126_0, zg_127_0, zg_128_0, zg_129_0, zg_131_0, zg_131_1, zg_131_2, zg_131_3, Nat.reduceAdd, Nat.reduceMul, Int32.reduceAdd, Int32.reduceSub, Int32.reduceMul]
          first
          | refine ⟨vp_inb rfl, ?_⟩
          | refine ⟨fun h => absurd h (of_decide_eq_false rfl), fun _ => ?_⟩
          | refine ⟨fun _ => ?_, fun h => absurd (of_decide_eq_true rfl) h⟩
          | refine ⟨fun _ => ?_, fun h => absurd h (of_decide_eq_false rfl)⟩
          | refine ⟨fun h => absurd (of_decide_eq_true rfl) h, fun _ => ?_⟩
          | refine ⟨of_decide_eq_true rfl, ?_⟩
          | refine ⟨rfl, ?_⟩)
  try (conv => whnf)
  refine ⟨(xs 1, σ1, τ1, 0), rfl, rfl, trivial, ?_⟩
  try dsimp only
  rintro _ μ2 ⟨rfl, h1, h2, h3, h4⟩
  repeat (first
    | (conv => whnf
       try dsimp only
       try simp (decide := true) only [h1, h2, h3, h4, zu_same, zu_ne1, zu_ne2, zuL_same, zuL_ne1, zuL_ne2, zrow_n1, zx0, zx1, zx2, zx3, zf_0_13, zf_0_14, zf_0_15, zf_1_3, zf_15_0, zf_16_0, zf_17_10, zf_86_3, zf_90_6, zf_90_7, zf_94_7, zf_100_6, zf_100_7, zf_118_0, zf_118_1, zf_118_2, zf_118_3, zg_119_0, zg_119_5, zg_119_9, zg_119_15, zg_119_19, zg_119_22, zg_119_1, zg_119_16, zg_120_0, zg_120_1, zg_120_2, zg_120_3, zg_121_0, zg_122_0, zg_124_0, zg_126_0, zg_127_0, zg_128_0, zg_129_0, zg_131_0, zg_131_1, zg_131_2, zg_131_3, Nat.reduceAdd, Nat.reduceMul, Int32.reduceAdd, Int32.reduceSub, Int32.reduceMul]
       first
       | refine ⟨vp_inb rfl, ?_⟩
       | refine ⟨fun h => absurd h (of_decide_eq_false rfl), fun _ => ?_⟩
       | refine ⟨fun _ => ?_, fun h => absurd (of_decide_eq_true rfl) h⟩
       | refine ⟨fun _ => ?_, fun h => absurd h (of_decide_eq_false rfl)⟩
       | refine ⟨fun h => absurd (of_decide_eq_true rfl) h, fun _ => ?_⟩
       | refine ⟨of_decide_eq_true rfl, ?_⟩
       | refine ⟨rfl, ?_⟩)
    | (conv => whnf
       fail_if_success refine Exists.intro ?_ ?_
       simp only [h1, h2, h3, h4]))
  try (conv => whnf)
  refine ⟨(μ2, ()), rfl, rfl, ⟨h1, trivial⟩, ?_⟩
  try dsimp only
  repeat (first
    | (conv => whnf
       try dsimp only
       try simp (decide := true) only [h1, h2, h3, h4, zu_same, zu_ne1, zu_ne2, zuL_same, zuL_ne1, zuL_ne2, zrow_n1, zx0, zx1, zx2, zx3, zf_0_13, zf_0_14, zf_0_15, zf_1_3, zf_15_0, zf_16_0, zf_17_10, zf_86_3, zf_90_6, zf_90_7, zf_94_7, zf_100_6, zf_100_7, zf_118_0, zf_118_1, zf_118_2, zf_118_3, zg_119_0, zg_119_5, zg_119_9, zg_119_15, zg_119_19, zg_119_22, zg_119_1, zg_119_16, zg_120_0, zg_120_1, zg_120_2, zg_120_3, zg_121_0, zg_122_0, zg_124_0, zg_126_0, zg_127_0, zg_128_0, zg_129_0, zg_131_0, zg_131_1, zg_131_2, zg_131_3, Nat.reduceAdd, Nat.reduceMul, Int32.reduceAdd, Int32.reduceSub, Int32.reduceMul]
       first
       | refine ⟨vp_inb rfl, ?_⟩
       | refine ⟨fun h => absurd h (of_decide_eq_false rfl), fun _ => ?_⟩
       | refine ⟨fun _ => ?_, fun h => absurd (of_decide_eq_true rfl) h⟩
       | refine ⟨fun _ => ?_, fun h => absurd h (of_decide_eq_false rfl)⟩
       | refine ⟨fun h => absurd (of_decide_eq_true rfl) h, fun _ => ?_⟩
       | refine ⟨of_decide_eq_true rfl, ?_⟩
       | refine ⟨rfl, ?_⟩)
    | (conv => whnf
       fail_if_success refine Exists.intro ?_ ?_
       simp only [h1, h2, h3, h4]))
  try (conv => whnf)
  refine hZ _ _ _ _ _ ?_
  refine hS 40 _ _ _ _ _ ?_
  repeat (conv => whnf
          try dsimp only
          try simp (decide := true) only [zu_same, zu_ne1, zu_ne2, zuL_same, zuL_ne1, zuL_ne2, zrow_n1, zx0, zx1, zx2, zx3, zf_0_13, zf_0_14, zf_0_15, zf_1_3, zf_15_0, zf_16_0, zf_17_10, zf_86_3, zf_90_6, zf_90_7, zf_94_7, zf_100_6, zf_100_7, zf_118_0, zf_118_1, zf_118_2, zf_118_3, zg_119_0, zg_119_5, zg_119_9, zg_119_15, zg_119_19, zg_119_22, zg_119_1, zg_119_16, zg_120_0, zg_120_1, zg_120_2, zg_120_3, zg_121_0, zg_122_0, zg_124_0, zg_126_0, zg_127_0, zg_128_0, zg_129_0, zg_131_0, zg_131_1, zg_131_2, zg_131_3, Nat.reduceAdd, Nat.reduceMul, Int32.reduceAdd, Int32.reduceSub, Int32.reduceMul]
          first
          | refine ⟨vp_inb rfl, ?_⟩
          | refine ⟨fun h => absurd h (of_decide_eq_false rfl), fun _ => ?_⟩
          | refine ⟨fun _ => ?_, fun h => absurd (of_decide_eq_true rfl) h⟩
          | refine ⟨fun _ => ?_, fun h => absurd h (of_decide_eq_false rfl)⟩
          | refine ⟨fun h => absurd (of_decide_eq_true rfl) h, fun _ => ?_⟩
          | refine ⟨of_decide_eq_true rfl, ?_⟩
          | refine ⟨rfl, ?_⟩)
  try (conv => whnf)
  first | exact rfl | exact ⟨rfl, rfl⟩
set_option maxRecDepth 100000 in
set_option maxHeartbeats 4000000 in
theorem zlc4 {p : Program} {e : Env} {s : State} {m : MethodId} {below : List Frame} {meth : Method} {c : Code} (l : Launch) (hlt : l.stackTraces = false) {b : Nat} {xs : Nat → Int32} {D : va_G} {cA : Nat → ClassId} (F9 : zLf p s m meth c b 7 xs D cA) : zLw p l e s m below meth c b D cA 498 zl0 [] (234, 11049) (145, zSH, zRH, zs0, zt0) := by
  obtain ⟨F, hml, hNw, hX, -, -, -⟩ := id F9
  have hA : ∀ q : Nat, s.heap.size ≤ q → (fun q => s.heap.size ≤ q) q := fun _ h => h
  have hS := zlaw_step (l := l) (e := e) (below := below) F9 (zCL_law4 [(128, 1, 5, spL_join, rmL_join.cells, rmL_join.slots), (131, 0, 3, spX8_join, rmX8_join.cells, rmX8_join.slots), (113, 0, 0, spX8_thrown, rmX8_thrown.cells, rmX8_thrown.slots)]) (zscr xs) zpL_law4 [2219] zkL_law4 ⟨by decide +kernel, by decide +kernel, by decide +kernel, by decide +kernel⟩ rfl rfl zscr_sc zscr_sl ⟨zco_SW hX hA F hml hNw (zctW_X (ctL_join l hlt D cA)) ⟨⟨zlL_law4_128, zwL_join.1⟩, zwL_join.2⟩ zdL_join ⟨Nat.le_of_ble_eq_true rfl, Nat.le_of_ble_eq_true rfl⟩, zco_V hX hA F hml hNw (zct_X (ctX8_join l D cA)) ⟨⟨zlL_law4_131, zwX8_join.1.1, zwX8_join.1.2⟩, zwX8_join.2⟩ zdX8_join ⟨Nat.le_of_ble_eq_true rfl, Nat.le_of_ble_eq_true rfl⟩ (ci := 8) (by decide) rfl (by rintro av μ K ⟨x, rfl, rfl, -⟩; exact ⟨_, _, rfl, rfl⟩), zco_V hX hA F hml hNw (zct_X (ctX8_thrown l D cA)) ⟨⟨zlL_law4_113, zwX8_thrown.1.1, zwX8_thrown.1.2⟩, zwX8_thrown.2⟩ zdX8_thrown ⟨Nat.le_of_ble_eq_true rfl, Nat.le_of_ble_eq_true rfl⟩ (ci := 8) (by decide) rfl (by rintro av μ K ⟨⟨μ0, x9⟩, rfl, rfl, h9, -⟩; exact ⟨_, _, rfl, congrArg Prod.fst h9.1⟩), trivial⟩
  have hZ := zLw_Z (p := p) (l := l) (e := e) (s := s) (m := m) (below := below) (meth := meth) (c := c) (b := b) (D := D) (cA := cA)
  generalize zLw p l e s m below meth c b D cA = Gl at hS hZ ⊢
  refine hS 400 _ _ _ _ _ ?_
  repeat (conv => whnf
          try dsimp only
          try simp (decide := true) only [zu_same, zu_ne1, zu_ne2, zuL_same, zuL_ne1, zuL_ne2, zrow_n1, zx0, zx1, zx2, zx3, zf_0_13, zf_0_14, zf_0_15, zf_1_3, zf_15_0, zf_16_0, zf_17_10, zf_86_3, zf_90_6, zf_90_7, zf_94_7, zf_100_6, zf_100_7, zf_118_0, zf_118_1, zf_118_2, zf_118_3, zg_119_0, zg_119_5, zg_119_9, zg_119_15, zg_119_19, zg_119_22, zg_119_1, zg_119_16, zg_120_0, zg_120_1, zg_120_2, zg_120_3, zg_121_0, zg_122_0, zg_124_0, zg_126_0, zg_127_0, zg_128_0, zg_129_0, zg_131_0, zg_131_1, zg_131_2, zg_131_3, Nat.reduceAdd, Nat.reduceMul, Int32.reduceAdd, Int32.reduceSub, Int32.reduceMul]
          first
          | refine ⟨vp_inb rfl, ?_⟩
          | refine ⟨fun h => absurd h (of_decide_eq_false rfl), fun _ => ?_⟩
          | refine ⟨fun _ => ?_, fun h => absurd (of_decide_eq_true rfl) h⟩
          | refine ⟨fun _ => ?_, fun h => absurd h (of_decide_eq_false rfl)⟩
          | refine ⟨fun h => absurd (of_decide_eq_true rfl) h, fun _ => ?_⟩
          | refine ⟨of_decide_eq_true rfl, ?_⟩
          | refine ⟨rfl, ?_⟩)
  try (conv => whnf)
  refine ⟨(xs 1, xs 2, xs 3), rfl, rfl, trivial, ?_⟩
  try dsimp only
  rintro _ _ ⟨rfl, σ1, τ1, rfl⟩
  repeat (conv => whnf
          try dsimp only
          try simp (decide := true) only [zu_same, zu_ne1, zu_ne2, zuL_same, zuL_ne1, zuL_ne2, zrow_n1, zx0, zx1, zx2, zx3, zf_0_13, zf_0_14, zf_0_15, zf_1_3, zf_15_0, zf_16_0, zf_17_10, zf_86_3, zf_90_6, zf_90_7, zf_94_7, zf_100_6, zf_100_7, zf_118_0, zf_118_1, zf_118_2, zf_118_3, zg_119_0, zg_119_5, zg_119_9, zg_119_15, zg_119_19, zg_119_22, zg_119_1, zg_119_16, zg_120_0, zg_120_1, zg_120_2, zg_120_3, zg_121_0, zg_122_0, zg_124_0, zg_126_0, zg_127_0, zg_128_0, zg_129_0, zg_131_0, zg_131_1, zg_131_2, zg_131_3, Nat.reduceAdd, Nat.reduceMul, Int32.reduceAdd, Int32.reduceSub, Int32.reduceMul]
          first
          | refine ⟨vp_inb rfl, ?_⟩
          | refine ⟨fun h => absurd h (of_decide_eq_false rfl), fun _ => ?_⟩
          | refine ⟨fun _ => ?_, fun h => absurd (of_decide_eq_true rfl) h⟩
          | refine ⟨fun _ => ?_, fun h => absurd h (of_decide_eq_false rfl)⟩
          | refine ⟨fun h => absurd (of_decide_eq_true rfl) h, fun _ => ?_⟩
          | refine ⟨of_decide_eq_true rfl, ?_⟩
          | refine ⟨rfl, ?_⟩)
  try (conv => whnf)
  refine ⟨(xs 1, xs 2, xs 3, σ1, τ1, 0), rfl, rfl, trivial, ?_⟩
  try dsimp only
  rintro _ μ2 ⟨rfl, h1, h2, h3, h4⟩
  repeat (first
    | (conv => whnf
       try dsimp only
       try simp (decide := true) only [h1, h2, h3, h4, zu_same, zu_ne1, zu_ne2, zuL_same, zuL_ne1, zuL_ne2, zrow_n1, zx0, zx1, zx2, zx3, zf_0_13, zf_0_14, zf_0_15, zf_1_3, zf_15_0, zf_16_0, zf_17_10, zf_86_3, zf_90_6, zf_90_7, zf_94_7, zf_100_6, zf_100_7, zf_118_0, zf_118_1, zf_118_2, zf_118_3, zg_119_0, zg_119_5, zg_119_9, zg_119_15, zg_119_19, zg_119_22, zg_119_1, zg_119_16, zg_120_0, zg_120_1, zg_120_2, zg_120_3, zg_121_0, zg_122_0, zg_124_0, zg_126_0, zg_127_0, zg_128_0, zg_129_0, zg_131_0, zg_131_1, zg_131_2, zg_131_3, Nat.reduceAdd, Nat.reduceMul, Int32.reduceAdd, Int32.reduceSub, Int32.reduceMul]
       first
       | refine ⟨vp_inb rfl, ?_⟩
       | refine ⟨fun h => absurd h (of_decide_eq_false rfl), fun _ => ?_⟩
       | refine ⟨fun _ => ?_, fun h => absurd (of_decide_eq_true rfl) h⟩
       | refine ⟨fun _ => ?_, fun h => absurd h (of_decide_eq_false rfl)⟩
       | refine ⟨fun h => absurd (of_decide_eq_true rfl) h, fun _ => ?_⟩
       | refine ⟨of_decide_eq_true rfl, ?_⟩
       | refine ⟨rfl, ?_⟩)
    | (conv => whnf
       fail_if_success refine Exists.intro ?_ ?_
       simp only [h1, h2, h3, h4]))
  try (conv => whnf)
  refine ⟨(μ2, ()), rfl, rfl, ⟨h1, trivial⟩, ?_⟩
  try dsimp only
  repeat (first
    | (conv => whnf
       try dsimp only
       try simp (decide := true) only [h1, h2, h3, h4, zu_same, zu_ne1, zu_ne2, zuL_same, zuL_ne1, zuL_ne2, zrow_n1, zx0, zx1, zx2, zx3, zf_0_13, zf_0_14, zf_0_15, zf_1_3, zf_15_0, zf_16_0, zf_17_10, zf_86_3, zf_90_6, zf_90_7, zf_94_7, zf_100_6, zf_100_7, zf_118_0, zf_118_1, zf_118_2, zf_118_3, zg_119_0, zg_119_5, zg_119_9, zg_119_15, zg_119_19, zg_119_22, zg_119_1, zg_119_16, zg_120_0, zg_120_1, zg_120_2, zg_120_3, zg_121_0, zg_122_0, zg_124_0, zg_126_0, zg_127_0, zg_128_0, zg_129_0, zg_131_0, zg_131_1, zg_131_2, zg_131_3, Nat.reduceAdd, Nat.reduceMul, Int32.reduceAdd, Int32.reduceSub, Int32.reduceMul]
       first
       | refine ⟨vp_inb rfl, ?_⟩
       | refine ⟨fun h => absurd h (of_decide_eq_false rfl), fun _ => ?_⟩
       | refine ⟨fun _ => ?_, fun h => absurd (of_decide_eq_true rfl) h⟩
       | refine ⟨fun _ => ?_, fun h => absurd h (of_decide_eq_false rfl)⟩
       | refine ⟨fun h => absurd (of_decide_eq_true rfl) h, fun _ => ?_⟩
       | refine ⟨of_decide_eq_true rfl, ?_⟩
       | refine ⟨rfl, ?_⟩)
    | (conv => whnf
       fail_if_success refine Exists.intro ?_ ?_
       simp only [h1, h2, h3, h4]))
  try (conv => whnf)
  refine hZ _ _ _ _ _ ?_
  refine hS 40 _ _ _ _ _ ?_
  repeat (conv => whnf
          try dsimp only
          try simp (decide := true) only [zu_same, zu_ne1, zu_ne2, zuL_same, zuL_ne1, zuL_ne2, zrow_n1, zx0, zx1, zx2, zx3, zf_0_13, zf_0_14, zf_0_15, zf_1_3, zf_15_0, zf_16_0, zf_17_10, zf_86_3, zf_90_6, zf_90_7, zf_94_7, zf_100_6, zf_100_7, zf_118_0, zf_118_1, zf_118_2, zf_118_3, zg_119_0, zg_119_5, zg_119_9, zg_119_15, zg_119_19, zg_119_22, zg_119_1, zg_119_16, zg_120_0, zg_120_1, zg_120_2, zg_120_3, zg_121_0, zg_122_0, zg_124_0, zg_126_0, zg_127_0, zg_128_0, zg_129_0, zg_131_0, zg_131_1, zg_131_2, zg_131_3, Nat.reduceAdd, Nat.reduceMul, Int32.reduceAdd, Int32.reduceSub, Int32.reduceMul]
          first
          | refine ⟨vp_inb rfl, ?_⟩
          | refine ⟨fun h => absurd h (of_decide_eq_false rfl), fun _ => ?_⟩
          | refine ⟨fun _ => ?_, fun h => absurd (of_decide_eq_true rfl) h⟩
          | refine ⟨fun _ => ?_, fun h => absurd h (of_decide_eq_false rfl)⟩
          | refine ⟨fun h => absurd (of_decide_eq_true rfl) h, fun _ => ?_⟩
          | refine ⟨of_decide_eq_true rfl, ?_⟩
          | refine ⟨rfl, ?_⟩)
  try (conv => whnf)
  first | exact rfl | exact ⟨rfl, rfl⟩
set_option maxRecDepth 100000 in
set_option maxHeartbeats 4000000 in
theorem zlc5 {p : Program} {e : Env} {s : State} {m : MethodId} {below : List Frame} {meth : Method} {c : Code} (l : Launch) (hlt : l.stackTraces = false) {b : Nat} {xs : Nat → Int32} {D : va_G} {cA : Nat → ClassId} (F9 : zLf p s m meth c b 7 xs D cA) : zLw p l e s m below meth c b D cA 578 zl0 [] (234, 11049) (145, zSH, zRH, zs0, zt0) := by
  obtain ⟨F, hml, hNw, hX, -, -, -⟩ := id F9
  have hA : ∀ q : Nat, s.heap.size ≤ q → (fun q => s.heap.size ≤ q) q := fun _ h => h
  have hS := zlaw_step (l := l) (e := e) (below := below) F9 (zCL_law5 [(132, 1, 5, spL_when, rmL_when.cells, rmL_when.slots), (134, 0, 3, spX8_when, rmX8_when.cells, rmX8_when.slots), (113, 0, 0, spX8_thrown, rmX8_thrown.cells, rmX8_thrown.slots)]) (zscr xs) zpL_law5 [2219] zkL_law5 ⟨by decide +kernel, by decide +kernel, by decide +kernel, by decide +kernel⟩ rfl rfl zscr_sc zscr_sl ⟨zco_SW hX hA F hml hNw (zctW_X (ctL_when l hlt D cA)) ⟨⟨zlL_law5_132, zwL_when.1⟩, zwL_when.2⟩ zdL_when ⟨Nat.le_of_ble_eq_true rfl, Nat.le_of_ble_eq_true rfl⟩, zco_V hX hA F hml hNw (zct_X (ctX8_when l D cA)) ⟨⟨zlL_law5_134, zwX8_when.1.1, zwX8_when.1.2⟩, zwX8_when.2⟩ zdX8_when ⟨Nat.le_of_ble_eq_true rfl, Nat.le_of_ble_eq_true rfl⟩ (ci := 8) (by decide) rfl (by rintro av μ K ⟨x, rfl, rfl, -⟩; exact ⟨_, _, rfl, rfl⟩), zco_V hX hA F hml hNw (zct_X (ctX8_thrown l D cA)) ⟨⟨zlL_law5_113, zwX8_thrown.1.1, zwX8_thrown.1.2⟩, zwX8_thrown.2⟩ zdX8_thrown ⟨Nat.le_of_ble_eq_true rfl, Nat.le_of_ble_eq_true rfl⟩ (ci := 8) (by decide) rfl (by rintro av μ K ⟨⟨μ0, x9⟩, rfl, rfl, h9, -⟩; exact ⟨_, _, rfl, congrArg Prod.fst h9.1⟩), trivial⟩
  have hZ := zLw_Z (p := p) (l := l) (e := e) (s := s) (m := m) (below := below) (meth := meth) (c := c) (b := b) (D := D) (cA := cA)
  generalize zLw p l e s m below meth c b D cA = Gl at hS hZ ⊢
  refine hS 400 _ _ _ _ _ ?_
  repeat (conv => whnf
          try dsimp only
          try simp (decide := true) only [zu_same, zu_ne1, zu_ne2, zuL_same, zuL_ne1, zuL_ne2, zrow_n1, zx0, zx1, zx2, zx3, zf_0_13, zf_0_14, zf_0_15, zf_1_3, zf_15_0, zf_16_0, zf_17_10, zf_86_3, zf_90_6, zf_90_7, zf_94_7, zf_100_6, zf_100_7, zf_118_0, zf_118_1, zf_118_2, zf_118_3, zg_119_0, zg_119_5, zg_119_9, zg_119_15, zg_119_19, zg_119_22, zg_119_1, zg_119_16, zg_120_0, zg_120_1, zg_120_2, zg_120_3, zg_121_0, zg_122_0, zg_124_0, zg_126_0, zg_127_0, zg_128_0, zg_129_0, zg_131_0, zg_131_1, zg_131_2, zg_131_3, Nat.reduceAdd, Nat.reduceMul, Int32.reduceAdd, Int32.reduceSub, Int32.reduceMul]
          first
          | refine ⟨vp_inb rfl, ?_⟩
          | refine ⟨fun h => absurd h (of_decide_eq_false rfl), fun _ => ?_⟩
          | refine ⟨fun _ => ?_, fun h => absurd (of_decide_eq_true rfl) h⟩
          | refine ⟨fun _ => ?_, fun h => absurd h (of_decide_eq_false rfl)⟩
          | refine ⟨fun h => absurd (of_decide_eq_true rfl) h, fun _ => ?_⟩
          | refine ⟨of_decide_eq_true rfl, ?_⟩
          | refine ⟨rfl, ?_⟩)
  try (conv => whnf)
  refine ⟨(xs 1, xs 2, xs 3), rfl, rfl, trivial, ?_⟩
  try dsimp only
  rintro _ _ ⟨rfl, σ1, τ1, rfl⟩
  repeat (conv => whnf
          try dsimp only
          try simp (decide := true) only [zu_same, zu_ne1, zu_ne2, zuL_same, zuL_ne1, zuL_ne2, zrow_n1, zx0, zx1, zx2, zx3, zf_0_13, zf_0_14, zf_0_15, zf_1_3, zf_15_0, zf_16_0, zf_17_10, zf_86_3, zf_90_6, zf_90_7, zf_94_7, zf_100_6, zf_100_7, zf_118_0, zf_118_1, zf_118_2, zf_118_3, zg_119_0, zg_119_5, zg_119_9, zg_119_15, zg_119_19, zg_119_22, zg_119_1, zg_119_16, zg_120_0, zg_120_1, zg_120_2, zg_120_3, zg_121_0, zg_122_0, zg_124_0, zg_126_0, zg_127_0, zg_128_0, zg_129_0, zg_131_0, zg_131_1, zg_131_2, zg_131_3, Nat.reduceAdd, Nat.reduceMul, Int32.reduceAdd, Int32.reduceSub, Int32.reduceMul]
          first
          | refine ⟨vp_inb rfl, ?_⟩
          | refine ⟨fun h => absurd h (of_decide_eq_false rfl), fun _ => ?_⟩
          | refine ⟨fun _ => ?_, fun h => absurd (of_decide_eq_true rfl) h⟩
          | refine ⟨fun _ => ?_, fun h => absurd h (of_decide_eq_false rfl)⟩
          | refine ⟨fun h => absurd (of_decide_eq_true rfl) h, fun _ => ?_⟩
          | refine ⟨of_decide_eq_true rfl, ?_⟩
          | refine ⟨rfl, ?_⟩)
  try (conv => whnf)
  refine ⟨(xs 1, xs 2, xs 3, σ1, τ1, 0), rfl, rfl, trivial, ?_⟩
  try dsimp only
  rintro _ μ2 ⟨rfl, h1, h2, h3, h4⟩
  repeat (first
    | (conv => whnf
       try dsimp only
       try simp (decide := true) only [h1, h2, h3, h4, zu_same, zu_ne1, zu_ne2, zuL_same, zuL_ne1, zuL_ne2, zrow_n1, zx0, zx1, zx2, zx3, zf_0_13, zf_0_14, zf_0_15, zf_1_3, zf_15_0, zf_16_0, zf_17_10, zf_86_3, zf_90_6, zf_90_7, zf_94_7, zf_100_6, zf_100_7, zf_118_0, zf_118_1, zf_118_2, zf_118_3, zg_119_0, zg_119_5, zg_119_9, zg_119_15, zg_119_19, zg_119_22, zg_119_1, zg_119_16, zg_120_0, zg_120_1, zg_120_2, zg_120_3, zg_121_0, zg_122_0, zg_124_0, zg_126_0, zg_127_0, zg_128_0, zg_129_0, zg_131_0, zg_131_1, zg_131_2, zg_131_3, Nat.reduceAdd, Nat.reduceMul, Int32.reduceAdd, Int32.reduceSub, Int32.reduceMul]
       first
       | refine ⟨vp_inb rfl, ?_⟩
       | refine ⟨fun h => absurd h (of_decide_eq_false rfl), fun _ => ?_⟩
       | refine ⟨fun _ => ?_, fun h => absurd (of_decide_eq_true rfl) h⟩
       | refine ⟨fun _ => ?_, fun h => absurd h (of_decide_eq_false rfl)⟩
       | refine ⟨fun h => absurd (of_decide_eq_true rfl) h, fun _ => ?_⟩
       | refine ⟨of_decide_eq_true rfl, ?_⟩
       | refine ⟨rfl, ?_⟩)
    | (conv => whnf
       fail_if_success refine Exists.intro ?_ ?_
       simp only [h1, h2, h3, h4]))
  try (conv => whnf)
  refine ⟨(μ2, ()), rfl, rfl, ⟨h1, trivial⟩, ?_⟩
  try dsimp only
  repeat (first
    | (conv => whnf
       try dsimp only
       try simp (decide := true) only [h1, h2, h3, h4, zu_same, zu_ne1, zu_ne2, zuL_same, zuL_ne1, zuL_ne2, zrow_n1, zx0, zx1, zx2, zx3, zf_0_13, zf_0_14, zf_0_15, zf_1_3, zf_15_0, zf_16_0, zf_17_10, zf_86_3, zf_90_6, zf_90_7, zf_94_7, zf_100_6, zf_100_7, zf_118_0, zf_118_1, zf_118_2, zf_118_3, zg_119_0, zg_119_5, zg_119_9, zg_119_15, zg_119_19, zg_119_22, zg_119_1, zg_119_16, zg_120_0, zg_120_1, zg_120_2, zg_120_3, zg_121_0, zg_122_0, zg_124_0, zg_126_0, zg_127_0, zg_128_0, zg_129_0, zg_131_0, zg_131_1, zg_131_2, zg_131_3, Nat.reduceAdd, Nat.reduceMul, Int32.reduceAdd, Int32.reduceSub, Int32.reduceMul]
       first
       | refine ⟨vp_inb rfl, ?_⟩
       | refine ⟨fun h => absurd h (of_decide_eq_false rfl), fun _ => ?_⟩
       | refine ⟨fun _ => ?_, fun h => absurd (of_decide_eq_true rfl) h⟩
       | refine ⟨fun _ => ?_, fun h => absurd h (of_decide_eq_false rfl)⟩
       | refine ⟨fun h => absurd (of_decide_eq_true rfl) h, fun _ => ?_⟩
       | refine ⟨of_decide_eq_true rfl, ?_⟩
       | refine ⟨rfl, ?_⟩)
    | (conv => whnf
       fail_if_success refine Exists.intro ?_ ?_
       simp only [h1, h2, h3, h4]))
  try (conv => whnf)
  refine hZ _ _ _ _ _ ?_
  refine hS 40 _ _ _ _ _ ?_
  repeat (conv => whnf
          try dsimp only
          try simp (decide := true) only [zu_same, zu_ne1, zu_ne2, zuL_same, zuL_ne1, zuL_ne2, zrow_n1, zx0, zx1, zx2, zx3, zf_0_13, zf_0_14, zf_0_15, zf_1_3, zf_15_0, zf_16_0, zf_17_10, zf_86_3, zf_90_6, zf_90_7, zf_94_7, zf_100_6, zf_100_7, zf_118_0, zf_118_1, zf_118_2, zf_118_3, zg_119_0, zg_119_5, zg_119_9, zg_119_15, zg_119_19, zg_119_22, zg_119_1, zg_119_16, zg_120_0, zg_120_1, zg_120_2, zg_120_3, zg_121_0, zg_122_0, zg_124_0, zg_126_0, zg_127_0, zg_128_0, zg_129_0, zg_131_0, zg_131_1, zg_131_2, zg_131_3, Nat.reduceAdd, Nat.reduceMul, Int32.reduceAdd, Int32.reduceSub, Int32.reduceMul]
          first
          | refine ⟨vp_inb rfl, ?_⟩
          | refine ⟨fun h => absurd h (of_decide_eq_false rfl), fun _ => ?_⟩
          | refine ⟨fun _ => ?_, fun h => absurd (of_decide_eq_true rfl) h⟩
          | refine ⟨fun _ => ?_, fun h => absurd h (of_decide_eq_false rfl)⟩
          | refine ⟨fun h => absurd (of_decide_eq_true rfl) h, fun _ => ?_⟩
          | refine ⟨of_decide_eq_true rfl, ?_⟩
          | refine ⟨rfl, ?_⟩)
  try (conv => whnf)
  first | exact rfl | exact ⟨rfl, rfl⟩
set_option maxRecDepth 100000 in
set_option maxHeartbeats 4000000 in
theorem zlc6 {p : Program} {e : Env} {s : State} {m : MethodId} {below : List Frame} {meth : Method} {c : Code} (l : Launch) (hlt : l.stackTraces = false) {b : Nat} {xs : Nat → Int32} {D : va_G} {cA : Nat → ClassId} (F9 : zLf p s m meth c b 7 xs D cA) : zLw p l e s m below meth c b D cA 658 zl0 [] (234, 11049) (145, zSH, zRH, zs0, zt0) := by
  obtain ⟨F, hml, hNw, hX, -, -, -⟩ := id F9
  have hA : ∀ q : Nat, s.heap.size ≤ q → (fun q => s.heap.size ≤ q) q := fun _ h => h
  have hS := zlaw_step (l := l) (e := e) (below := below) F9 (zCL_law6 [(135, 1, 3, spL_root, rmL_root.cells, rmL_root.slots), (137, 0, 1, spX8_root, rmX8_root.cells, rmX8_root.slots), (113, 0, 0, spX8_thrown, rmX8_thrown.cells, rmX8_thrown.slots)]) (zscr xs) zpL_law6 [2219] zkL_law6 ⟨by decide +kernel, by decide +kernel, by decide +kernel, by decide +kernel⟩ rfl rfl zscr_sc zscr_sl ⟨zco_SW hX hA F hml hNw (zctW_X (ctL_root l hlt D cA)) ⟨⟨zlL_law6_135, zwL_root.1⟩, zwL_root.2⟩ zdL_root ⟨Nat.le_of_ble_eq_true rfl, Nat.le_of_ble_eq_true rfl⟩, zco_V hX hA F hml hNw (zct_X (ctX8_root l D cA)) ⟨⟨zlL_law6_137, zwX8_root.1.1, zwX8_root.1.2⟩, zwX8_root.2⟩ zdX8_root ⟨Nat.le_of_ble_eq_true rfl, Nat.le_of_ble_eq_true rfl⟩ (ci := 8) (by decide) rfl (by rintro av μ K ⟨x, rfl, rfl, -⟩; exact ⟨_, _, rfl, rfl⟩), zco_V hX hA F hml hNw (zct_X (ctX8_thrown l D cA)) ⟨⟨zlL_law6_113, zwX8_thrown.1.1, zwX8_thrown.1.2⟩, zwX8_thrown.2⟩ zdX8_thrown ⟨Nat.le_of_ble_eq_true rfl, Nat.le_of_ble_eq_true rfl⟩ (ci := 8) (by decide) rfl (by rintro av μ K ⟨⟨μ0, x9⟩, rfl, rfl, h9, -⟩; exact ⟨_, _, rfl, congrArg Prod.fst h9.1⟩), trivial⟩
  have hZ := zLw_Z (p := p) (l := l) (e := e) (s := s) (m := m) (below := below) (meth := meth) (c := c) (b := b) (D := D) (cA := cA)
  generalize zLw p l e s m below meth c b D cA = Gl at hS hZ ⊢
  refine hS 400 _ _ _ _ _ ?_
  repeat (conv => whnf
          try dsimp only
          try simp (decide := true) only [zu_same, zu_ne1, zu_ne2, zuL_same, zuL_ne1, zuL_ne2, zrow_n1, zx0, zx1, zx2, zx3, zf_0_13, zf_0_14, zf_0_15, zf_1_3, zf_15_0, zf_16_0, zf_17_10, zf_86_3, zf_90_6, zf_90_7, zf_94_7, zf_100_6, zf_100_7, zf_118_0, zf_118_1, zf_118_2, zf_118_3, zg_119_0, zg_119_5, zg_119_9, zg_119_15, zg_119_19, zg_119_22, zg_119_1, zg_119_16, zg_120_0, zg_120_1, zg_120_2, zg_120_3, zg_121_0, zg_122_0, zg_124_0, zg_126_0, zg_127_0, zg_128_0, zg_129_0, zg_131_0, zg_131_1, zg_131_2, zg_131_3, Nat.reduceAdd, Nat.reduceMul, Int32.reduceAdd, Int32.reduceSub, Int32.reduceMul]
          first
          | refine ⟨vp_inb rfl, ?_⟩
          | refine ⟨fun h => absurd h (of_decide_eq_false rfl), fun _ => ?_⟩
          | refine ⟨fun _ => ?_, fun h => absurd (of_decide_eq_true rfl) h⟩
          | refine ⟨fun _ => ?_, fun h => absurd h (of_decide_eq_false rfl)⟩
          | refine ⟨fun h => absurd (of_decide_eq_true rfl) h, fun _ => ?_⟩
          | refine ⟨of_decide_eq_true rfl, ?_⟩
          | refine ⟨rfl, ?_⟩)
  try (conv => whnf)
  refine ⟨xs 1, rfl, rfl, trivial, ?_⟩
  try dsimp only
  rintro _ _ ⟨rfl, σ1, τ1, rfl⟩
  repeat (conv => whnf
          try dsimp only
          try simp (decide := true) only [zu_same, zu_ne1, zu_ne2, zuL_same, zuL_ne1, zuL_ne2, zrow_n1, zx0, zx1, zx2, zx3, zf_0_13, zf_0_14, zf_0_15, zf_1_3, zf_15_0, zf_16_0, zf_17_10, zf_86_3, zf_90_6, zf_90_7, zf_94_7, zf_100_6, zf_100_7, zf_118_0, zf_118_1, zf_118_2, zf_118_3, zg_119_0, zg_119_5, zg_119_9, zg_119_15, zg_119_19, zg_119_22, zg_119_1, zg_119_16, zg_120_0, zg_120_1, zg_120_2, zg_120_3, zg_121_0, zg_122_0, zg_124_0, zg_126_0, zg_127_0, zg_128_0, zg_129_0, zg_131_0, zg_131_1, zg_131_2, zg_131_3, Nat.reduceAdd, Nat.reduceMul, Int32.reduceAdd, Int32.reduceSub, Int32.reduceMul]
          first
          | refine ⟨vp_inb rfl, ?_⟩
          | refine ⟨fun h => absurd h (of_decide_eq_false rfl), fun _ => ?_⟩
          | refine ⟨fun _ => ?_, fun h => absurd (of_decide_eq_true rfl) h⟩
          | refine ⟨fun _ => ?_, fun h => absurd h (of_decide_eq_false rfl)⟩
          | refine ⟨fun h => absurd (of_decide_eq_true rfl) h, fun _ => ?_⟩
          | refine ⟨of_decide_eq_true rfl, ?_⟩
          | refine ⟨rfl, ?_⟩)
  try (conv => whnf)
  refine ⟨(xs 1, σ1, τ1, 0), rfl, rfl, trivial, ?_⟩
  try dsimp only
  rintro _ μ2 ⟨rfl, h1, h2, h3, h4⟩
  repeat (first
    | (conv => whnf
       try dsimp only
       try simp (decide := true) only [h1, h2, h3, h4, zu_same, zu_ne1, zu_ne2, zuL_same, zuL_ne1, zuL_ne2, zrow_n1, zx0, zx1, zx2, zx3, zf_0_13, zf_0_14, zf_0_15, zf_1_3, zf_15_0, zf_16_0, zf_17_10, zf_86_3, zf_90_6, zf_90_7, zf_94_7, zf_100_6, zf_100_7, zf_118_0, zf_118_1, zf_118_2, zf_118_3, zg_119_0, zg_119_5, zg_119_9, zg_119_15, zg_119_19, zg_119_22, zg_119_1, zg_119_16, zg_120_0, zg_120_1, zg_120_2, zg_120_3, zg_121_0, zg_122_0, zg_124_0, zg_126_0, zg_127_0, zg_128_0, zg_129_0, zg_131_0, zg_131_1, zg_131_2, zg_131_3, Nat.reduceAdd, Nat.reduceMul, Int32.reduceAdd, Int32.reduceSub, Int32.reduceMul]
       first
       | refine ⟨vp_inb rfl, ?_⟩
       | refine ⟨fun h => absurd h (of_decide_eq_false rfl), fun _ => ?_⟩
       | refine ⟨fun _ => ?_, fun h => absurd (of_decide_eq_true rfl) h⟩
       | refine ⟨fun _ => ?_, fun h => absurd h (of_decide_eq_false rfl)⟩
       | refine ⟨fun h => absurd (of_decide_eq_true rfl) h, fun _ => ?_⟩
       | refine ⟨of_decide_eq_true rfl, ?_⟩
       | refine ⟨rfl, ?_⟩)
    | (conv => whnf
       fail_if_success refine Exists.intro ?_ ?_
       simp only [h1, h2, h3, h4]))
  try (conv => whnf)
  refine ⟨(μ2, ()), rfl, rfl, ⟨h1, trivial⟩, ?_⟩
  try dsimp only
  repeat (first
    | (conv => whnf
       try dsimp only
       try simp (decide := true) only [h1, h2, h3, h4, zu_same, zu_ne1, zu_ne2, zuL_same, zuL_ne1, zuL_ne2, zrow_n1, zx0, zx1, zx2, zx3, zf_0_13, zf_0_14, zf_0_15, zf_1_3, zf_15_0, zf_16_0, zf_17_10, zf_86_3, zf_90_6, zf_90_7, zf_94_7, zf_100_6, zf_100_7, zf_118_0, zf_118_1, zf_118_2, zf_118_3, zg_119_0, zg_119_5, zg_119_9, zg_119_15, zg_119_19, zg_119_22, zg_119_1, zg_119_16, zg_120_0, zg_120_1, zg_120_2, zg_120_3, zg_121_0, zg_122_0, zg_124_0, zg_126_0, zg_127_0, zg_128_0, zg_129_0, zg_131_0, zg_131_1, zg_131_2, zg_131_3, Nat.reduceAdd, Nat.reduceMul, Int32.reduceAdd, Int32.reduceSub, Int32.reduceMul]
       first
       | refine ⟨vp_inb rfl, ?_⟩
       | refine ⟨fun h => absurd h (of_decide_eq_false rfl), fun _ => ?_⟩
       | refine ⟨fun _ => ?_, fun h => absurd (of_decide_eq_true rfl) h⟩
       | refine ⟨fun _ => ?_, fun h => absurd h (of_decide_eq_false rfl)⟩
       | refine ⟨fun h => absurd (of_decide_eq_true rfl) h, fun _ => ?_⟩
       | refine ⟨of_decide_eq_true rfl, ?_⟩
       | refine ⟨rfl, ?_⟩)
    | (conv => whnf
       fail_if_success refine Exists.intro ?_ ?_
       simp only [h1, h2, h3, h4]))
  try (conv => whnf)
  refine hZ _ _ _ _ _ ?_
  refine hS 40 _ _ _ _ _ ?_
  repeat (conv => whnf
          try dsimp only
          try simp (decide := true) only [zu_same, zu_ne1, zu_ne2, zuL_same, zuL_ne1, zuL_ne2, zrow_n1, zx0, zx1, zx2, zx3, zf_0_13, zf_0_14, zf_0_15, zf_1_3, zf_15_0, zf_16_0, zf_17_10, zf_86_3, zf_90_6, zf_90_7, zf_94_7, zf_100_6, zf_100_7, zf_118_0, zf_118_1, zf_118_2, zf_118_3, zg_119_0, zg_119_5, zg_119_9, zg_119_15, zg_119_19, zg_119_22, zg_119_1, zg_119_16, zg_120_0, zg_120_1, zg_120_2, zg_120_3, zg_121_0, zg_122_0, zg_124_0, zg_126_0, zg_127_0, zg_128_0, zg_129_0, zg_131_0, zg_131_1, zg_131_2, zg_131_3, Nat.reduceAdd, Nat.reduceMul, Int32.reduceAdd, Int32.reduceSub, Int32.reduceMul]
          first
          | refine ⟨vp_inb rfl, ?_⟩
          | refine ⟨fun h => absurd h (of_decide_eq_false rfl), fun _ => ?_⟩
          | refine ⟨fun _ => ?_, fun h => absurd (of_decide_eq_true rfl) h⟩
          | refine ⟨fun _ => ?_, fun h => absurd h (of_decide_eq_false rfl)⟩
          | refine ⟨fun h => absurd (of_decide_eq_true rfl) h, fun _ => ?_⟩
          | refine ⟨of_decide_eq_true rfl, ?_⟩
          | refine ⟨rfl, ?_⟩)
  try (conv => whnf)
  first | exact rfl | exact ⟨rfl, rfl⟩
set_option maxRecDepth 100000 in
set_option maxHeartbeats 4000000 in
theorem zlc7 {p : Program} {e : Env} {s : State} {m : MethodId} {below : List Frame} {meth : Method} {c : Code} (l : Launch) (hlt : l.stackTraces = false) {b : Nat} {xs : Nat → Int32} {D : va_G} {cA : Nat → ClassId} (F9 : zLf p s m meth c b 7 xs D cA) : zLw p l e s m below meth c b D cA 714 zl0 [] (234, 11049) (145, zSH, zRH, zs0, zt0) := by
  obtain ⟨F, hml, hNw, hX, -, -, -⟩ := id F9
  have hA : ∀ q : Nat, s.heap.size ≤ q → (fun q => s.heap.size ≤ q) q := fun _ h => h
  have hS := zlaw_step (l := l) (e := e) (below := below) F9 (zCL_law7 [(138, 1, 4, spL_define, rmL_define.cells, rmL_define.slots), (140, 0, 2, spX8_define, rmX8_define.cells, rmX8_define.slots), (113, 0, 0, spX8_thrown, rmX8_thrown.cells, rmX8_thrown.slots)]) (zscr xs) zpL_law7 [2219] zkL_law7 ⟨by decide +kernel, by decide +kernel, by decide +kernel, by decide +kernel⟩ rfl rfl zscr_sc zscr_sl ⟨zco_SW hX hA F hml hNw (zctW_X (ctL_define l hlt D cA)) ⟨⟨zlL_law7_138, zwL_define.1⟩, zwL_define.2⟩ zdL_define ⟨Nat.le_of_ble_eq_true rfl, Nat.le_of_ble_eq_true rfl⟩, zco_V hX hA F hml hNw (zct_X (ctX8_define l D cA)) ⟨⟨zlL_law7_140, zwX8_define.1.1, zwX8_define.1.2⟩, zwX8_define.2⟩ zdX8_define ⟨Nat.le_of_ble_eq_true rfl, Nat.le_of_ble_eq_true rfl⟩ (ci := 8) (by decide) rfl (by rintro av μ K ⟨x, rfl, rfl, -⟩; exact ⟨_, _, rfl, rfl⟩), zco_V hX hA F hml hNw (zct_X (ctX8_thrown l D cA)) ⟨⟨zlL_law7_113, zwX8_thrown.1.1, zwX8_thrown.1.2⟩, zwX8_thrown.2⟩ zdX8_thrown ⟨Nat.le_of_ble_eq_true rfl, Nat.le_of_ble_eq_true rfl⟩ (ci := 8) (by decide) rfl (by rintro av μ K ⟨⟨μ0, x9⟩, rfl, rfl, h9, -⟩; exact ⟨_, _, rfl, congrArg Prod.fst h9.1⟩), trivial⟩
  have hZ := zLw_Z (p := p) (l := l) (e := e) (s := s) (m := m) (below := below) (meth := meth) (c := c) (b := b) (D := D) (cA := cA)
  generalize zLw p l e s m below meth c b D cA = Gl at hS hZ ⊢
  refine hS 400 _ _ _ _ _ ?_
  repeat (conv => whnf
          try dsimp only
          try simp (decide := true) only [zu_same, zu_ne1, zu_ne2, zuL_same, zuL_ne1, zuL_ne2, zrow_n1, zx0, zx1, zx2, zx3, zf_0_13, zf_0_14, zf_0_15, zf_1_3, zf_15_0, zf_16_0, zf_17_10, zf_86_3, zf_90_6, zf_90_7, zf_94_7, zf_100_6, zf_100_7, zf_118_0, zf_118_1, zf_118_2, zf_118_3, zg_119_0, zg_119_5, zg_119_9, zg_119_15, zg_119_19, zg_119_22, zg_119_1, zg_119_16, zg_120_0, zg_120_1, zg_120_2, zg_120_3, zg_121_0, zg_122_0, zg_124_0, zg_126_0, zg_127_0, zg_128_0, zg_129_0, zg_131_0, zg_131_1, zg_131_2, zg_131_3, Nat.reduceAdd, Nat.reduceMul, Int32.reduceAdd, Int32.reduceSub, Int32.reduceMul]
          first
          | refine ⟨vp_inb rfl, ?_⟩
          | refine ⟨fun h => absurd h (of_decide_eq_false rfl), fun _ => ?_⟩
          | refine ⟨fun _ => ?_, fun h => absurd (of_decide_eq_true rfl) h⟩
          | refine ⟨fun _ => ?_, fun h => absurd h (of_decide_eq_false rfl)⟩
          | refine ⟨fun h => absurd (of_decide_eq_true rfl) h, fun _ => ?_⟩
          | refine ⟨of_decide_eq_true rfl, ?_⟩
          | refine ⟨rfl, ?_⟩)
  try (conv => whnf)
  refine ⟨(xs 1, xs 2), rfl, rfl, trivial, ?_⟩
  try dsimp only
  rintro _ _ ⟨rfl, σ1, τ1, rfl⟩
  repeat (conv => whnf
          try dsimp only
          try simp (decide := true) only [zu_same, zu_ne1, zu_ne2, zuL_same, zuL_ne1, zuL_ne2, zrow_n1, zx0, zx1, zx2, zx3, zf_0_13, zf_0_14, zf_0_15, zf_1_3, zf_15_0, zf_16_0, zf_17_10, zf_86_3, zf_90_6, zf_90_7, zf_94_7, zf_100_6, zf_100_7, zf_118_0, zf_118_1, zf_118_2, zf_118_3, zg_119_0, zg_119_5, zg_119_9, zg_119_15, zg_119_19, zg_119_22, zg_119_1, zg_119_16, zg_120_0, zg_120_1, zg_120_2, zg_120_3, zg_121_0, zg_122_0, zg_124_0, zg_126_0, zg_127_0, zg_128_0, zg_129_0, zg_131_0, zg_131_1, zg_131_2, zg_131_3, Nat.reduceAdd, Nat.reduceMul, Int32.reduceAdd, Int32.reduceSub, Int32.reduceMul]
          first
          | refine ⟨vp_inb rfl, ?_⟩
          | refine ⟨fun h => absurd h (of_decide_eq_false rfl), fun _ => ?_⟩
          | refine ⟨fun _ => ?_, fun h => absurd (of_decide_eq_true rfl) h⟩
          | refine ⟨fun _ => ?_, fun h => absurd h (of_decide_eq_false rfl)⟩
          | refine ⟨fun h => absurd (of_decide_eq_true rfl) h, fun _ => ?_⟩
          | refine ⟨of_decide_eq_true rfl, ?_⟩
          | refine ⟨rfl, ?_⟩)
  try (conv => whnf)
  refine ⟨(xs 1, xs 2, σ1, τ1, 0), rfl, rfl, trivial, ?_⟩
  try dsimp only
  rintro _ μ2 ⟨rfl, h1, h2, h3, h4⟩
  repeat (first
    | (conv => whnf
       try dsimp only
       try simp (decide := true) only [h1, h2, h3, h4, zu_same, zu_ne1, zu_ne2, zuL_same, zuL_ne1, zuL_ne2, zrow_n1, zx0, zx1, zx2, zx3, zf_0_13, zf_0_14, zf_0_15, zf_1_3, zf_15_0, zf_16_0, zf_17_10, zf_86_3, zf_90_6, zf_90_7, zf_94_7, zf_100_6, zf_100_7, zf_118_0, zf_118_1, zf_118_2, zf_118_3, zg_119_0, zg_119_5, zg_119_9, zg_119_15, zg_119_19, zg_119_22, zg_119_1, zg_119_16, zg_120_0, zg_120_1, zg_120_2, zg_120_3, zg_121_0, zg_122_0, zg_124_0, zg_126_0, zg_127_0, zg_128_0, zg_129_0, zg_131_0, zg_131_1, zg_131_2, zg_131_3, Nat.reduceAdd, Nat.reduceMul, Int32.reduceAdd, Int32.reduceSub, Int32.reduceMul]
       first
       | refine ⟨vp_inb rfl, ?_⟩
       | refine ⟨fun h => absurd h (of_decide_eq_false rfl), fun _ => ?_⟩
       | refine ⟨fun _ => ?_, fun h => absurd (of_decide_eq_true rfl) h⟩
       | refine ⟨fun _ => ?_, fun h => absurd h (of_decide_eq_false rfl)⟩
       | refine ⟨fun h => absurd (of_decide_eq_true rfl) h, fun _ => ?_⟩
       | refine ⟨of_decide_eq_true rfl, ?_⟩
       | refine ⟨rfl, ?_⟩)
    | (conv => whnf
       fail_if_success refine Exists.intro ?_ ?_
       simp only [h1, h2, h3, h4]))
  try (conv => whnf)
  refine ⟨(μ2, ()), rfl, rfl, ⟨h1, trivial⟩, ?_⟩
  try dsimp only
  repeat (first
    | (conv => whnf
       try dsimp only
       try simp (decide := true) only [h1, h2, h3, h4, zu_same, zu_ne1, zu_ne2, zuL_same, zuL_ne1, zuL_ne2, zrow_n1, zx0, zx1, zx2, zx3, zf_0_13, zf_0_14, zf_0_15, zf_1_3, zf_15_0, zf_16_0, zf_17_10, zf_86_3, zf_90_6, zf_90_7, zf_94_7, zf_100_6, zf_100_7, zf_118_0, zf_118_1, zf_118_2, zf_118_3, zg_119_0, zg_119_5, zg_119_9, zg_119_15, zg_119_19, zg_119_22, zg_119_1, zg_119_16, zg_120_0, zg_120_1, zg_120_2, zg_120_3, zg_121_0, zg_122_0, zg_124_0, zg_126_0, zg_127_0, zg_128_0, zg_129_0, zg_131_0, zg_131_1, zg_131_2, zg_131_3, Nat.reduceAdd, Nat.reduceMul, Int32.reduceAdd, Int32.reduceSub, Int32.reduceMul]
       first
       | refine ⟨vp_inb rfl, ?_⟩
       | refine ⟨fun h => absurd h (of_decide_eq_false rfl), fun _ => ?_⟩
       | refine ⟨fun _ => ?_, fun h => absurd (of_decide_eq_true rfl) h⟩
       | refine ⟨fun _ => ?_, fun h => absurd h (of_decide_eq_false rfl)⟩
       | refine ⟨fun h => absurd (of_decide_eq_true rfl) h, fun _ => ?_⟩
       | refine ⟨of_decide_eq_true rfl, ?_⟩
       | refine ⟨rfl, ?_⟩)
    | (conv => whnf
       fail_if_success refine Exists.intro ?_ ?_
       simp only [h1, h2, h3, h4]))
  try (conv => whnf)
  refine hZ _ _ _ _ _ ?_
  refine hS 40 _ _ _ _ _ ?_
  repeat (conv => whnf
          try dsimp only
          try simp (decide := true) only [zu_same, zu_ne1, zu_ne2, zuL_same, zuL_ne1, zuL_ne2, zrow_n1, zx0, zx1, zx2, zx3, zf_0_13, zf_0_14, zf_0_15, zf_1_3, zf_15_0, zf_16_0, zf_17_10, zf_86_3, zf_90_6, zf_90_7, zf_94_7, zf_100_6, zf_100_7, zf_118_0, zf_118_1, zf_118_2, zf_118_3, zg_119_0, zg_119_5, zg_119_9, zg_119_15, zg_119_19, zg_119_22, zg_119_1, zg_119_16, zg_120_0, zg_120_1, zg_120_2, zg_120_3, zg_121_0, zg_122_0, zg_124_0, zg_126_0, zg_127_0, zg_128_0, zg_129_0, zg_131_0, zg_131_1, zg_131_2, zg_131_3, Nat.reduceAdd, Nat.reduceMul, Int32.reduceAdd, Int32.reduceSub, Int32.reduceMul]
          first
          | refine ⟨vp_inb rfl, ?_⟩
          | refine ⟨fun h => absurd h (of_decide_eq_false rfl), fun _ => ?_⟩
          | refine ⟨fun _ => ?_, fun h => absurd (of_decide_eq_true rfl) h⟩
          | refine ⟨fun _ => ?_, fun h => absurd h (of_decide_eq_false rfl)⟩
          | refine ⟨fun h => absurd (of_decide_eq_true rfl) h, fun _ => ?_⟩
          | refine ⟨of_decide_eq_true rfl, ?_⟩
          | refine ⟨rfl, ?_⟩)
  try (conv => whnf)
  first | exact rfl | exact ⟨rfl, rfl⟩
set_option maxRecDepth 100000 in
set_option maxHeartbeats 4000000 in
theorem zlc8 {p : Program} {e : Env} {s : State} {m : MethodId} {below : List Frame} {meth : Method} {c : Code} (l : Launch) (hlt : l.stackTraces = false) {b : Nat} {xs : Nat → Int32} {D : va_G} {cA : Nat → ClassId} (F9 : zLf p s m meth c b 7 xs D cA) : zLw p l e s m below meth c b D cA 782 zl0 [] (234, 11049) (145, zSH, zRH, zs0, zt0) := by
  obtain ⟨F, hml, hNw, hX, -, -, -⟩ := id F9
  have hA : ∀ q : Nat, s.heap.size ≤ q → (fun q => s.heap.size ≤ q) q := fun _ h => h
  have hS := zlaw_step (l := l) (e := e) (below := below) F9 (zCL_law8 [(141, 1, 4, spL_set, rmL_set.cells, rmL_set.slots), (143, 0, 2, spX8_set, rmX8_set.cells, rmX8_set.slots), (113, 0, 0, spX8_thrown, rmX8_thrown.cells, rmX8_thrown.slots)]) (zscr xs) zpL_law8 [2219] zkL_law8 ⟨by decide +kernel, by decide +kernel, by decide +kernel, by decide +kernel⟩ rfl rfl zscr_sc zscr_sl ⟨zco_SW hX hA F hml hNw (zctW_X (ctL_set l hlt D cA)) ⟨⟨zlL_law8_141, zwL_set.1⟩, zwL_set.2⟩ zdL_set ⟨Nat.le_of_ble_eq_true rfl, Nat.le_of_ble_eq_true rfl⟩, zco_V hX hA F hml hNw (zct_X (ctX8_set l D cA)) ⟨⟨zlL_law8_143, zwX8_set.1.1, zwX8_set.1.2⟩, zwX8_set.2⟩ zdX8_set ⟨Nat.le_of_ble_eq_true rfl, Nat.le_of_ble_eq_true rfl⟩ (ci := 8) (by decide) rfl (by rintro av μ K ⟨x, rfl, rfl, -⟩; exact ⟨_, _, rfl, rfl⟩), zco_V hX hA F hml hNw (zct_X (ctX8_thrown l D cA)) ⟨⟨zlL_law8_113, zwX8_thrown.1.1, zwX8_thrown.1.2⟩, zwX8_thrown.2⟩ zdX8_thrown ⟨Nat.le_of_ble_eq_true rfl, Nat.le_of_ble_eq_true rfl⟩ (ci := 8) (by decide) rfl (by rintro av μ K ⟨⟨μ0, x9⟩, rfl, rfl, h9, -⟩; exact ⟨_, _, rfl, congrArg Prod.fst h9.1⟩), trivial⟩
  have hZ := zLw_Z (p := p) (l := l) (e := e) (s := s) (m := m) (below := below) (meth := meth) (c := c) (b := b) (D := D) (cA := cA)
  generalize zLw p l e s m below meth c b D cA = Gl at hS hZ ⊢
  refine hS 400 _ _ _ _ _ ?_
  repeat (conv => whnf
          try dsimp only
          try simp (decide := true) only [zu_same, zu_ne1, zu_ne2, zuL_same, zuL_ne1, zuL_ne2, zrow_n1, zx0, zx1, zx2, zx3, zf_0_13, zf_0_14, zf_0_15, zf_1_3, zf_15_0, zf_16_0, zf_17_10, zf_86_3, zf_90_6, zf_90_7, zf_94_7, zf_100_6, zf_100_7, zf_118_0, zf_118_1, zf_118_2, zf_118_3, zg_119_0, zg_119_5, zg_119_9, zg_119_15, zg_119_19, zg_119_22, zg_119_1, zg_119_16, zg_120_0, zg_120_1, zg_120_2, zg_120_3, zg_121_0, zg_122_0, zg_124_0, zg_126_0, zg_127_0, zg_128_0, zg_129_0, zg_131_0, zg_131_1, zg_131_2, zg_131_3, Nat.reduceAdd, Nat.reduceMul, Int32.reduceAdd, Int32.reduceSub, Int32.reduceMul]
          first
          | refine ⟨vp_inb rfl, ?_⟩
          | refine ⟨fun h => absurd h (of_decide_eq_false rfl), fun _ => ?_⟩
          | refine ⟨fun _ => ?_, fun h => absurd (of_decide_eq_true rfl) h⟩
          | refine ⟨fun _ => ?_, fun h => absurd h (of_decide_eq_false rfl)⟩
          | refine ⟨fun h => absurd (of_decide_eq_true rfl) h, fun _ => ?_⟩
          | refine ⟨of_decide_eq_true rfl, ?_⟩
          | refine ⟨rfl, ?_⟩)
  try (conv => whnf)
  refine ⟨(xs 1, xs 2), rfl, rfl, trivial, ?_⟩
  try dsimp only
  rintro _ _ ⟨rfl, σ1, τ1, rfl⟩
  repeat (conv => whnf
          try dsimp only
          try simp (decide := true) only [zu_same, zu_ne1, zu_ne2, zuL_same, zuL_ne1, zuL_ne2, zrow_n1, zx0, zx1, zx2, zx3, zf_0_13, zf_0_14, zf_0_15, zf_1_3, zf_15_0, zf_16_0, zf_17_10, zf_86_3, zf_90_6, zf_90_7, zf_94_7, zf_100_6, zf_100_7, zf_118_0, zf_118_1, zf_118_2, zf_118_3, zg_119_0, zg_119_5, zg_119_9, zg_119_15, zg_119_19, zg_119_22, zg_119_1, zg_119_16, zg_120_0, zg_120_1, zg_120_2, zg_120_3, zg_121_0, zg_122_0, zg_124_0, zg_126_0, zg_127_0, zg_128_0, zg_129_0, zg_131_0, zg_131_1, zg_131_2, zg_131_3, Nat.reduceAdd, Nat.reduceMul, Int32.reduceAdd, Int32.reduceSub, Int32.reduceMul]
          first
          | refine ⟨vp_inb rfl, ?_⟩
          | refine ⟨fun h => absurd h (of_decide_eq_false rfl), fun _ => ?_⟩
          | refine ⟨fun _ => ?_, fun h => absurd (of_decide_eq_true rfl) h⟩
          | refine ⟨fun _ => ?_, fun h => absurd h (of_decide_eq_false rfl)⟩
          | refine ⟨fun h => absurd (of_decide_eq_true rfl) h, fun _ => ?_⟩
          | refine ⟨of_decide_eq_true rfl, ?_⟩
          | refine ⟨rfl, ?_⟩)
  try (conv => whnf)
  refine ⟨(xs 1, xs 2, σ1, τ1, 0), rfl, rfl, trivial, ?_⟩
  try dsimp only
  rintro _ μ2 ⟨rfl, h1, h2, h3, h4⟩
  repeat (first
    | (conv => whnf
       try dsimp only
       try simp (decide := true) only [h1, h2, h3, h4, zu_same, zu_ne1, zu_ne2, zuL_same, zuL_ne1, zuL_ne2, zrow_n1, zx0, zx1, zx2, zx3, zf_0_13, zf_0_14, zf_0_15, zf_1_3, zf_15_0, zf_16_0, zf_17_10, zf_86_3, zf_90_6, zf_90_7, zf_94_7, zf_100_6, zf_100_7, zf_118_0, zf_118_1, zf_118_2, zf_118_3, zg_119_0, zg_119_5, zg_119_9, zg_119_15, zg_119_19, zg_119_22, zg_119_1, zg_119_16, zg_120_0, zg_120_1, zg_120_2, zg_120_3, zg_121_0, zg_122_0, zg_124_0, zg_126_0, zg_127_0, zg_128_0, zg_129_0, zg_131_0, zg_131_1, zg_131_2, zg_131_3, Nat.reduceAdd, Nat.reduceMul, Int32.reduceAdd, Int32.reduceSub, Int32.reduceMul]
       first
       | refine ⟨vp_inb rfl, ?_⟩
       | refine ⟨fun h => absurd h (of_decide_eq_false rfl), fun _ => ?_⟩
       | refine ⟨fun _ => ?_, fun h => absurd (of_decide_eq_true rfl) h⟩
       | refine ⟨fun _ => ?_, fun h => absurd h (of_decide_eq_false rfl)⟩
       | refine ⟨fun h => absurd (of_decide_eq_true rfl) h, fun _ => ?_⟩
       | refine ⟨of_decide_eq_true rfl, ?_⟩
       | refine ⟨rfl, ?_⟩)
    | (conv => whnf
       fail_if_success refine Exists.intro ?_ ?_
       simp only [h1, h2, h3, h4]))
  try (conv => whnf)
  refine ⟨(μ2, ()), rfl, rfl, ⟨h1, trivial⟩, ?_⟩
  try dsimp only
  repeat (first
    | (conv => whnf
       try dsimp only
       try simp (decide := true) only [h1, h2, h3, h4, zu_same, zu_ne1, zu_ne2, zuL_same, zuL_ne1, zuL_ne2, zrow_n1, zx0, zx1, zx2, zx3, zf_0_13, zf_0_14, zf_0_15, zf_1_3, zf_15_0, zf_16_0, zf_17_10, zf_86_3, zf_90_6, zf_90_7, zf_94_7, zf_100_6, zf_100_7, zf_118_0, zf_118_1, zf_118_2, zf_118_3, zg_119_0, zg_119_5, zg_119_9, zg_119_15, zg_119_19, zg_119_22, zg_119_1, zg_119_16, zg_120_0, zg_120_1, zg_120_2, zg_120_3, zg_121_0, zg_122_0, zg_124_0, zg_126_0, zg_127_0, zg_128_0, zg_129_0, zg_131_0, zg_131_1, zg_131_2, zg_131_3, Nat.reduceAdd, Nat.reduceMul, Int32.reduceAdd, Int32.reduceSub, Int32.reduceMul]
       first
       | refine ⟨vp_inb rfl, ?_⟩
       | refine ⟨fun h => absurd h (of_decide_eq_false rfl), fun _ => ?_⟩
       | refine ⟨fun _ => ?_, fun h => absurd (of_decide_eq_true rfl) h⟩
       | refine ⟨fun _ => ?_, fun h => absurd h (of_decide_eq_false rfl)⟩
       | refine ⟨fun h => absurd (of_decide_eq_true rfl) h, fun _ => ?_⟩
       | refine ⟨of_decide_eq_true rfl, ?_⟩
       | refine ⟨rfl, ?_⟩)
    | (conv => whnf
       fail_if_success refine Exists.intro ?_ ?_
       simp only [h1, h2, h3, h4]))
  try (conv => whnf)
  refine hZ _ _ _ _ _ ?_
  refine hS 40 _ _ _ _ _ ?_
  repeat (conv => whnf
          try dsimp only
          try simp (decide := true) only [zu_same, zu_ne1, zu_ne2, zuL_same, zuL_ne1, zuL_ne2, zrow_n1, zx0, zx1, zx2, zx3, zf_0_13, zf_0_14, zf_0_15, zf_1_3, zf_15_0, zf_16_0, zf_17_10, zf_86_3, zf_90_6, zf_90_7, zf_94_7, zf_100_6, zf_100_7, zf_118_0, zf_118_1, zf_118_2, zf_118_3, zg_119_0, zg_119_5, zg_119_9, zg_119_15, zg_119_19, zg_119_22, zg_119_1, zg_119_16, zg_120_0, zg_120_1, zg_120_2, zg_120_3, zg_121_0, zg_122_0, zg_124_0, zg_126_0, zg_127_0, zg_128_0, zg_129_0, zg_131_0, zg_131_1, zg_131_2, zg_131_3, Nat.reduceAdd, Nat.reduceMul, Int32.reduceAdd, Int32.reduceSub, Int32.reduceMul]
          first
          | refine ⟨vp_inb rfl, ?_⟩
          | refine ⟨fun h => absurd h (of_decide_eq_false rfl), fun _ => ?_⟩
          | refine ⟨fun _ => ?_, fun h => absurd (of_decide_eq_true rfl) h⟩
          | refine ⟨fun _ => ?_, fun h => absurd h (of_decide_eq_false rfl)⟩
          | refine ⟨fun h => absurd (of_decide_eq_true rfl) h, fun _ => ?_⟩
          | refine ⟨of_decide_eq_true rfl, ?_⟩
          | refine ⟨rfl, ?_⟩)
  try (conv => whnf)
  first | exact rfl | exact ⟨rfl, rfl⟩
set_option maxRecDepth 100000 in
set_option maxHeartbeats 4000000 in
theorem zlc9 {p : Program} {e : Env} {s : State} {m : MethodId} {below : List Frame} {meth : Method} {c : Code} (l : Launch) (hlt : l.stackTraces = false) {b : Nat} {xs : Nat → Int32} {D : va_G} {cA : Nat → ClassId} (F9 : zLf p s m meth c b 7 xs D cA) : zLw p l e s m below meth c b D cA 850 zl0 [] (234, 11049) (145, zSH, zRH, zs0, zt0) := by
  obtain ⟨F, hml, hNw, hX, -, -, -⟩ := id F9
  have hA : ∀ q : Nat, s.heap.size ≤ q → (fun q => s.heap.size ≤ q) q := fun _ h => h
  have hS := zlaw_step (l := l) (e := e) (below := below) F9 (zCL_law9 [(144, 1, 4, spL_setTurns, rmL_setTurns.cells, rmL_setTurns.slots), (146, 0, 2, spX8_setTurns, rmX8_setTurns.cells, rmX8_setTurns.slots), (113, 0, 0, spX8_thrown, rmX8_thrown.cells, rmX8_thrown.slots)]) (zscr xs) zpL_law9 [2219] zkL_law9 ⟨by decide +kernel, by decide +kernel, by decide +kernel, by decide +kernel⟩ rfl rfl zscr_sc zscr_sl ⟨zco_SW hX hA F hml hNw (zctW_X (ctL_setTurns l hlt D cA)) ⟨⟨zlL_law9_144, zwL_setTurns.1⟩, zwL_setTurns.2⟩ zdL_setTurns ⟨Nat.le_of_ble_eq_true rfl, Nat.le_of_ble_eq_true rfl⟩, zco_V hX hA F hml hNw (zct_X (ctX8_setTurns l D cA)) ⟨⟨zlL_law9_146, zwX8_setTurns.1.1, zwX8_setTurns.1.2⟩, zwX8_setTurns.2⟩ zdX8_setTurns ⟨Nat.le_of_ble_eq_true rfl, Nat.le_of_ble_eq_true rfl⟩ (ci := 8) (by decide) rfl (by rintro av μ K ⟨x, rfl, rfl, -⟩; exact ⟨_, _, rfl, rfl⟩), zco_V hX hA F hml hNw (zct_X (ctX8_thrown l D cA)) ⟨⟨zlL_law9_113, zwX8_thrown.1.1, zwX8_thrown.1.2⟩, zwX8_thrown.2⟩ zdX8_thrown ⟨Nat.le_of_ble_eq_true rfl, Nat.le_of_ble_eq_true rfl⟩ (ci := 8) (by decide) rfl (by rintro av μ K ⟨⟨μ0, x9⟩, rfl, rfl, h9, -⟩; exact ⟨_, _, rfl, congrArg Prod.fst h9.1⟩), trivial⟩
  have hZ := zLw_Z (p := p) (l := l) (e := e) (s := s) (m := m) (below := below) (meth := meth) (c := c) (b := b) (D := D) (cA := cA)
  generalize zLw p l e s m below meth c b D cA = Gl at hS hZ ⊢
  refine hS 400 _ _ _ _ _ ?_
  by_cases hc : (0 ≤ xs 1 ∧ xs 1 ≤ 10000) ∧ 1 ≤ xs 2 ∧ xs 2 ≤ 100
  · skip
    repeat (conv => whnf
            try dsimp only
            try simp (decide := true) only [zu_same, zu_ne1, zu_ne2, zuL_same, zuL_ne1, zuL_ne2, zrow_n1, zx0, zx1, zx2, zx3, zf_0_13, zf_0_14, zf_0_15, zf_1_3, zf_15_0, zf_16_0, zf_17_10, zf_86_3, zf_90_6, zf_90_7, zf_94_7, zf_100_6, zf_100_7, zf_118_0, zf_118_1, zf_118_2, zf_118_3, zg_119_0, zg_119_5, zg_119_9, zg_119_15, zg_119_19, zg_119_22, zg_119_1, zg_119_16, zg_120_0, zg_120_1, zg_120_2, zg_120_3, zg_121_0, zg_122_0, zg_124_0, zg_126_0, zg_127_0, zg_128_0, zg_129_0, zg_131_0, zg_131_1, zg_131_2, zg_131_3, Nat.reduceAdd, Nat.reduceMul, Int32.reduceAdd, Int32.reduceSub, Int32.reduceMul]
            first
            | refine ⟨vp_inb rfl, ?_⟩
            | refine ⟨fun h => absurd h (of_decide_eq_false rfl), fun _ => ?_⟩
            | refine ⟨fun _ => ?_, fun h => absurd (of_decide_eq_true rfl) h⟩
            | refine ⟨fun _ => ?_, fun h => absurd h (of_decide_eq_false rfl)⟩
            | refine ⟨fun h => absurd (of_decide_eq_true rfl) h, fun _ => ?_⟩
            | refine ⟨of_decide_eq_true rfl, ?_⟩
            | refine ⟨rfl, ?_⟩)
    try (conv => whnf)
    refine ⟨(xs 1, xs 2), rfl, rfl, trivial, ?_⟩
    try dsimp only
    simp only [if_pos hc]
    rintro _ _ ⟨rfl, σ1, τ1, rfl⟩
    repeat (conv => whnf
            try dsimp only
            try simp (decide := true) only [zu_same, zu_ne1, zu_ne2, zuL_same, zuL_ne1, zuL_ne2, zrow_n1, zx0, zx1, zx2, zx3, zf_0_13, zf_0_14, zf_0_15, zf_1_3, zf_15_0, zf_16_0, zf_17_10, zf_86_3, zf_90_6, zf_90_7, zf_94_7, zf_100_6, zf_100_7, zf_118_0, zf_118_1, zf_118_2, zf_118_3, zg_119_0, zg_119_5, zg_119_9, zg_119_15, zg_119_19, zg_119_22, zg_119_1, zg_119_16, zg_120_0, zg_120_1, zg_120_2, zg_120_3, zg_121_0, zg_122_0, zg_124_0, zg_126_0, zg_127_0, zg_128_0, zg_129_0, zg_131_0, zg_131_1, zg_131_2, zg_131_3, Nat.reduceAdd, Nat.reduceMul, Int32.reduceAdd, Int32.reduceSub, Int32.reduceMul]
            first
            | refine ⟨vp_inb rfl, ?_⟩
            | refine ⟨fun h => absurd h (of_decide_eq_false rfl), fun _ => ?_⟩
            | refine ⟨fun _ => ?_, fun h => absurd (of_decide_eq_true rfl) h⟩
            | refine ⟨fun _ => ?_, fun h => absurd h (of_decide_eq_false rfl)⟩
            | refine ⟨fun h => absurd (of_decide_eq_true rfl) h, fun _ => ?_⟩
            | refine ⟨of_decide_eq_true rfl, ?_⟩
            | refine ⟨rfl, ?_⟩)
    try (conv => whnf)
    refine ⟨(xs 1, xs 2, σ1, τ1, 0), rfl, rfl, trivial, ?_⟩
    try dsimp only
    simp only [if_pos hc]
    rintro _ μ2 ⟨rfl, h1, h2, h3, h4⟩
    repeat (first
      | (conv => whnf
         try dsimp only
         try simp (decide := true) only [h1, h2, h3, h4, zu_same, zu_ne1, zu_ne2, zuL_same, zuL_ne1, zuL_ne2, zrow_n1, zx0, zx1, zx2, zx3, zf_0_13, zf_0_14, zf_0_15, zf_1_3, zf_15_0, zf_16_0, zf_17_10, zf_86_3, zf_90_6, zf_90_7, zf_94_7, zf_100_6, zf_100_7, zf_118_0, zf_118_1, zf_118_2, zf_118_3, zg_119_0, zg_119_5, zg_119_9, zg_119_15, zg_119_19, zg_119_22, zg_119_1, zg_119_16, zg_120_0, zg_120_1, zg_120_2, zg_120_3, zg_121_0, zg_122_0, zg_124_0, zg_126_0, zg_127_0, zg_128_0, zg_129_0, zg_131_0, zg_131_1, zg_131_2, zg_131_3, Nat.reduceAdd, Nat.reduceMul, Int32.reduceAdd, Int32.reduceSub, Int32.reduceMul]
         first
         | refine ⟨vp_inb rfl, ?_⟩
         | refine ⟨fun h => absurd h (of_decide_eq_false rfl), fun _ => ?_⟩
         | refine ⟨fun _ => ?_, fun h => absurd (of_decide_eq_true rfl) h⟩
         | refine ⟨fun _ => ?_, fun h => absurd h (of_decide_eq_false rfl)⟩
         | refine ⟨fun h => absurd (of_decide_eq_true rfl) h, fun _ => ?_⟩
         | refine ⟨of_decide_eq_true rfl, ?_⟩
         | refine ⟨rfl, ?_⟩)
      | (conv => whnf
         fail_if_success refine Exists.intro ?_ ?_
         simp only [h1, h2, h3, h4]))
    try (conv => whnf)
    refine ⟨(μ2, ()), rfl, rfl, ⟨h1, trivial⟩, ?_⟩
    try dsimp only
    repeat (first
      | (conv => whnf
         try dsimp only
         try simp (decide := true) only [h1, h2, h3, h4, zu_same, zu_ne1, zu_ne2, zuL_same, zuL_ne1, zuL_ne2, zrow_n1, zx0, zx1, zx2, zx3, zf_0_13, zf_0_14, zf_0_15, zf_1_3, zf_15_0, zf_16_0, zf_17_10, zf_86_3, zf_90_6, zf_90_7, zf_94_7, zf_100_6, zf_100_7, zf_118_0, zf_118_1, zf_118_2, zf_118_3, zg_119_0, zg_119_5, zg_119_9, zg_119_15, zg_119_19, zg_119_22, zg_119_1, zg_119_16, zg_120_0, zg_120_1, zg_120_2, zg_120_3, zg_121_0, zg_122_0, zg_124_0, zg_126_0, zg_127_0, zg_128_0, zg_129_0, zg_131_0, zg_131_1, zg_131_2, zg_131_3, Nat.reduceAdd, Nat.reduceMul, Int32.reduceAdd, Int32.reduceSub, Int32.reduceMul]
         first
         | refine ⟨vp_inb rfl, ?_⟩
         | refine ⟨fun h => absurd h (of_decide_eq_false rfl), fun _ => ?_⟩
         | refine ⟨fun _ => ?_, fun h => absurd (of_decide_eq_true rfl) h⟩
         | refine ⟨fun _ => ?_, fun h => absurd h (of_decide_eq_false rfl)⟩
         | refine ⟨fun h => absurd (of_decide_eq_true rfl) h, fun _ => ?_⟩
         | refine ⟨of_decide_eq_true rfl, ?_⟩
         | refine ⟨rfl, ?_⟩)
      | (conv => whnf
         fail_if_success refine Exists.intro ?_ ?_
         simp only [h1, h2, h3, h4]))
    try (conv => whnf)
    refine hZ _ _ _ _ _ ?_
    refine hS 40 _ _ _ _ _ ?_
    repeat (conv => whnf
            try dsimp only
            try simp (decide := true) only [zu_same, zu_ne1, zu_ne2, zuL_same, zuL_ne1, zuL_ne2, zrow_n1, zx0, zx1, zx2, zx3, zf_0_13, zf_0_14, zf_0_15, zf_1_3, zf_15_0, zf_16_0, zf_17_10, zf_86_3, zf_90_6, zf_90_7, zf_94_7, zf_100_6, zf_100_7, zf_118_0, zf_118_1, zf_118_2, zf_118_3, zg_119_0, zg_119_5, zg_119_9, zg_119_15, zg_119_19, zg_119_22, zg_119_1, zg_119_16, zg_120_0, zg_120_1, zg_120_2, zg_120_3, zg_121_0, zg_122_0, zg_124_0, zg_126_0, zg_127_0, zg_128_0, zg_129_0, zg_131_0, zg_131_1, zg_131_2, zg_131_3, Nat.reduceAdd, Nat.reduceMul, Int32.reduceAdd, Int32.reduceSub, Int32.reduceMul]
            first
            | refine ⟨vp_inb rfl, ?_⟩
            | refine ⟨fun h => absurd h (of_decide_eq_false rfl), fun _ => ?_⟩
            | refine ⟨fun _ => ?_, fun h => absurd (of_decide_eq_true rfl) h⟩
            | refine ⟨fun _ => ?_, fun h => absurd h (of_decide_eq_false rfl)⟩
            | refine ⟨fun h => absurd (of_decide_eq_true rfl) h, fun _ => ?_⟩
            | refine ⟨of_decide_eq_true rfl, ?_⟩
            | refine ⟨rfl, ?_⟩)
    try (conv => whnf)
    first | exact rfl | exact ⟨rfl, rfl⟩
  · skip
    repeat (conv => whnf
            try dsimp only
            try simp (decide := true) only [zu_same, zu_ne1, zu_ne2, zuL_same, zuL_ne1, zuL_ne2, zrow_n1, zx0, zx1, zx2, zx3, zf_0_13, zf_0_14, zf_0_15, zf_1_3, zf_15_0, zf_16_0, zf_17_10, zf_86_3, zf_90_6, zf_90_7, zf_94_7, zf_100_6, zf_100_7, zf_118_0, zf_118_1, zf_118_2, zf_118_3, zg_119_0, zg_119_5, zg_119_9, zg_119_15, zg_119_19, zg_119_22, zg_119_1, zg_119_16, zg_120_0, zg_120_1, zg_120_2, zg_120_3, zg_121_0, zg_122_0, zg_124_0, zg_126_0, zg_127_0, zg_128_0, zg_129_0, zg_131_0, zg_131_1, zg_131_2, zg_131_3, Nat.reduceAdd, Nat.reduceMul, Int32.reduceAdd, Int32.reduceSub, Int32.reduceMul]
            first
            | refine ⟨vp_inb rfl, ?_⟩
            | refine ⟨fun h => absurd h (of_decide_eq_false rfl), fun _ => ?_⟩
            | refine ⟨fun _ => ?_, fun h => absurd (of_decide_eq_true rfl) h⟩
            | refine ⟨fun _ => ?_, fun h => absurd h (of_decide_eq_false rfl)⟩
            | refine ⟨fun h => absurd (of_decide_eq_true rfl) h, fun _ => ?_⟩
            | refine ⟨of_decide_eq_true rfl, ?_⟩
            | refine ⟨rfl, ?_⟩)
    try (conv => whnf)
    refine ⟨(xs 1, xs 2), rfl, rfl, trivial, ?_⟩
    try dsimp only
    simp only [if_neg hc]
    rintro _ _ ⟨rfl, σ1, τ1, rfl⟩
    repeat (conv => whnf
            try dsimp only
            try simp (decide := true) only [zu_same, zu_ne1, zu_ne2, zuL_same, zuL_ne1, zuL_ne2, zrow_n1, zx0, zx1, zx2, zx3, zf_0_13, zf_0_14, zf_0_15, zf_1_3, zf_15_0, zf_16_0, zf_17_10, zf_86_3, zf_90_6, zf_90_7, zf_94_7, zf_100_6, zf_100_7, zf_118_0, zf_118_1, zf_118_2, zf_118_3, zg_119_0, zg_119_5, zg_119_9, zg_119_15, zg_119_19, zg_119_22, zg_119_1, zg_119_16, zg_120_0, zg_120_1, zg_120_2, zg_120_3, zg_121_0, zg_122_0, zg_124_0, zg_126_0, zg_127_0, zg_128_0, zg_129_0, zg_131_0, zg_131_1, zg_131_2, zg_131_3, Nat.reduceAdd, Nat.reduceMul, Int32.reduceAdd, Int32.reduceSub, Int32.reduceMul]
            first
            | refine ⟨vp_inb rfl, ?_⟩
            | refine ⟨fun h => absurd h (of_decide_eq_false rfl), fun _ => ?_⟩
            | refine ⟨fun _ => ?_, fun h => absurd (of_decide_eq_true rfl) h⟩
            | refine ⟨fun _ => ?_, fun h => absurd h (of_decide_eq_false rfl)⟩
            | refine ⟨fun h => absurd (of_decide_eq_true rfl) h, fun _ => ?_⟩
            | refine ⟨of_decide_eq_true rfl, ?_⟩
            | refine ⟨rfl, ?_⟩)
    try (conv => whnf)
    refine ⟨(xs 1, xs 2, σ1, τ1, 0), rfl, rfl, trivial, ?_⟩
    try dsimp only
    simp only [if_neg hc]
    rintro _ μ2 ⟨rfl, h1, h2, h3, h4⟩
    repeat (first
      | (conv => whnf
         try dsimp only
         try simp (decide := true) only [h1, h2, h3, h4, zu_same, zu_ne1, zu_ne2, zuL_same, zuL_ne1, zuL_ne2, zrow_n1, zx0, zx1, zx2, zx3, zf_0_13, zf_0_14, zf_0_15, zf_1_3, zf_15_0, zf_16_0, zf_17_10, zf_86_3, zf_90_6, zf_90_7, zf_94_7, zf_100_6, zf_100_7, zf_118_0, zf_118_1, zf_118_2, zf_118_3, zg_119_0, zg_119_5, zg_119_9, zg_119_15, zg_119_19, zg_119_22, zg_119_1, zg_119_16, zg_120_0, zg_120_1, zg_120_2, zg_120_3, zg_121_0, zg_122_0, zg_124_0, zg_126_0, zg_127_0, zg_128_0, zg_129_0, zg_131_0, zg_131_1, zg_131_2, zg_131_3, Nat.reduceAdd, Nat.reduceMul, Int32.reduceAdd, Int32.reduceSub, Int32.reduceMul]
         first
         | refine ⟨vp_inb rfl, ?_⟩
         | refine ⟨fun h => absurd h (of_decide_eq_false rfl), fun _ => ?_⟩
         | refine ⟨fun _ => ?_, fun h => absurd (of_decide_eq_true rfl) h⟩
         | refine ⟨fun _ => ?_, fun h => absurd h (of_decide_eq_false rfl)⟩
         | refine ⟨fun h => absurd (of_decide_eq_true rfl) h, fun _ => ?_⟩
         | refine ⟨of_decide_eq_true rfl, ?_⟩
         | refine ⟨rfl, ?_⟩)
      | (conv => whnf
         fail_if_success refine Exists.intro ?_ ?_
         simp only [h1, h2, h3, h4]))
    try (conv => whnf)
    refine ⟨(μ2, ()), rfl, rfl, ⟨h1, trivial⟩, ?_⟩
    try dsimp only
    repeat (first
      | (conv => whnf
         try dsimp only
         try simp (decide := true) only [h1, h2, h3, h4, zu_same, zu_ne1, zu_ne2, zuL_same, zuL_ne1, zuL_ne2, zrow_n1, zx0, zx1, zx2, zx3, zf_0_13, zf_0_14, zf_0_15, zf_1_3, zf_15_0, zf_16_0, zf_17_10, zf_86_3, zf_90_6, zf_90_7, zf_94_7, zf_100_6, zf_100_7, zf_118_0, zf_118_1, zf_118_2, zf_118_3, zg_119_0, zg_119_5, zg_119_9, zg_119_15, zg_119_19, zg_119_22, zg_119_1, zg_119_16, zg_120_0, zg_120_1, zg_120_2, zg_120_3, zg_121_0, zg_122_0, zg_124_0, zg_126_0, zg_127_0, zg_128_0, zg_129_0, zg_131_0, zg_131_1, zg_131_2, zg_131_3, Nat.reduceAdd, Nat.reduceMul, Int32.reduceAdd, Int32.reduceSub, Int32.reduceMul]
         first
         | refine ⟨vp_inb rfl, ?_⟩
         | refine ⟨fun h => absurd h (of_decide_eq_false rfl), fun _ => ?_⟩
         | refine ⟨fun _ => ?_, fun h => absurd (of_decide_eq_true rfl) h⟩
         | refine ⟨fun _ => ?_, fun h => absurd h (of_decide_eq_false rfl)⟩
         | refine ⟨fun h => absurd (of_decide_eq_true rfl) h, fun _ => ?_⟩
         | refine ⟨of_decide_eq_true rfl, ?_⟩
         | refine ⟨rfl, ?_⟩)
      | (conv => whnf
         fail_if_success refine Exists.intro ?_ ?_
         simp only [h1, h2, h3, h4]))
    try (conv => whnf)
    refine hZ _ _ _ _ _ ?_
    refine hS 40 _ _ _ _ _ ?_
    repeat (conv => whnf
            try dsimp only
            try simp (decide := true) only [zu_same, zu_ne1, zu_ne2, zuL_same, zuL_ne1, zuL_ne2, zrow_n1, zx0, zx1, zx2, zx3, zf_0_13, zf_0_14, zf_0_15, zf_1_3, zf_15_0, zf_16_0, zf_17_10, zf_86_3, zf_90_6, zf_90_7, zf_94_7, zf_100_6, zf_100_7, zf_118_0, zf_118_1, zf_118_2, zf_118_3, zg_119_0, zg_119_5, zg_119_9, zg_119_15, zg_119_19, zg_119_22, zg_119_1, zg_119_16, zg_120_0, zg_120_1, zg_120_2, zg_120_3, zg_121_0, zg_122_0, zg_124_0, zg_126_0, zg_127_0, zg_128_0, zg_129_0, zg_131_0, zg_131_1, zg_131_2, zg_131_3, Nat.reduceAdd, Nat.reduceMul, Int32.reduceAdd, Int32.reduceSub, Int32.reduceMul]
            first
            | refine ⟨vp_inb rfl, ?_⟩
            | refine ⟨fun h => absurd h (of_decide_eq_false rfl), fun _ => ?_⟩
            | refine ⟨fun _ => ?_, fun h => absurd (of_decide_eq_true rfl) h⟩
            | refine ⟨fun _ => ?_, fun h => absurd h (of_decide_eq_false rfl)⟩
            | refine ⟨fun h => absurd (of_decide_eq_true rfl) h, fun _ => ?_⟩
            | refine ⟨of_decide_eq_true rfl, ?_⟩
            | refine ⟨rfl, ?_⟩)
    try (conv => whnf)
    first | exact rfl | exact ⟨rfl, rfl⟩
set_option maxRecDepth 100000 in
set_option maxHeartbeats 4000000 in
theorem zlc10 {p : Program} {e : Env} {s : State} {m : MethodId} {below : List Frame} {meth : Method} {c : Code} (l : Launch) (hlt : l.stackTraces = false) {b : Nat} {xs : Nat → Int32} {D : va_G} {cA : Nat → ClassId} (F9 : zLf p s m meth c b 7 xs D cA) : zLw p l e s m below meth c b D cA 918 zl0 [] (234, 11049) (145, zSH, zRH, zs0, zt0) := by
  obtain ⟨F, hml, hNw, hX, -, -, -⟩ := id F9
  have hA : ∀ q : Nat, s.heap.size ≤ q → (fun q => s.heap.size ≤ q) q := fun _ h => h
  have hS := zlaw_step (l := l) (e := e) (below := below) F9 (zCL_law10 [(147, 0, 0, spX7_units, rmX7_units.cells, rmX7_units.slots), (150, 0, 0, spX8_units, rmX8_units.cells, rmX8_units.slots)]) (zscr xs) zpL_law10 [2219] zkL_law10 ⟨by decide +kernel, by decide +kernel, by decide +kernel, by decide +kernel⟩ rfl rfl zscr_sc zscr_sl ⟨zco_V hX hA F hml hNw (zct_X (ctX7_units l D cA)) ⟨⟨zlL_law10_147, zwX7_units.1.1, zwX7_units.1.2⟩, zwX7_units.2⟩ zdX7_units ⟨Nat.le_of_ble_eq_true rfl, Nat.le_of_ble_eq_true rfl⟩ (ci := 7) (by decide) rfl (by rintro av μ K ⟨x, rfl, rfl, -⟩; exact ⟨_, _, rfl, rfl⟩), zco_V hX hA F hml hNw (zct_X (ctX8_units l D cA)) ⟨⟨zlL_law10_150, zwX8_units.1.1, zwX8_units.1.2⟩, zwX8_units.2⟩ zdX8_units ⟨Nat.le_of_ble_eq_true rfl, Nat.le_of_ble_eq_true rfl⟩ (ci := 8) (by decide) rfl (by rintro av μ K ⟨x, rfl, rfl, -⟩; exact ⟨_, _, rfl, rfl⟩), trivial⟩
  have hZ := zLw_Z (p := p) (l := l) (e := e) (s := s) (m := m) (below := below) (meth := meth) (c := c) (b := b) (D := D) (cA := cA)
  generalize zLw p l e s m below meth c b D cA = Gl at hS hZ ⊢
  refine hS 400 _ _ _ _ _ ?_
  repeat (conv => whnf
          try dsimp only
          try simp (decide := true) only [zu_same, zu_ne1, zu_ne2, zuL_same, zuL_ne1, zuL_ne2, zrow_n1, zx0, zx1, zx2, zx3, zf_0_13, zf_0_14, zf_0_15, zf_1_3, zf_15_0, zf_16_0, zf_17_10, zf_86_3, zf_90_6, zf_90_7, zf_94_7, zf_100_6, zf_100_7, zf_118_0, zf_118_1, zf_118_2, zf_118_3, zg_119_0, zg_119_5, zg_119_9, zg_119_15, zg_119_19, zg_119_22, zg_119_1, zg_119_16, zg_120_0, zg_120_1, zg_120_2, zg_120_3, zg_121_0, zg_122_0, zg_124_0, zg_126_0, zg_127_0, zg_128_0, zg_129_0, zg_131_0, zg_131_1, zg_131_2, zg_131_3, Nat.reduceAdd, Nat.reduceMul, Int32.reduceAdd, Int32.reduceSub, Int32.reduceMul]
          first
          | refine ⟨vp_inb rfl, ?_⟩
          | refine ⟨fun h => absurd h (of_decide_eq_false rfl), fun _ => ?_⟩
          | refine ⟨fun _ => ?_, fun h => absurd (of_decide_eq_true rfl) h⟩
          | refine ⟨fun _ => ?_, fun h => absurd h (of_decide_eq_false rfl)⟩
          | refine ⟨fun h => absurd (of_decide_eq_true rfl) h, fun _ => ?_⟩
          | refine ⟨of_decide_eq_true rfl, ?_⟩
          | refine ⟨rfl, ?_⟩)
  try (conv => whnf)
  refine ⟨(), rfl, rfl, trivial, ?_⟩
  try dsimp only
  repeat (conv => whnf
          try dsimp only
          try simp (decide := true) only [zu_same, zu_ne1, zu_ne2, zuL_same, zuL_ne1, zuL_ne2, zrow_n1, zx0, zx1, zx2, zx3, zf_0_13, zf_0_14, zf_0_15, zf_1_3, zf_15_0, zf_16_0, zf_17_10, zf_86_3, zf_90_6, zf_90_7, zf_94_7, zf_100_6, zf_100_7, zf_118_0, zf_118_1, zf_118_2, zf_118_3, zg_119_0, zg_119_5, zg_119_9, zg_119_15, zg_119_19, zg_119_22, zg_119_1, zg_119_16, zg_120_0, zg_120_1, zg_120_2, zg_120_3, zg_121_0, zg_122_0, zg_124_0, zg_126_0, zg_127_0, zg_128_0, zg_129_0, zg_131_0, zg_131_1, zg_131_2, zg_131_3, Nat.reduceAdd, Nat.reduceMul, Int32.reduceAdd, Int32.reduceSub, Int32.reduceMul]
          first
          | refine ⟨vp_inb rfl, ?_⟩
          | refine ⟨fun h => absurd h (of_decide_eq_false rfl), fun _ => ?_⟩
          | refine ⟨fun _ => ?_, fun h => absurd (of_decide_eq_true rfl) h⟩
          | refine ⟨fun _ => ?_, fun h => absurd h (of_decide_eq_false rfl)⟩
          | refine ⟨fun h => absurd (of_decide_eq_true rfl) h, fun _ => ?_⟩
          | refine ⟨of_decide_eq_true rfl, ?_⟩
          | refine ⟨rfl, ?_⟩)
  try (conv => whnf)
  refine ⟨(zs0, zt0, 0), rfl, zF0e, trivial, ?_⟩
  try dsimp only
  rintro _ μ2 ⟨rfl, -⟩
  repeat (conv => whnf
          try dsimp only
          try simp (decide := true) only [zu_same, zu_ne1, zu_ne2, zuL_same, zuL_ne1, zuL_ne2, zrow_n1, zx0, zx1, zx2, zx3, zf_0_13, zf_0_14, zf_0_15, zf_1_3, zf_15_0, zf_16_0, zf_17_10, zf_86_3, zf_90_6, zf_90_7, zf_94_7, zf_100_6, zf_100_7, zf_118_0, zf_118_1, zf_118_2, zf_118_3, zg_119_0, zg_119_5, zg_119_9, zg_119_15, zg_119_19, zg_119_22, zg_119_1, zg_119_16, zg_120_0, zg_120_1, zg_120_2, zg_120_3, zg_121_0, zg_122_0, zg_124_0, zg_126_0, zg_127_0, zg_128_0, zg_129_0, zg_131_0, zg_131_1, zg_131_2, zg_131_3, Nat.reduceAdd, Nat.reduceMul, Int32.reduceAdd, Int32.reduceSub, Int32.reduceMul]
          first
          | refine ⟨vp_inb rfl, ?_⟩
          | refine ⟨fun h => absurd h (of_decide_eq_false rfl), fun _ => ?_⟩
          | refine ⟨fun _ => ?_, fun h => absurd (of_decide_eq_true rfl) h⟩
          | refine ⟨fun _ => ?_, fun h => absurd h (of_decide_eq_false rfl)⟩
          | refine ⟨fun h => absurd (of_decide_eq_true rfl) h, fun _ => ?_⟩
          | refine ⟨of_decide_eq_true rfl, ?_⟩
          | refine ⟨rfl, ?_⟩)
  try (conv => whnf)
  refine hZ _ _ _ _ _ ?_
  refine hS 40 _ _ _ _ _ ?_
  repeat (conv => whnf
          try dsimp only
          try simp (decide := true) only [zu_same, zu_ne1, zu_ne2, zuL_same, zuL_ne1, zuL_ne2, zrow_n1, zx0, zx1, zx2, zx3, zf_0_13, zf_0_14, zf_0_15, zf_1_3, zf_15_0, zf_16_0, zf_17_10, zf_86_3, zf_90_6, zf_90_7, zf_94_7, zf_100_6, zf_100_7, zf_118_0, zf_118_1, zf_118_2, zf_118_3, zg_119_0, zg_119_5, zg_119_9, zg_119_15, zg_119_19, zg_119_22, zg_119_1, zg_119_16, zg_120_0, zg_120_1, zg_120_2, zg_120_3, zg_121_0, zg_122_0, zg_124_0, zg_126_0, zg_127_0, zg_128_0, zg_129_0, zg_131_0, zg_131_1, zg_131_2, zg_131_3, Nat.reduceAdd, Nat.reduceMul, Int32.reduceAdd, Int32.reduceSub, Int32.reduceMul]
          first
          | refine ⟨vp_inb rfl, ?_⟩
          | refine ⟨fun h => absurd h (of_decide_eq_false rfl), fun _ => ?_⟩
          | refine ⟨fun _ => ?_, fun h => absurd (of_decide_eq_true rfl) h⟩
          | refine ⟨fun _ => ?_, fun h => absurd h (of_decide_eq_false rfl)⟩
          | refine ⟨fun h => absurd (of_decide_eq_true rfl) h, fun _ => ?_⟩
          | refine ⟨of_decide_eq_true rfl, ?_⟩
          | refine ⟨rfl, ?_⟩)
  try (conv => whnf)
  first | exact rfl | exact ⟨rfl, rfl⟩
set_option maxRecDepth 100000 in
set_option maxHeartbeats 4000000 in
theorem zlc11 {p : Program} {e : Env} {s : State} {m : MethodId} {below : List Frame} {meth : Method} {c : Code} (l : Launch) (hlt : l.stackTraces = false) {b : Nat} {xs : Nat → Int32} {D : va_G} {cA : Nat → ClassId} (F9 : zLf p s m meth c b 7 xs D cA) : zLw p l e s m below meth c b D cA 931 zl0 [] (234, 11049) (145, zSH, zRH, zs0, zt0) := by
  obtain ⟨F, hml, hNw, hX, -, -, -⟩ := id F9
  have hA : ∀ q : Nat, s.heap.size ≤ q → (fun q => s.heap.size ≤ q) q := fun _ h => h
  have hS := zlaw_step (l := l) (e := e) (below := below) F9 (zCL_law11 [(151, 0, 0, spX7_variables, rmX7_variables.cells, rmX7_variables.slots), (154, 0, 0, spX8_variables, rmX8_variables.cells, rmX8_variables.slots)]) (zscr xs) zpL_law11 [2219] zkL_law11 ⟨by decide +kernel, by decide +kernel, by decide +kernel, by decide +kernel⟩ rfl rfl zscr_sc zscr_sl ⟨zco_V hX hA F hml hNw (zct_X (ctX7_variables l D cA)) ⟨⟨zlL_law11_151, zwX7_variables.1.1, zwX7_variables.1.2⟩, zwX7_variables.2⟩ zdX7_variables ⟨Nat.le_of_ble_eq_true rfl, Nat.le_of_ble_eq_true rfl⟩ (ci := 7) (by decide) rfl (by rintro av μ K ⟨x, rfl, rfl, -⟩; exact ⟨_, _, rfl, rfl⟩), zco_V hX hA F hml hNw (zct_X (ctX8_variables l D cA)) ⟨⟨zlL_law11_154, zwX8_variables.1.1, zwX8_variables.1.2⟩, zwX8_variables.2⟩ zdX8_variables ⟨Nat.le_of_ble_eq_true rfl, Nat.le_of_ble_eq_true rfl⟩ (ci := 8) (by decide) rfl (by rintro av μ K ⟨x, rfl, rfl, -⟩; exact ⟨_, _, rfl, rfl⟩), trivial⟩
  have hZ := zLw_Z (p := p) (l := l) (e := e) (s := s) (m := m) (below := below) (meth := meth) (c := c) (b := b) (D := D) (cA := cA)
  generalize zLw p l e s m below meth c b D cA = Gl at hS hZ ⊢
  refine hS 400 _ _ _ _ _ ?_
  repeat (conv => whnf
          try dsimp only
          try simp (decide := true) only [zu_same, zu_ne1, zu_ne2, zuL_same, zuL_ne1, zuL_ne2, zrow_n1, zx0, zx1, zx2, zx3, zf_0_13, zf_0_14, zf_0_15, zf_1_3, zf_15_0, zf_16_0, zf_17_10, zf_86_3, zf_90_6, zf_90_7, zf_94_7, zf_100_6, zf_100_7, zf_118_0, zf_118_1, zf_118_2, zf_118_3, zg_119_0, zg_119_5, zg_119_9, zg_119_15, zg_119_19, zg_119_22, zg_119_1, zg_119_16, zg_120_0, zg_120_1, zg_120_2, zg_120_3, zg_121_0, zg_122_0, zg_124_0, zg_126_0, zg_127_0, zg_128_0, zg_129_0, zg_131_0, zg_131_1, zg_131_2, zg_131_3, Nat.reduceAdd, Nat.reduceMul, Int32.reduceAdd, Int32.reduceSub, Int32.reduceMul]
          first
          | refine ⟨vp_inb rfl, ?_⟩
          | refine ⟨fun h => absurd h (of_decide_eq_false rfl), fun _ => ?_⟩
          | refine ⟨fun _ => ?_, fun h => absurd (of_decide_eq_true rfl) h⟩
          | refine ⟨fun _ => ?_, fun h => absurd h (of_decide_eq_false rfl)⟩
          | refine ⟨fun h => absurd (of_decide_eq_true rfl) h, fun _ => ?_⟩
          | refine ⟨of_decide_eq_true rfl, ?_⟩
          | refine ⟨rfl, ?_⟩)
  try (conv => whnf)
  refine ⟨(), rfl, rfl, trivial, ?_⟩
  try dsimp only
  repeat (conv => whnf
          try dsimp only
          try simp (decide := true) only [zu_same, zu_ne1, zu_ne2, zuL_same, zuL_ne1, zuL_ne2, zrow_n1, zx0, zx1, zx2, zx3, zf_0_13, zf_0_14, zf_0_15, zf_1_3, zf_15_0, zf_16_0, zf_17_10, zf_86_3, zf_90_6, zf_90_7, zf_94_7, zf_100_6, zf_100_7, zf_118_0, zf_118_1, zf_118_2, zf_118_3, zg_119_0, zg_119_5, zg_119_9, zg_119_15, zg_119_19, zg_119_22, zg_119_1, zg_119_16, zg_120_0, zg_120_1, zg_120_2, zg_120_3, zg_121_0, zg_122_0, zg_124_0, zg_126_0, zg_127_0, zg_128_0, zg_129_0, zg_131_0, zg_131_1, zg_131_2, zg_131_3, Nat.reduceAdd, Nat.reduceMul, Int32.reduceAdd, Int32.reduceSub, Int32.reduceMul]
          first
          | refine ⟨vp_inb rfl, ?_⟩
          | refine ⟨fun h => absurd h (of_decide_eq_false rfl), fun _ => ?_⟩
          | refine ⟨fun _ => ?_, fun h => absurd (of_decide_eq_true rfl) h⟩
          | refine ⟨fun _ => ?_, fun h => absurd h (of_decide_eq_false rfl)⟩
          | refine ⟨fun h => absurd (of_decide_eq_true rfl) h, fun _ => ?_⟩
          | refine ⟨of_decide_eq_true rfl, ?_⟩
          | refine ⟨rfl, ?_⟩)
  try (conv => whnf)
  refine ⟨(zs0, zt0, 0), rfl, zF0e, trivial, ?_⟩
  try dsimp only
  rintro _ μ2 ⟨rfl, -⟩
  repeat (conv => whnf
          try dsimp only
          try simp (decide := true) only [zu_same, zu_ne1, zu_ne2, zuL_same, zuL_ne1, zuL_ne2, zrow_n1, zx0, zx1, zx2, zx3, zf_0_13, zf_0_14, zf_0_15, zf_1_3, zf_15_0, zf_16_0, zf_17_10, zf_86_3, zf_90_6, zf_90_7, zf_94_7, zf_100_6, zf_100_7, zf_118_0, zf_118_1, zf_118_2, zf_118_3, zg_119_0, zg_119_5, zg_119_9, zg_119_15, zg_119_19, zg_119_22, zg_119_1, zg_119_16, zg_120_0, zg_120_1, zg_120_2, zg_120_3, zg_121_0, zg_122_0, zg_124_0, zg_126_0, zg_127_0, zg_128_0, zg_129_0, zg_131_0, zg_131_1, zg_131_2, zg_131_3, Nat.reduceAdd, Nat.reduceMul, Int32.reduceAdd, Int32.reduceSub, Int32.reduceMul]
          first
          | refine ⟨vp_inb rfl, ?_⟩
          | refine ⟨fun h => absurd h (of_decide_eq_false rfl), fun _ => ?_⟩
          | refine ⟨fun _ => ?_, fun h => absurd (of_decide_eq_true rfl) h⟩
          | refine ⟨fun _ => ?_, fun h => absurd h (of_decide_eq_false rfl)⟩
          | refine ⟨fun h => absurd (of_decide_eq_true rfl) h, fun _ => ?_⟩
          | refine ⟨of_decide_eq_true rfl, ?_⟩
          | refine ⟨rfl, ?_⟩)
  try (conv => whnf)
  refine hZ _ _ _ _ _ ?_
  refine hS 40 _ _ _ _ _ ?_
  repeat (conv => whnf
          try dsimp only
          try simp (decide := true) only [zu_same, zu_ne1, zu_ne2, zuL_same, zuL_ne1, zuL_ne2, zrow_n1, zx0, zx1, zx2, zx3, zf_0_13, zf_0_14, zf_0_15, zf_1_3, zf_15_0, zf_16_0, zf_17_10, zf_86_3, zf_90_6, zf_90_7, zf_94_7, zf_100_6, zf_100_7, zf_118_0, zf_118_1, zf_118_2, zf_118_3, zg_119_0, zg_119_5, zg_119_9, zg_119_15, zg_119_19, zg_119_22, zg_119_1, zg_119_16, zg_120_0, zg_120_1, zg_120_2, zg_120_3, zg_121_0, zg_122_0, zg_124_0, zg_126_0, zg_127_0, zg_128_0, zg_129_0, zg_131_0, zg_131_1, zg_131_2, zg_131_3, Nat.reduceAdd, Nat.reduceMul, Int32.reduceAdd, Int32.reduceSub, Int32.reduceMul]
          first
          | refine ⟨vp_inb rfl, ?_⟩
          | refine ⟨fun h => absurd h (of_decide_eq_false rfl), fun _ => ?_⟩
          | refine ⟨fun _ => ?_, fun h => absurd (of_decide_eq_true rfl) h⟩
          | refine ⟨fun _ => ?_, fun h => absurd h (of_decide_eq_false rfl)⟩
          | refine ⟨fun h => absurd (of_decide_eq_true rfl) h, fun _ => ?_⟩
          | refine ⟨of_decide_eq_true rfl, ?_⟩
          | refine ⟨rfl, ?_⟩)
  try (conv => whnf)
  first | exact rfl | exact ⟨rfl, rfl⟩

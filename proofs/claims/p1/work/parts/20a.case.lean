/-! ===== the law's cases ===== -/
set_option maxRecDepth 100000 in
set_option maxHeartbeats 4000000 in
theorem zlc12 {p : Program} {e : Env} {s : State} {m : MethodId} {below : List Frame} {meth : Method} {c : Code} (l : Launch) (hlt : l.stackTraces = false) {b : Nat} {xs : Nat → Int32} {D : va_G} {cA : Nat → ClassId} (F9 : zLf p s m meth c b 7 xs D cA) : zLw p l e s m below meth c b D cA 944 zl0 [] (234, 11049) (145, zSH, zRH, zs0, zt0) := by
  obtain ⟨F, hml, hNw, hX, -, -, -⟩ := id F9
  have hA : ∀ q : Nat, s.heap.size ≤ q → (fun q => s.heap.size ≤ q) q := fun _ h => h
  have hS := zlaw_step (l := l) (e := e) (below := below) F9 (zCL_law12 [(155, 0, 0, spX7_parts, rmX7_parts.cells, rmX7_parts.slots), (158, 0, 0, spX8_parts, rmX8_parts.cells, rmX8_parts.slots)]) (zscr xs) zpL_law12 [2219] zkL_law12 ⟨by decide +kernel, by decide +kernel, by decide +kernel, by decide +kernel⟩ rfl rfl zscr_sc zscr_sl ⟨zco_V hX hA F hml hNw (zct_X (ctX7_parts l D cA)) ⟨⟨zlL_law12_155, zwX7_parts.1.1, zwX7_parts.1.2⟩, zwX7_parts.2⟩ zdX7_parts ⟨Nat.le_of_ble_eq_true rfl, Nat.le_of_ble_eq_true rfl⟩ (ci := 7) (by decide) rfl (by rintro av μ K ⟨x, rfl, rfl, -⟩; exact ⟨_, _, rfl, rfl⟩), zco_V hX hA F hml hNw (zct_X (ctX8_parts l D cA)) ⟨⟨zlL_law12_158, zwX8_parts.1.1, zwX8_parts.1.2⟩, zwX8_parts.2⟩ zdX8_parts ⟨Nat.le_of_ble_eq_true rfl, Nat.le_of_ble_eq_true rfl⟩ (ci := 8) (by decide) rfl (by rintro av μ K ⟨x, rfl, rfl, -⟩; exact ⟨_, _, rfl, rfl⟩), trivial⟩
  have hZ := zLw_Z (p := p) (l := l) (e := e) (s := s) (m := m) (below := below) (meth := meth) (c := c) (b := b) (D := D) (cA := cA)
  generalize zLw p l e s m below meth c b D cA = Gl at hS hZ ⊢
  refine hS 400 _ _ _ _ _ ?_
  repeat (conv => whnf
          try dsimp only
          try simp (decide := true) only [zu_same, zu_ne1, zu_ne2, zuL_same, zuL_ne1, zuL_ne2, zrow_n1, zx0, zx1, zx2, zx3, zf_0_13, zf_0_14, zf_0_15, zf_1_3, zf_15_0, zf_16_0, zf_17_10, zf_86_3, zf_90_6, zf_90_7, zf_94_7, zf_100_6, zf_100_7, zf_118_0, zf_118_1, zf_118_2, zf_118_3, zg_119_0, zg_119_5, zg_119_9, zg_119_15, zg_119_19, zg_119_22, zg_119_1, zg_119_16, zg_120_0, zg_120_1, zg_120_2, zg_120_3, zg_121_0, zg_122_0, zg_124_0, zg_126_0, zg_127_0, zg_128_0, zg_129_0, zg_131_0, zg_131_1, zg_131_2, zg_131_3, Nat.reduceAdd, Nat.reduceMul, Int32.reduceAdd, Int32.reduceSub, Int32.reduceMul]
          first
          | refine ⟨vp_inb rfl, ?_⟩
          | refine ⟨fun h => absurd h (of_decide_eq_false rfl), fun _ => ?_⟩
          | refine ⟨fun _ => ?_, fun h => absurd (of_decide_eq_true rfl) h⟩
          | refine ⟨fun _ => ?_, fun h => absurd h (of_decide_eq_false rfl)⟩
          | refine ⟨fun h => absurd (of_decide_eq_true rfl) h, fun _ => ?_⟩
          | refine ⟨of_decide_eq_true rfl, ?_⟩
          | refine ⟨rfl, ?_⟩)
  try (conv => whnf)
  refine ⟨(), rfl, rfl, trivial, ?_⟩
  try dsimp only
  repeat (conv => whnf
          try dsimp only
          try simp (decide := true) only [zu_same, zu_ne1, zu_ne2, zuL_same, zuL_ne1, zuL_ne2, zrow_n1, zx0, zx1, zx2, zx3, zf_0_13, zf_0_14, zf_0_15, zf_1_3, zf_15_0, zf_16_0, zf_17_10, zf_86_3, zf_90_6, zf_90_7, zf_94_7, zf_100_6, zf_100_7, zf_118_0, zf_118_1, zf_118_2, zf_118_3, zg_119_0, zg_119_5, zg_119_9, zg_119_15, zg_119_19, zg_119_22, zg_119_1, zg_119_16, zg_120_0, zg_120_1, zg_120_2, zg_120_3, zg_121_0, zg_122_0, zg_124_0, zg_126_0, zg_127_0, zg_128_0, zg_129_0, zg_131_0, zg_131_1, zg_131_2, zg_131_3, Nat.reduceAdd, Nat.reduceMul, Int32.reduceAdd, Int32.reduceSub, Int32.reduceMul]
          first
          | refine ⟨vp_inb rfl, ?_⟩
          | refine ⟨fun h => absurd h (of_decide_eq_false rfl), fun _ => ?_⟩
          | refine ⟨fun _ => ?_, fun h => absurd (of_decide_eq_true rfl) h⟩
          | refine ⟨fun _ => ?_, fun h => absurd h (of_decide_eq_false rfl)⟩
          | refine ⟨fun h => absurd (of_decide_eq_true rfl) h, fun _ => ?_⟩
          | refine ⟨of_decide_eq_true rfl, ?_⟩
          | refine ⟨rfl, ?_⟩)
  try (conv => whnf)
  refine ⟨(zs0, zt0, 0), rfl, zF0e, trivial, ?_⟩
  try dsimp only
  rintro _ μ2 ⟨rfl, -⟩
  repeat (conv => whnf
          try dsimp only
          try simp (decide := true) only [zu_same, zu_ne1, zu_ne2, zuL_same, zuL_ne1, zuL_ne2, zrow_n1, zx0, zx1, zx2, zx3, zf_0_13, zf_0_14, zf_0_15, zf_1_3, zf_15_0, zf_16_0, zf_17_10, zf_86_3, zf_90_6, zf_90_7, zf_94_7, zf_100_6, zf_100_7, zf_118_0, zf_118_1, zf_118_2, zf_118_3, zg_119_0, zg_119_5, zg_119_9, zg_119_15, zg_119_19, zg_119_22, zg_119_1, zg_119_16, zg_120_0, zg_120_1, zg_120_2, zg_120_3, zg_121_0, zg_122_0, zg_124_0, zg_126_0, zg_127_0, zg_128_0, zg_129_0, zg_131_0, zg_131_1, zg_131_2, zg_131_3, Nat.reduceAdd, Nat.reduceMul, Int32.reduceAdd, Int32.reduceSub, Int32.reduceMul]
          first
          | refine ⟨vp_inb rfl, ?_⟩
          | refine ⟨fun h => absurd h (of_decide_eq_false rfl), fun _ => ?_⟩
          | refine ⟨fun _ => ?_, fun h => absurd (of_decide_eq_true rfl) h⟩
          | refine ⟨fun _ => ?_, fun h => absurd h (of_decide_eq_false rfl)⟩
          | refine ⟨fun h => absurd (of_decide_eq_true rfl) h, fun _ => ?_⟩
          | refine ⟨of_decide_eq_true rfl, ?_⟩
          | refine ⟨rfl, ?_⟩)
  try (conv => whnf)
  refine hZ _ _ _ _ _ ?_
  refine hS 40 _ _ _ _ _ ?_
  repeat (conv => whnf
          try dsimp only
          try simp (decide := true) only [zu_same, zu_ne1, zu_ne2, zuL_same, zuL_ne1, zuL_ne2, zrow_n1, zx0, zx1, zx2, zx3, zf_0_13, zf_0_14, zf_0_15, zf_1_3, zf_15_0, zf_16_0, zf_17_10, zf_86_3, zf_90_6, zf_90_7, zf_94_7, zf_100_6, zf_100_7, zf_118_0, zf_118_1, zf_118_2, zf_118_3, zg_119_0, zg_119_5, zg_119_9, zg_119_15, zg_119_19, zg_119_22, zg_119_1, zg_119_16, zg_120_0, zg_120_1, zg_120_2, zg_120_3, zg_121_0, zg_122_0, zg_124_0, zg_126_0, zg_127_0, zg_128_0, zg_129_0, zg_131_0, zg_131_1, zg_131_2, zg_131_3, Nat.reduceAdd, Nat.reduceMul, Int32.reduceAdd, Int32.reduceSub, Int32.reduceMul]
          first
          | refine ⟨vp_inb rfl, ?_⟩
          | refine ⟨fun h => absurd h (of_decide_eq_false rfl), fun _ => ?_⟩
          | refine ⟨fun _ => ?_, fun h => absurd (of_decide_eq_true rfl) h⟩
          | refine ⟨fun _ => ?_, fun h => absurd h (of_decide_eq_false rfl)⟩
          | refine ⟨fun h => absurd (of_decide_eq_true rfl) h, fun _ => ?_⟩
          | refine ⟨of_decide_eq_true rfl, ?_⟩
          | refine ⟨rfl, ?_⟩)
  try (conv => whnf)
  first | exact rfl | exact ⟨rfl, rfl⟩
set_option maxRecDepth 100000 in
set_option maxHeartbeats 4000000 in
theorem zlc13 {p : Program} {e : Env} {s : State} {m : MethodId} {below : List Frame} {meth : Method} {c : Code} (l : Launch) (hlt : l.stackTraces = false) {b : Nat} {xs : Nat → Int32} {D : va_G} {cA : Nat → ClassId} (F9 : zLf p s m meth c b 7 xs D cA) : zLw p l e s m below meth c b D cA 957 zl0 [] (234, 11049) (145, zSH, zRH, zs0, zt0) := by
  obtain ⟨F, hml, hNw, hX, -, -, -⟩ := id F9
  have hA : ∀ q : Nat, s.heap.size ≤ q → (fun q => s.heap.size ≤ q) q := fun _ h => h
  have hS := zlaw_step (l := l) (e := e) (below := below) F9 (zCL_law13 [(159, 1, 4, spL_exponent, rmL_exponent.cells, rmL_exponent.slots), (161, 0, 2, spX8_exponent, rmX8_exponent.cells, rmX8_exponent.slots), (113, 0, 0, spX8_thrown, rmX8_thrown.cells, rmX8_thrown.slots)]) (zscr xs) zpL_law13 [2219] zkL_law13 ⟨by decide +kernel, by decide +kernel, by decide +kernel, by decide +kernel⟩ rfl rfl zscr_sc zscr_sl ⟨zco_SW hX hA F hml hNw (zctW_X (ctL_exponent l hlt D cA)) ⟨⟨zlL_law13_159, zwL_exponent.1⟩, zwL_exponent.2⟩ zdL_exponent ⟨Nat.le_of_ble_eq_true rfl, Nat.le_of_ble_eq_true rfl⟩, zco_V hX hA F hml hNw (zct_X (ctX8_exponent l D cA)) ⟨⟨zlL_law13_161, zwX8_exponent.1.1, zwX8_exponent.1.2⟩, zwX8_exponent.2⟩ zdX8_exponent ⟨Nat.le_of_ble_eq_true rfl, Nat.le_of_ble_eq_true rfl⟩ (ci := 8) (by decide) rfl (by rintro av μ K ⟨x, rfl, rfl, -⟩; exact ⟨_, _, rfl, rfl⟩), zco_V hX hA F hml hNw (zct_X (ctX8_thrown l D cA)) ⟨⟨zlL_law13_113, zwX8_thrown.1.1, zwX8_thrown.1.2⟩, zwX8_thrown.2⟩ zdX8_thrown ⟨Nat.le_of_ble_eq_true rfl, Nat.le_of_ble_eq_true rfl⟩ (ci := 8) (by decide) rfl (by rintro av μ K ⟨⟨μ0, x9⟩, rfl, rfl, h9, -⟩; exact ⟨_, _, rfl, congrArg Prod.fst h9.1⟩), trivial⟩
  have hZ := zLw_Z (p := p) (l := l) (e := e) (s := s) (m := m) (below := below) (meth := meth) (c := c) (b := b) (D := D) (cA := cA)
  generalize zLw p l e s m below meth c b D cA = Gl at hS hZ ⊢
  refine hS 400 _ _ _ _ _ ?_
  repeat (conv => whnf
          try dsimp only
          try simp (decide := true) only [zu_same, zu_ne1, zu_ne2, zuL_same, zuL_ne1, zuL_ne2, zrow_n1, zx0, zx1, zx2, zx3, zf_0_13, zf_0_14, zf_0_15, zf_1_3, zf_15_0, zf_16_0, zf_17_10, zf_86_3, zf_90_6, zf_90_7, zf_94_7, zf_100_6, zf_100_7, zf_118_0, zf_118_1, zf_118_2, zf_118_3, zg_119_0, zg_119_5, zg_119_9, zg_119_15, zg_119_19, zg_119_22, zg_119_1, zg_119_16, zg_120_0, zg_120_1, zg_120_2, zg_120_3, zg_121_0, zg_122_0, zg_124_0, zg_126_0, zg_127_0, zg_128_0, zg_129_0, zg_131_0, zg_131_1, zg_131_2, zg_131_3, Nat.reduceAdd, Nat.reduceMul, Int32.reduceAdd, Int32.reduceSub, Int32.reduceMul]
          first
          | refine ⟨vp_inb rfl, ?_⟩
          | refine ⟨fun h => absurd h (of_decide_eq_false rfl), fun _ => ?_⟩
          | refine ⟨fun _ => ?_, fun h => absurd (of_decide_eq_true rfl) h⟩
          | refine ⟨fun _ => ?_, fun h => absurd h (of_decide_eq_false rfl)⟩
          | refine ⟨fun h => absurd (of_decide_eq_true rfl) h, fun _ => ?_⟩
          | refine ⟨of_decide_eq_true rfl, ?_⟩
          | refine ⟨rfl, ?_⟩)
  try (conv => whnf)
  refine ⟨(xs 1, xs 2), rfl, rfl, trivial, ?_⟩
  try dsimp only
  rintro _ _ ⟨rfl, σ1, τ1, rfl⟩
  repeat (conv => whnf
          try dsimp only
          try simp (decide := true) only [zu_same, zu_ne1, zu_ne2, zuL_same, zuL_ne1, zuL_ne2, zrow_n1, zx0, zx1, zx2, zx3, zf_0_13, zf_0_14, zf_0_15, zf_1_3, zf_15_0, zf_16_0, zf_17_10, zf_86_3, zf_90_6, zf_90_7, zf_94_7, zf_100_6, zf_100_7, zf_118_0, zf_118_1, zf_118_2, zf_118_3, zg_119_0, zg_119_5, zg_119_9, zg_119_15, zg_119_19, zg_119_22, zg_119_1, zg_119_16, zg_120_0, zg_120_1, zg_120_2, zg_120_3, zg_121_0, zg_122_0, zg_124_0, zg_126_0, zg_127_0, zg_128_0, zg_129_0, zg_131_0, zg_131_1, zg_131_2, zg_131_3, Nat.reduceAdd, Nat.reduceMul, Int32.reduceAdd, Int32.reduceSub, Int32.reduceMul]
          first
          | refine ⟨vp_inb rfl, ?_⟩
          | refine ⟨fun h => absurd h (of_decide_eq_false rfl), fun _ => ?_⟩
          | refine ⟨fun _ => ?_, fun h => absurd (of_decide_eq_true rfl) h⟩
          | refine ⟨fun _ => ?_, fun h => absurd h (of_decide_eq_false rfl)⟩
          | refine ⟨fun h => absurd (of_decide_eq_true rfl) h, fun _ => ?_⟩
          | refine ⟨of_decide_eq_true rfl, ?_⟩
          | refine ⟨rfl, ?_⟩)
  try (conv => whnf)
  refine ⟨(xs 1, xs 2, σ1, τ1, 0), rfl, rfl, trivial, ?_⟩
  try dsimp only
  rintro _ μ2 ⟨rfl, h1, h2, h3, h4⟩
  repeat (first
    | (conv => whnf
       try dsimp only
       try simp (decide := true) only [h1, h2, h3, h4, zu_same, zu_ne1, zu_ne2, zuL_same, zuL_ne1, zuL_ne2, zrow_n1, zx0, zx1, zx2, zx3, zf_0_13, zf_0_14, zf_0_15, zf_1_3, zf_15_0, zf_16_0, zf_17_10, zf_86_3, zf_90_6, zf_90_7, zf_94_7, zf_100_6, zf_100_7, zf_118_0, zf_118_1, zf_118_2, zf_118_3, zg_119_0, zg_119_5, zg_119_9, zg_119_15, zg_119_19, zg_119_22, zg_119_1, zg_119_16, zg_120_0, zg_120_1, zg_120_2, zg_120_3, zg_121_0, zg_122_0, zg_124_0, zg_126_0, zg_127_0, zg_128_0, zg_129_0, zg_131_0, zg_131_1, zg_131_2, zg_131_3, Nat.reduceAdd, Nat.reduceMul, Int32.reduceAdd, Int32.reduceSub, Int32.reduceMul]
       first
       | refine ⟨vp_inb rfl, ?_⟩
       | refine ⟨fun h => absurd h (of_decide_eq_false rfl), fun _ => ?_⟩
       | refine ⟨fun _ => ?_, fun h => absurd (of_decide_eq_true rfl) h⟩
       | refine ⟨fun _ => ?_, fun h => absurd h (of_decide_eq_false rfl)⟩
       | refine ⟨fun h => absurd (of_decide_eq_true rfl) h, fun _ => ?_⟩
       | refine ⟨of_decide_eq_true rfl, ?_⟩
       | refine ⟨rfl, ?_⟩)
    | (conv => whnf
       fail_if_success refine Exists.intro ?_ ?_
       simp only [h1, h2, h3, h4]))
  try (conv => whnf)
  refine ⟨(μ2, ()), rfl, rfl, ⟨h1, trivial⟩, ?_⟩
  try dsimp only
  repeat (first
    | (conv => whnf
       try dsimp only
       try simp (decide := true) only [h1, h2, h3, h4, zu_same, zu_ne1, zu_ne2, zuL_same, zuL_ne1, zuL_ne2, zrow_n1, zx0, zx1, zx2, zx3, zf_0_13, zf_0_14, zf_0_15, zf_1_3, zf_15_0, zf_16_0, zf_17_10, zf_86_3, zf_90_6, zf_90_7, zf_94_7, zf_100_6, zf_100_7, zf_118_0, zf_118_1, zf_118_2, zf_118_3, zg_119_0, zg_119_5, zg_119_9, zg_119_15, zg_119_19, zg_119_22, zg_119_1, zg_119_16, zg_120_0, zg_120_1, zg_120_2, zg_120_3, zg_121_0, zg_122_0, zg_124_0, zg_126_0, zg_127_0, zg_128_0, zg_129_0, zg_131_0, zg_131_1, zg_131_2, zg_131_3, Nat.reduceAdd, Nat.reduceMul, Int32.reduceAdd, Int32.reduceSub, Int32.reduceMul]
       first
       | refine ⟨vp_inb rfl, ?_⟩
       | refine ⟨fun h => absurd h (of_decide_eq_false rfl), fun _ => ?_⟩
       | refine ⟨fun _ => ?_, fun h => absurd (of_decide_eq_true rfl) h⟩
       | refine ⟨fun _ => ?_, fun h => absurd h (of_decide_eq_false rfl)⟩
       | refine ⟨fun h => absurd (of_decide_eq_true rfl) h, fun _ => ?_⟩
       | refine ⟨of_decide_eq_true rfl, ?_⟩
       | refine ⟨rfl, ?_⟩)
    | (conv => whnf
       fail_if_success refine Exists.intro ?_ ?_
       simp only [h1, h2, h3, h4]))
  try (conv => whnf)
  refine hZ _ _ _ _ _ ?_
  refine hS 40 _ _ _ _ _ ?_
  repeat (conv => whnf
          try dsimp only
          try simp (decide := true) only [zu_same, zu_ne1, zu_ne2, zuL_same, zuL_ne1, zuL_ne2, zrow_n1, zx0, zx1, zx2, zx3, zf_0_13, zf_0_14, zf_0_15, zf_1_3, zf_15_0, zf_16_0, zf_17_10, zf_86_3, zf_90_6, zf_90_7, zf_94_7, zf_100_6, zf_100_7, zf_118_0, zf_118_1, zf_118_2, zf_118_3, zg_119_0, zg_119_5, zg_119_9, zg_119_15, zg_119_19, zg_119_22, zg_119_1, zg_119_16, zg_120_0, zg_120_1, zg_120_2, zg_120_3, zg_121_0, zg_122_0, zg_124_0, zg_126_0, zg_127_0, zg_128_0, zg_129_0, zg_131_0, zg_131_1, zg_131_2, zg_131_3, Nat.reduceAdd, Nat.reduceMul, Int32.reduceAdd, Int32.reduceSub, Int32.reduceMul]
          first
          | refine ⟨vp_inb rfl, ?_⟩
          | refine ⟨fun h => absurd h (of_decide_eq_false rfl), fun _ => ?_⟩
          | refine ⟨fun _ => ?_, fun h => absurd (of_decide_eq_true rfl) h⟩
          | refine ⟨fun _ => ?_, fun h => absurd h (of_decide_eq_false rfl)⟩
          | refine ⟨fun h => absurd (of_decide_eq_true rfl) h, fun _ => ?_⟩
          | refine ⟨of_decide_eq_true rfl, ?_⟩
          | refine ⟨rfl, ?_⟩)
  try (conv => whnf)
  first | exact rfl | exact ⟨rfl, rfl⟩
set_option maxRecDepth 100000 in
set_option maxHeartbeats 4000000 in
theorem zlc14 {p : Program} {e : Env} {s : State} {m : MethodId} {below : List Frame} {meth : Method} {c : Code} (l : Launch) (hlt : l.stackTraces = false) {b : Nat} {xs : Nat → Int32} {D : va_G} {cA : Nat → ClassId} (F9 : zLf p s m meth c b 7 xs D cA) : zLw p l e s m below meth c b D cA 1025 zl0 [] (234, 11049) (145, zSH, zRH, zs0, zt0) := by
  obtain ⟨F, hml, hNw, hX, -, -, -⟩ := id F9
  have hA : ∀ q : Nat, s.heap.size ≤ q → (fun q => s.heap.size ≤ q) q := fun _ h => h
  have hS := zlaw_step (l := l) (e := e) (below := below) F9 (zCL_law14 [(162, 0, 0, spX7_faults, rmX7_faults.cells, rmX7_faults.slots), (165, 0, 0, spX8_faults, rmX8_faults.cells, rmX8_faults.slots)]) (zscr xs) zpL_law14 [2219] zkL_law14 ⟨by decide +kernel, by decide +kernel, by decide +kernel, by decide +kernel⟩ rfl rfl zscr_sc zscr_sl ⟨zco_V hX hA F hml hNw (zct_X (ctX7_faults l D cA)) ⟨⟨zlL_law14_162, zwX7_faults.1.1, zwX7_faults.1.2⟩, zwX7_faults.2⟩ zdX7_faults ⟨Nat.le_of_ble_eq_true rfl, Nat.le_of_ble_eq_true rfl⟩ (ci := 7) (by decide) rfl (by rintro av μ K ⟨x, rfl, rfl, -⟩; exact ⟨_, _, rfl, rfl⟩), zco_V hX hA F hml hNw (zct_X (ctX8_faults l D cA)) ⟨⟨zlL_law14_165, zwX8_faults.1.1, zwX8_faults.1.2⟩, zwX8_faults.2⟩ zdX8_faults ⟨Nat.le_of_ble_eq_true rfl, Nat.le_of_ble_eq_true rfl⟩ (ci := 8) (by decide) rfl (by rintro av μ K ⟨x, rfl, rfl, -⟩; exact ⟨_, _, rfl, rfl⟩), trivial⟩
  have hZ := zLw_Z (p := p) (l := l) (e := e) (s := s) (m := m) (below := below) (meth := meth) (c := c) (b := b) (D := D) (cA := cA)
  generalize zLw p l e s m below meth c b D cA = Gl at hS hZ ⊢
  refine hS 400 _ _ _ _ _ ?_
  repeat (conv => whnf
          try dsimp only
          try simp (decide := true) only [zu_same, zu_ne1, zu_ne2, zuL_same, zuL_ne1, zuL_ne2, zrow_n1, zx0, zx1, zx2, zx3, zf_0_13, zf_0_14, zf_0_15, zf_1_3, zf_15_0, zf_16_0, zf_17_10, zf_86_3, zf_90_6, zf_90_7, zf_94_7, zf_100_6, zf_100_7, zf_118_0, zf_118_1, zf_118_2, zf_118_3, zg_119_0, zg_119_5, zg_119_9, zg_119_15, zg_119_19, zg_119_22, zg_119_1, zg_119_16, zg_120_0, zg_120_1, zg_120_2, zg_120_3, zg_121_0, zg_122_0, zg_124_0, zg_126_0, zg_127_0, zg_128_0, zg_129_0, zg_131_0, zg_131_1, zg_131_2, zg_131_3, Nat.reduceAdd, Nat.reduceMul, Int32.reduceAdd, Int32.reduceSub, Int32.reduceMul]
          first
          | refine ⟨vp_inb rfl, ?_⟩
          | refine ⟨fun h => absurd h (of_decide_eq_false rfl), fun _ => ?_⟩
          | refine ⟨fun _ => ?_, fun h => absurd (of_decide_eq_true rfl) h⟩
          | refine ⟨fun _ => ?_, fun h => absurd h (of_decide_eq_false rfl)⟩
          | refine ⟨fun h => absurd (of_decide_eq_true rfl) h, fun _ => ?_⟩
          | refine ⟨of_decide_eq_true rfl, ?_⟩
          | refine ⟨rfl, ?_⟩)
  try (conv => whnf)
  refine ⟨(), rfl, rfl, trivial, ?_⟩
  try dsimp only
  rintro _ _ ⟨rfl, σ1, τ1, rfl⟩
  repeat (conv => whnf
          try dsimp only
          try simp (decide := true) only [zu_same, zu_ne1, zu_ne2, zuL_same, zuL_ne1, zuL_ne2, zrow_n1, zx0, zx1, zx2, zx3, zf_0_13, zf_0_14, zf_0_15, zf_1_3, zf_15_0, zf_16_0, zf_17_10, zf_86_3, zf_90_6, zf_90_7, zf_94_7, zf_100_6, zf_100_7, zf_118_0, zf_118_1, zf_118_2, zf_118_3, zg_119_0, zg_119_5, zg_119_9, zg_119_15, zg_119_19, zg_119_22, zg_119_1, zg_119_16, zg_120_0, zg_120_1, zg_120_2, zg_120_3, zg_121_0, zg_122_0, zg_124_0, zg_126_0, zg_127_0, zg_128_0, zg_129_0, zg_131_0, zg_131_1, zg_131_2, zg_131_3, Nat.reduceAdd, Nat.reduceMul, Int32.reduceAdd, Int32.reduceSub, Int32.reduceMul]
          first
          | refine ⟨vp_inb rfl, ?_⟩
          | refine ⟨fun h => absurd h (of_decide_eq_false rfl), fun _ => ?_⟩
          | refine ⟨fun _ => ?_, fun h => absurd (of_decide_eq_true rfl) h⟩
          | refine ⟨fun _ => ?_, fun h => absurd h (of_decide_eq_false rfl)⟩
          | refine ⟨fun h => absurd (of_decide_eq_true rfl) h, fun _ => ?_⟩
          | refine ⟨of_decide_eq_true rfl, ?_⟩
          | refine ⟨rfl, ?_⟩)
  try (conv => whnf)
  refine ⟨(σ1, τ1, 0), rfl, rfl, trivial, ?_⟩
  try dsimp only
  rintro _ μ2 ⟨rfl, -⟩
  repeat (conv => whnf
          try dsimp only
          try simp (decide := true) only [zu_same, zu_ne1, zu_ne2, zuL_same, zuL_ne1, zuL_ne2, zrow_n1, zx0, zx1, zx2, zx3, zf_0_13, zf_0_14, zf_0_15, zf_1_3, zf_15_0, zf_16_0, zf_17_10, zf_86_3, zf_90_6, zf_90_7, zf_94_7, zf_100_6, zf_100_7, zf_118_0, zf_118_1, zf_118_2, zf_118_3, zg_119_0, zg_119_5, zg_119_9, zg_119_15, zg_119_19, zg_119_22, zg_119_1, zg_119_16, zg_120_0, zg_120_1, zg_120_2, zg_120_3, zg_121_0, zg_122_0, zg_124_0, zg_126_0, zg_127_0, zg_128_0, zg_129_0, zg_131_0, zg_131_1, zg_131_2, zg_131_3, Nat.reduceAdd, Nat.reduceMul, Int32.reduceAdd, Int32.reduceSub, Int32.reduceMul]
          first
          | refine ⟨vp_inb rfl, ?_⟩
          | refine ⟨fun h => absurd h (of_decide_eq_false rfl), fun _ => ?_⟩
          | refine ⟨fun _ => ?_, fun h => absurd (of_decide_eq_true rfl) h⟩
          | refine ⟨fun _ => ?_, fun h => absurd h (of_decide_eq_false rfl)⟩
          | refine ⟨fun h => absurd (of_decide_eq_true rfl) h, fun _ => ?_⟩
          | refine ⟨of_decide_eq_true rfl, ?_⟩
          | refine ⟨rfl, ?_⟩)
  try (conv => whnf)
  refine hZ _ _ _ _ _ ?_
  refine hS 40 _ _ _ _ _ ?_
  repeat (conv => whnf
          try dsimp only
          try simp (decide := true) only [zu_same, zu_ne1, zu_ne2, zuL_same, zuL_ne1, zuL_ne2, zrow_n1, zx0, zx1, zx2, zx3, zf_0_13, zf_0_14, zf_0_15, zf_1_3, zf_15_0, zf_16_0, zf_17_10, zf_86_3, zf_90_6, zf_90_7, zf_94_7, zf_100_6, zf_100_7, zf_118_0, zf_118_1, zf_118_2, zf_118_3, zg_119_0, zg_119_5, zg_119_9, zg_119_15, zg_119_19, zg_119_22, zg_119_1, zg_119_16, zg_120_0, zg_120_1, zg_120_2, zg_120_3, zg_121_0, zg_122_0, zg_124_0, zg_126_0, zg_127_0, zg_128_0, zg_129_0, zg_131_0, zg_131_1, zg_131_2, zg_131_3, Nat.reduceAdd, Nat.reduceMul, Int32.reduceAdd, Int32.reduceSub, Int32.reduceMul]
          first
          | refine ⟨vp_inb rfl, ?_⟩
          | refine ⟨fun h => absurd h (of_decide_eq_false rfl), fun _ => ?_⟩
          | refine ⟨fun _ => ?_, fun h => absurd (of_decide_eq_true rfl) h⟩
          | refine ⟨fun _ => ?_, fun h => absurd h (of_decide_eq_false rfl)⟩
          | refine ⟨fun h => absurd (of_decide_eq_true rfl) h, fun _ => ?_⟩
          | refine ⟨of_decide_eq_true rfl, ?_⟩
          | refine ⟨rfl, ?_⟩)
  try (conv => whnf)
  first | exact rfl | exact ⟨rfl, rfl⟩
set_option maxRecDepth 100000 in
set_option maxHeartbeats 4000000 in
theorem zlc15 {p : Program} {e : Env} {s : State} {m : MethodId} {below : List Frame} {meth : Method} {c : Code} (l : Launch) (hlt : l.stackTraces = false) {b : Nat} {xs : Nat → Int32} {D : va_G} {cA : Nat → ClassId} (F9 : zLf p s m meth c b 7 xs D cA) : zLw p l e s m below meth c b D cA 1038 zl0 [] (234, 11049) (145, zSH, zRH, zs0, zt0) := by
  obtain ⟨F, hml, hNw, hX, -, -, -⟩ := id F9
  have hA : ∀ q : Nat, s.heap.size ≤ q → (fun q => s.heap.size ≤ q) q := fun _ h => h
  have hS := zlaw_step (l := l) (e := e) (below := below) F9 (zCL_law15 [(166, 1, 4, spL_ofFault, rmL_ofFault.cells, rmL_ofFault.slots), (168, 0, 2, spX8_ofFault, rmX8_ofFault.cells, rmX8_ofFault.slots), (113, 0, 0, spX8_thrown, rmX8_thrown.cells, rmX8_thrown.slots)]) (zscr xs) zpL_law15 [2219] zkL_law15 ⟨by decide +kernel, by decide +kernel, by decide +kernel, by decide +kernel⟩ rfl rfl zscr_sc zscr_sl ⟨zco_SW hX hA F hml hNw (zctW_X (ctL_ofFault l hlt D cA)) ⟨⟨zlL_law15_166, zwL_ofFault.1⟩, zwL_ofFault.2⟩ zdL_ofFault ⟨Nat.le_of_ble_eq_true rfl, Nat.le_of_ble_eq_true rfl⟩, zco_V hX hA F hml hNw (zct_X (ctX8_ofFault l D cA)) ⟨⟨zlL_law15_168, zwX8_ofFault.1.1, zwX8_ofFault.1.2⟩, zwX8_ofFault.2⟩ zdX8_ofFault ⟨Nat.le_of_ble_eq_true rfl, Nat.le_of_ble_eq_true rfl⟩ (ci := 8) (by decide) rfl (by rintro av μ K ⟨x, rfl, rfl, -⟩; exact ⟨_, _, rfl, rfl⟩), zco_V hX hA F hml hNw (zct_X (ctX8_thrown l D cA)) ⟨⟨zlL_law15_113, zwX8_thrown.1.1, zwX8_thrown.1.2⟩, zwX8_thrown.2⟩ zdX8_thrown ⟨Nat.le_of_ble_eq_true rfl, Nat.le_of_ble_eq_true rfl⟩ (ci := 8) (by decide) rfl (by rintro av μ K ⟨⟨μ0, x9⟩, rfl, rfl, h9, -⟩; exact ⟨_, _, rfl, congrArg Prod.fst h9.1⟩), trivial⟩
  have hZ := zLw_Z (p := p) (l := l) (e := e) (s := s) (m := m) (below := below) (meth := meth) (c := c) (b := b) (D := D) (cA := cA)
  generalize zLw p l e s m below meth c b D cA = Gl at hS hZ ⊢
  refine hS 400 _ _ _ _ _ ?_
  repeat (conv => whnf
          try dsimp only
          try simp (decide := true) only [zu_same, zu_ne1, zu_ne2, zuL_same, zuL_ne1, zuL_ne2, zrow_n1, zx0, zx1, zx2, zx3, zf_0_13, zf_0_14, zf_0_15, zf_1_3, zf_15_0, zf_16_0, zf_17_10, zf_86_3, zf_90_6, zf_90_7, zf_94_7, zf_100_6, zf_100_7, zf_118_0, zf_118_1, zf_118_2, zf_118_3, zg_119_0, zg_119_5, zg_119_9, zg_119_15, zg_119_19, zg_119_22, zg_119_1, zg_119_16, zg_120_0, zg_120_1, zg_120_2, zg_120_3, zg_121_0, zg_122_0, zg_124_0, zg_126_0, zg_127_0, zg_128_0, zg_129_0, zg_131_0, zg_131_1, zg_131_2, zg_131_3, Nat.reduceAdd, Nat.reduceMul, Int32.reduceAdd, Int32.reduceSub, Int32.reduceMul]
          first
          | refine ⟨vp_inb rfl, ?_⟩
          | refine ⟨fun h => absurd h (of_decide_eq_false rfl), fun _ => ?_⟩
          | refine ⟨fun _ => ?_, fun h => absurd (of_decide_eq_true rfl) h⟩
          | refine ⟨fun _ => ?_, fun h => absurd h (of_decide_eq_false rfl)⟩
          | refine ⟨fun h => absurd (of_decide_eq_true rfl) h, fun _ => ?_⟩
          | refine ⟨of_decide_eq_true rfl, ?_⟩
          | refine ⟨rfl, ?_⟩)
  try (conv => whnf)
  refine ⟨(xs 1, xs 2), rfl, rfl, trivial, ?_⟩
  try dsimp only
  rintro _ _ ⟨rfl, σ1, τ1, rfl⟩
  repeat (conv => whnf
          try dsimp only
          try simp (decide := true) only [zu_same, zu_ne1, zu_ne2, zuL_same, zuL_ne1, zuL_ne2, zrow_n1, zx0, zx1, zx2, zx3, zf_0_13, zf_0_14, zf_0_15, zf_1_3, zf_15_0, zf_16_0, zf_17_10, zf_86_3, zf_90_6, zf_90_7, zf_94_7, zf_100_6, zf_100_7, zf_118_0, zf_118_1, zf_118_2, zf_118_3, zg_119_0, zg_119_5, zg_119_9, zg_119_15, zg_119_19, zg_119_22, zg_119_1, zg_119_16, zg_120_0, zg_120_1, zg_120_2, zg_120_3, zg_121_0, zg_122_0, zg_124_0, zg_126_0, zg_127_0, zg_128_0, zg_129_0, zg_131_0, zg_131_1, zg_131_2, zg_131_3, Nat.reduceAdd, Nat.reduceMul, Int32.reduceAdd, Int32.reduceSub, Int32.reduceMul]
          first
          | refine ⟨vp_inb rfl, ?_⟩
          | refine ⟨fun h => absurd h (of_decide_eq_false rfl), fun _ => ?_⟩
          | refine ⟨fun _ => ?_, fun h => absurd (of_decide_eq_true rfl) h⟩
          | refine ⟨fun _ => ?_, fun h => absurd h (of_decide_eq_false rfl)⟩
          | refine ⟨fun h => absurd (of_decide_eq_true rfl) h, fun _ => ?_⟩
          | refine ⟨of_decide_eq_true rfl, ?_⟩
          | refine ⟨rfl, ?_⟩)
  try (conv => whnf)
  refine ⟨(xs 1, xs 2, σ1, τ1, 0), rfl, rfl, trivial, ?_⟩
  try dsimp only
  rintro _ μ2 ⟨rfl, h1, h2, h3, h4⟩
  repeat (first
    | (conv => whnf
       try dsimp only
       try simp (decide := true) only [h1, h2, h3, h4, zu_same, zu_ne1, zu_ne2, zuL_same, zuL_ne1, zuL_ne2, zrow_n1, zx0, zx1, zx2, zx3, zf_0_13, zf_0_14, zf_0_15, zf_1_3, zf_15_0, zf_16_0, zf_17_10, zf_86_3, zf_90_6, zf_90_7, zf_94_7, zf_100_6, zf_100_7, zf_118_0, zf_118_1, zf_118_2, zf_118_3, zg_119_0, zg_119_5, zg_119_9, zg_119_15, zg_119_19, zg_119_22, zg_119_1, zg_119_16, zg_120_0, zg_120_1, zg_120_2, zg_120_3, zg_121_0, zg_122_0, zg_124_0, zg_126_0, zg_127_0, zg_128_0, zg_129_0, zg_131_0, zg_131_1, zg_131_2, zg_131_3, Nat.reduceAdd, Nat.reduceMul, Int32.reduceAdd, Int32.reduceSub, Int32.reduceMul]
       first
       | refine ⟨vp_inb rfl, ?_⟩
       | refine ⟨fun h => absurd h (of_decide_eq_false rfl), fun _ => ?_⟩
       | refine ⟨fun _ => ?_, fun h => absurd (of_decide_eq_true rfl) h⟩
       | refine ⟨fun _ => ?_, fun h => absurd h (of_decide_eq_false rfl)⟩
       | refine ⟨fun h => absurd (of_decide_eq_true rfl) h, fun _ => ?_⟩
       | refine ⟨of_decide_eq_true rfl, ?_⟩
       | refine ⟨rfl, ?_⟩)
    | (conv => whnf
       fail_if_success refine Exists.intro ?_ ?_
       simp only [h1, h2, h3, h4]))
  try (conv => whnf)
  refine ⟨(μ2, ()), rfl, rfl, ⟨h1, trivial⟩, ?_⟩
  try dsimp only
  repeat (first
    | (conv => whnf
       try dsimp only
       try simp (decide := true) only [h1, h2, h3, h4, zu_same, zu_ne1, zu_ne2, zuL_same, zuL_ne1, zuL_ne2, zrow_n1, zx0, zx1, zx2, zx3, zf_0_13, zf_0_14, zf_0_15, zf_1_3, zf_15_0, zf_16_0, zf_17_10, zf_86_3, zf_90_6, zf_90_7, zf_94_7, zf_100_6, zf_100_7, zf_118_0, zf_118_1, zf_118_2, zf_118_3, zg_119_0, zg_119_5, zg_119_9, zg_119_15, zg_119_19, zg_119_22, zg_119_1, zg_119_16, zg_120_0, zg_120_1, zg_120_2, zg_120_3, zg_121_0, zg_122_0, zg_124_0, zg_126_0, zg_127_0, zg_128_0, zg_129_0, zg_131_0, zg_131_1, zg_131_2, zg_131_3, Nat.reduceAdd, Nat.reduceMul, Int32.reduceAdd, Int32.reduceSub, Int32.reduceMul]
       first
       | refine ⟨vp_inb rfl, ?_⟩
       | refine ⟨fun h => absurd h (of_decide_eq_false rfl), fun _ => ?_⟩
       | refine ⟨fun _ => ?_, fun h => absurd (of_decide_eq_true rfl) h⟩
       | refine ⟨fun _ => ?_, fun h => absurd h (of_decide_eq_false rfl)⟩
       | refine ⟨fun h => absurd (of_decide_eq_true rfl) h, fun _ => ?_⟩
       | refine ⟨of_decide_eq_true rfl, ?_⟩
       | refine ⟨rfl, ?_⟩)
    | (conv => whnf
       fail_if_success refine Exists.intro ?_ ?_
       simp only [h1, h2, h3, h4]))
  try (conv => whnf)
  refine hZ _ _ _ _ _ ?_
  refine hS 40 _ _ _ _ _ ?_
  repeat (conv => whnf
          try dsimp only
          try simp (decide := true) only [zu_same, zu_ne1, zu_ne2, zuL_same, zuL_ne1, zuL_ne2, zrow_n1, zx0, zx1, zx2, zx3, zf_0_13, zf_0_14, zf_0_15, zf_1_3, zf_15_0, zf_16_0, zf_17_10, zf_86_3, zf_90_6, zf_90_7, zf_94_7, zf_100_6, zf_100_7, zf_118_0, zf_118_1, zf_118_2, zf_118_3, zg_119_0, zg_119_5, zg_119_9, zg_119_15, zg_119_19, zg_119_22, zg_119_1, zg_119_16, zg_120_0, zg_120_1, zg_120_2, zg_120_3, zg_121_0, zg_122_0, zg_124_0, zg_126_0, zg_127_0, zg_128_0, zg_129_0, zg_131_0, zg_131_1, zg_131_2, zg_131_3, Nat.reduceAdd, Nat.reduceMul, Int32.reduceAdd, Int32.reduceSub, Int32.reduceMul]
          first
          | refine ⟨vp_inb rfl, ?_⟩
          | refine ⟨fun h => absurd h (of_decide_eq_false rfl), fun _ => ?_⟩
          | refine ⟨fun _ => ?_, fun h => absurd (of_decide_eq_true rfl) h⟩
          | refine ⟨fun _ => ?_, fun h => absurd h (of_decide_eq_false rfl)⟩
          | refine ⟨fun h => absurd (of_decide_eq_true rfl) h, fun _ => ?_⟩
          | refine ⟨of_decide_eq_true rfl, ?_⟩
          | refine ⟨rfl, ?_⟩)
  try (conv => whnf)
  first | exact rfl | exact ⟨rfl, rfl⟩
set_option maxRecDepth 100000 in
set_option maxHeartbeats 4000000 in
theorem zlc16 {p : Program} {e : Env} {s : State} {m : MethodId} {below : List Frame} {meth : Method} {c : Code} (l : Launch) (hlt : l.stackTraces = false) {b : Nat} {xs : Nat → Int32} {D : va_G} {cA : Nat → ClassId} (F9 : zLf p s m meth c b 7 xs D cA) : zLw p l e s m below meth c b D cA 1106 zl0 [] (234, 11049) (145, zSH, zRH, zs0, zt0) := by
  obtain ⟨F, hml, hNw, hX, -, -, -⟩ := id F9
  have hA : ∀ q : Nat, s.heap.size ≤ q → (fun q => s.heap.size ≤ q) q := fun _ h => h
  have hS := zlaw_step (l := l) (e := e) (below := below) F9 (zCL_law16 [(169, 1, 3, spL_leansOn, rmL_leansOn.cells, rmL_leansOn.slots), (171, 0, 1, spX8_leansOn, rmX8_leansOn.cells, rmX8_leansOn.slots), (113, 0, 0, spX8_thrown, rmX8_thrown.cells, rmX8_thrown.slots)]) (zscr xs) zpL_law16 [2219] zkL_law16 ⟨by decide +kernel, by decide +kernel, by decide +kernel, by decide +kernel⟩ rfl rfl zscr_sc zscr_sl ⟨zco_SW hX hA F hml hNw (zctW_X (ctL_leansOn l hlt D cA)) ⟨⟨zlL_law16_169, zwL_leansOn.1⟩, zwL_leansOn.2⟩ zdL_leansOn ⟨Nat.le_of_ble_eq_true rfl, Nat.le_of_ble_eq_true rfl⟩, zco_V hX hA F hml hNw (zct_X (ctX8_leansOn l D cA)) ⟨⟨zlL_law16_171, zwX8_leansOn.1.1, zwX8_leansOn.1.2⟩, zwX8_leansOn.2⟩ zdX8_leansOn ⟨Nat.le_of_ble_eq_true rfl, Nat.le_of_ble_eq_true rfl⟩ (ci := 8) (by decide) rfl (by rintro av μ K ⟨x, rfl, rfl, -⟩; exact ⟨_, _, rfl, rfl⟩), zco_V hX hA F hml hNw (zct_X (ctX8_thrown l D cA)) ⟨⟨zlL_law16_113, zwX8_thrown.1.1, zwX8_thrown.1.2⟩, zwX8_thrown.2⟩ zdX8_thrown ⟨Nat.le_of_ble_eq_true rfl, Nat.le_of_ble_eq_true rfl⟩ (ci := 8) (by decide) rfl (by rintro av μ K ⟨⟨μ0, x9⟩, rfl, rfl, h9, -⟩; exact ⟨_, _, rfl, congrArg Prod.fst h9.1⟩), trivial⟩
  have hZ := zLw_Z (p := p) (l := l) (e := e) (s := s) (m := m) (below := below) (meth := meth) (c := c) (b := b) (D := D) (cA := cA)
  generalize zLw p l e s m below meth c b D cA = Gl at hS hZ ⊢
  refine hS 400 _ _ _ _ _ ?_
  repeat (conv => whnf
          try dsimp only
          try simp (decide := true) only [zu_same, zu_ne1, zu_ne2, zuL_same, zuL_ne1, zuL_ne2, zrow_n1, zx0, zx1, zx2, zx3, zf_0_13, zf_0_14, zf_0_15, zf_1_3, zf_15_0, zf_16_0, zf_17_10, zf_86_3, zf_90_6, zf_90_7, zf_94_7, zf_100_6, zf_100_7, zf_118_0, zf_118_1, zf_118_2, zf_118_3, zg_119_0, zg_119_5, zg_119_9, zg_119_15, zg_119_19, zg_119_22, zg_119_1, zg_119_16, zg_120_0, zg_120_1, zg_120_2, zg_120_3, zg_121_0, zg_122_0, zg_124_0, zg_126_0, zg_127_0, zg_128_0, zg_129_0, zg_131_0, zg_131_1, zg_131_2, zg_131_3, Nat.reduceAdd, Nat.reduceMul, Int32.reduceAdd, Int32.reduceSub, Int32.reduceMul]
          first
          | refine ⟨vp_inb rfl, ?_⟩
          | refine ⟨fun h => absurd h (of_decide_eq_false rfl), fun _ => ?_⟩
          | refine ⟨fun _ => ?_, fun h => absurd (of_decide_eq_true rfl) h⟩
          | refine ⟨fun _ => ?_, fun h => absurd h (of_decide_eq_false rfl)⟩
          | refine ⟨fun h => absurd (of_decide_eq_true rfl) h, fun _ => ?_⟩
          | refine ⟨of_decide_eq_true rfl, ?_⟩
          | refine ⟨rfl, ?_⟩)
  try (conv => whnf)
  refine ⟨xs 1, rfl, rfl, trivial, ?_⟩
  try dsimp only
  rintro _ _ ⟨rfl, σ1, τ1, rfl⟩
  repeat (conv => whnf
          try dsimp only
          try simp (decide := true) only [zu_same, zu_ne1, zu_ne2, zuL_same, zuL_ne1, zuL_ne2, zrow_n1, zx0, zx1, zx2, zx3, zf_0_13, zf_0_14, zf_0_15, zf_1_3, zf_15_0, zf_16_0, zf_17_10, zf_86_3, zf_90_6, zf_90_7, zf_94_7, zf_100_6, zf_100_7, zf_118_0, zf_118_1, zf_118_2, zf_118_3, zg_119_0, zg_119_5, zg_119_9, zg_119_15, zg_119_19, zg_119_22, zg_119_1, zg_119_16, zg_120_0, zg_120_1, zg_120_2, zg_120_3, zg_121_0, zg_122_0, zg_124_0, zg_126_0, zg_127_0, zg_128_0, zg_129_0, zg_131_0, zg_131_1, zg_131_2, zg_131_3, Nat.reduceAdd, Nat.reduceMul, Int32.reduceAdd, Int32.reduceSub, Int32.reduceMul]
          first
          | refine ⟨vp_inb rfl, ?_⟩
          | refine ⟨fun h => absurd h (of_decide_eq_false rfl), fun _ => ?_⟩
          | refine ⟨fun _ => ?_, fun h => absurd (of_decide_eq_true rfl) h⟩
          | refine ⟨fun _ => ?_, fun h => absurd h (of_decide_eq_false rfl)⟩
          | refine ⟨fun h => absurd (of_decide_eq_true rfl) h, fun _ => ?_⟩
          | refine ⟨of_decide_eq_true rfl, ?_⟩
          | refine ⟨rfl, ?_⟩)
  try (conv => whnf)
  refine ⟨(xs 1, σ1, τ1, 0), rfl, rfl, trivial, ?_⟩
  try dsimp only
  rintro _ μ2 ⟨rfl, h1, h2, h3, h4⟩
  repeat (first
    | (conv => whnf
       try dsimp only
       try simp (decide := true) only [h1, h2, h3, h4, zu_same, zu_ne1, zu_ne2, zuL_same, zuL_ne1, zuL_ne2, zrow_n1, zx0, zx1, zx2, zx3, zf_0_13, zf_0_14, zf_0_15, zf_1_3, zf_15_0, zf_16_0, zf_17_10, zf_86_3, zf_90_6, zf_90_7, zf_94_7, zf_100_6, zf_100_7, zf_118_0, zf_118_1, zf_118_2, zf_118_3, zg_119_0, zg_119_5, zg_119_9, zg_119_15, zg_119_19, zg_119_22, zg_119_1, zg_119_16, zg_120_0, zg_120_1, zg_120_2, zg_120_3, zg_121_0, zg_122_0, zg_124_0, zg_126_0, zg_127_0, zg_128_0, zg_129_0, zg_131_0, zg_131_1, zg_131_2, zg_131_3, Nat.reduceAdd, Nat.reduceMul, Int32.reduceAdd, Int32.reduceSub, Int32.reduceMul]
       first
       | refine ⟨vp_inb rfl, ?_⟩
       | refine ⟨fun h => absurd h (of_decide_eq_false rfl), fun _ => ?_⟩
       | refine ⟨fun _ => ?_, fun h => absurd (of_decide_eq_true rfl) h⟩
       | refine ⟨fun _ => ?_, fun h => absurd h (of_decide_eq_false rfl)⟩
       | refine ⟨fun h => absurd (of_decide_eq_true rfl) h, fun _ => ?_⟩
       | refine ⟨of_decide_eq_true rfl, ?_⟩
       | refine ⟨rfl, ?_⟩)
    | (conv => whnf
       fail_if_success refine Exists.intro ?_ ?_
       simp only [h1, h2, h3, h4]))
  try (conv => whnf)
  refine ⟨(μ2, ()), rfl, rfl, ⟨h1, trivial⟩, ?_⟩
  try dsimp only
  repeat (first
    | (conv => whnf
       try dsimp only
       try simp (decide := true) only [h1, h2, h3, h4, zu_same, zu_ne1, zu_ne2, zuL_same, zuL_ne1, zuL_ne2, zrow_n1, zx0, zx1, zx2, zx3, zf_0_13, zf_0_14, zf_0_15, zf_1_3, zf_15_0, zf_16_0, zf_17_10, zf_86_3, zf_90_6, zf_90_7, zf_94_7, zf_100_6, zf_100_7, zf_118_0, zf_118_1, zf_118_2, zf_118_3, zg_119_0, zg_119_5, zg_119_9, zg_119_15, zg_119_19, zg_119_22, zg_119_1, zg_119_16, zg_120_0, zg_120_1, zg_120_2, zg_120_3, zg_121_0, zg_122_0, zg_124_0, zg_126_0, zg_127_0, zg_128_0, zg_129_0, zg_131_0, zg_131_1, zg_131_2, zg_131_3, Nat.reduceAdd, Nat.reduceMul, Int32.reduceAdd, Int32.reduceSub, Int32.reduceMul]
       first
       | refine ⟨vp_inb rfl, ?_⟩
       | refine ⟨fun h => absurd h (of_decide_eq_false rfl), fun _ => ?_⟩
       | refine ⟨fun _ => ?_, fun h => absurd (of_decide_eq_true rfl) h⟩
       | refine ⟨fun _ => ?_, fun h => absurd h (of_decide_eq_false rfl)⟩
       | refine ⟨fun h => absurd (of_decide_eq_true rfl) h, fun _ => ?_⟩
       | refine ⟨of_decide_eq_true rfl, ?_⟩
       | refine ⟨rfl, ?_⟩)
    | (conv => whnf
       fail_if_success refine Exists.intro ?_ ?_
       simp only [h1, h2, h3, h4]))
  try (conv => whnf)
  refine hZ _ _ _ _ _ ?_
  refine hS 40 _ _ _ _ _ ?_
  repeat (conv => whnf
          try dsimp only
          try simp (decide := true) only [zu_same, zu_ne1, zu_ne2, zuL_same, zuL_ne1, zuL_ne2, zrow_n1, zx0, zx1, zx2, zx3, zf_0_13, zf_0_14, zf_0_15, zf_1_3, zf_15_0, zf_16_0, zf_17_10, zf_86_3, zf_90_6, zf_90_7, zf_94_7, zf_100_6, zf_100_7, zf_118_0, zf_118_1, zf_118_2, zf_118_3, zg_119_0, zg_119_5, zg_119_9, zg_119_15, zg_119_19, zg_119_22, zg_119_1, zg_119_16, zg_120_0, zg_120_1, zg_120_2, zg_120_3, zg_121_0, zg_122_0, zg_124_0, zg_126_0, zg_127_0, zg_128_0, zg_129_0, zg_131_0, zg_131_1, zg_131_2, zg_131_3, Nat.reduceAdd, Nat.reduceMul, Int32.reduceAdd, Int32.reduceSub, Int32.reduceMul]
          first
          | refine ⟨vp_inb rfl, ?_⟩
          | refine ⟨fun h => absurd h (of_decide_eq_false rfl), fun _ => ?_⟩
          | refine ⟨fun _ => ?_, fun h => absurd (of_decide_eq_true rfl) h⟩
          | refine ⟨fun _ => ?_, fun h => absurd h (of_decide_eq_false rfl)⟩
          | refine ⟨fun h => absurd (of_decide_eq_true rfl) h, fun _ => ?_⟩
          | refine ⟨of_decide_eq_true rfl, ?_⟩
          | refine ⟨rfl, ?_⟩)
  try (conv => whnf)
  first | exact rfl | exact ⟨rfl, rfl⟩
set_option maxRecDepth 100000 in
set_option maxHeartbeats 4000000 in
theorem zlc17 {p : Program} {e : Env} {s : State} {m : MethodId} {below : List Frame} {meth : Method} {c : Code} (l : Launch) (hlt : l.stackTraces = false) {b : Nat} {xs : Nat → Int32} {D : va_G} {cA : Nat → ClassId} (F9 : zLf p s m meth c b 7 xs D cA) : zLw p l e s m below meth c b D cA 1162 zl0 [] (234, 11049) (145, zSH, zRH, zs0, zt0) := by
  obtain ⟨F, hml, hNw, hX, -, -, -⟩ := id F9
  have hA : ∀ q : Nat, s.heap.size ≤ q → (fun q => s.heap.size ≤ q) q := fun _ h => h
  have hS := zlaw_step (l := l) (e := e) (below := below) F9 (zCL_law17 [(172, 0, 0, spX7_circles, rmX7_circles.cells, rmX7_circles.slots), (175, 0, 0, spX8_circles, rmX8_circles.cells, rmX8_circles.slots)]) (zscr xs) zpL_law17 [2219] zkL_law17 ⟨by decide +kernel, by decide +kernel, by decide +kernel, by decide +kernel⟩ rfl rfl zscr_sc zscr_sl ⟨zco_V hX hA F hml hNw (zct_X (ctX7_circles l D cA)) ⟨⟨zlL_law17_172, zwX7_circles.1.1, zwX7_circles.1.2⟩, zwX7_circles.2⟩ zdX7_circles ⟨Nat.le_of_ble_eq_true rfl, Nat.le_of_ble_eq_true rfl⟩ (ci := 7) (by decide) rfl (by rintro av μ K ⟨x, rfl, rfl, -⟩; exact ⟨_, _, rfl, rfl⟩), zco_V hX hA F hml hNw (zct_X (ctX8_circles l D cA)) ⟨⟨zlL_law17_175, zwX8_circles.1.1, zwX8_circles.1.2⟩, zwX8_circles.2⟩ zdX8_circles ⟨Nat.le_of_ble_eq_true rfl, Nat.le_of_ble_eq_true rfl⟩ (ci := 8) (by decide) rfl (by rintro av μ K ⟨x, rfl, rfl, -⟩; exact ⟨_, _, rfl, rfl⟩), trivial⟩
  have hZ := zLw_Z (p := p) (l := l) (e := e) (s := s) (m := m) (below := below) (meth := meth) (c := c) (b := b) (D := D) (cA := cA)
  generalize zLw p l e s m below meth c b D cA = Gl at hS hZ ⊢
  refine hS 400 _ _ _ _ _ ?_
  repeat (conv => whnf
          try dsimp only
          try simp (decide := true) only [zu_same, zu_ne1, zu_ne2, zuL_same, zuL_ne1, zuL_ne2, zrow_n1, zx0, zx1, zx2, zx3, zf_0_13, zf_0_14, zf_0_15, zf_1_3, zf_15_0, zf_16_0, zf_17_10, zf_86_3, zf_90_6, zf_90_7, zf_94_7, zf_100_6, zf_100_7, zf_118_0, zf_118_1, zf_118_2, zf_118_3, zg_119_0, zg_119_5, zg_119_9, zg_119_15, zg_119_19, zg_119_22, zg_119_1, zg_119_16, zg_120_0, zg_120_1, zg_120_2, zg_120_3, zg_121_0, zg_122_0, zg_124_0, zg_126_0, zg_127_0, zg_128_0, zg_129_0, zg_131_0, zg_131_1, zg_131_2, zg_131_3, Nat.reduceAdd, Nat.reduceMul, Int32.reduceAdd, Int32.reduceSub, Int32.reduceMul]
          first
          | refine ⟨vp_inb rfl, ?_⟩
          | refine ⟨fun h => absurd h (of_decide_eq_false rfl), fun _ => ?_⟩
          | refine ⟨fun _ => ?_, fun h => absurd (of_decide_eq_true rfl) h⟩
          | refine ⟨fun _ => ?_, fun h => absurd h (of_decide_eq_false rfl)⟩
          | refine ⟨fun h => absurd (of_decide_eq_true rfl) h, fun _ => ?_⟩
          | refine ⟨of_decide_eq_true rfl, ?_⟩
          | refine ⟨rfl, ?_⟩)
  try (conv => whnf)
  refine ⟨(), rfl, rfl, trivial, ?_⟩
  try dsimp only
  rintro _ _ ⟨rfl, σ1, τ1, rfl⟩
  repeat (conv => whnf
          try dsimp only
          try simp (decide := true) only [zu_same, zu_ne1, zu_ne2, zuL_same, zuL_ne1, zuL_ne2, zrow_n1, zx0, zx1, zx2, zx3, zf_0_13, zf_0_14, zf_0_15, zf_1_3, zf_15_0, zf_16_0, zf_17_10, zf_86_3, zf_90_6, zf_90_7, zf_94_7, zf_100_6, zf_100_7, zf_118_0, zf_118_1, zf_118_2, zf_118_3, zg_119_0, zg_119_5, zg_119_9, zg_119_15, zg_119_19, zg_119_22, zg_119_1, zg_119_16, zg_120_0, zg_120_1, zg_120_2, zg_120_3, zg_121_0, zg_122_0, zg_124_0, zg_126_0, zg_127_0, zg_128_0, zg_129_0, zg_131_0, zg_131_1, zg_131_2, zg_131_3, Nat.reduceAdd, Nat.reduceMul, Int32.reduceAdd, Int32.reduceSub, Int32.reduceMul]
          first
          | refine ⟨vp_inb rfl, ?_⟩
          | refine ⟨fun h => absurd h (of_decide_eq_false rfl), fun _ => ?_⟩
          | refine ⟨fun _ => ?_, fun h => absurd (of_decide_eq_true rfl) h⟩
          | refine ⟨fun _ => ?_, fun h => absurd h (of_decide_eq_false rfl)⟩
          | refine ⟨fun h => absurd (of_decide_eq_true rfl) h, fun _ => ?_⟩
          | refine ⟨of_decide_eq_true rfl, ?_⟩
          | refine ⟨rfl, ?_⟩)
  try (conv => whnf)
  refine ⟨(σ1, τ1, 0), rfl, rfl, trivial, ?_⟩
  try dsimp only
  rintro _ μ2 ⟨rfl, -⟩
  repeat (conv => whnf
          try dsimp only
          try simp (decide := true) only [zu_same, zu_ne1, zu_ne2, zuL_same, zuL_ne1, zuL_ne2, zrow_n1, zx0, zx1, zx2, zx3, zf_0_13, zf_0_14, zf_0_15, zf_1_3, zf_15_0, zf_16_0, zf_17_10, zf_86_3, zf_90_6, zf_90_7, zf_94_7, zf_100_6, zf_100_7, zf_118_0, zf_118_1, zf_118_2, zf_118_3, zg_119_0, zg_119_5, zg_119_9, zg_119_15, zg_119_19, zg_119_22, zg_119_1, zg_119_16, zg_120_0, zg_120_1, zg_120_2, zg_120_3, zg_121_0, zg_122_0, zg_124_0, zg_126_0, zg_127_0, zg_128_0, zg_129_0, zg_131_0, zg_131_1, zg_131_2, zg_131_3, Nat.reduceAdd, Nat.reduceMul, Int32.reduceAdd, Int32.reduceSub, Int32.reduceMul]
          first
          | refine ⟨vp_inb rfl, ?_⟩
          | refine ⟨fun h => absurd h (of_decide_eq_false rfl), fun _ => ?_⟩
          | refine ⟨fun _ => ?_, fun h => absurd (of_decide_eq_true rfl) h⟩
          | refine ⟨fun _ => ?_, fun h => absurd h (of_decide_eq_false rfl)⟩
          | refine ⟨fun h => absurd (of_decide_eq_true rfl) h, fun _ => ?_⟩
          | refine ⟨of_decide_eq_true rfl, ?_⟩
          | refine ⟨rfl, ?_⟩)
  try (conv => whnf)
  refine hZ _ _ _ _ _ ?_
  refine hS 40 _ _ _ _ _ ?_
  repeat (conv => whnf
          try dsimp only
          try simp (decide := true) only [zu_same, zu_ne1, zu_ne2, zuL_same, zuL_ne1, zuL_ne2, zrow_n1, zx0, zx1, zx2, zx3, zf_0_13, zf_0_14, zf_0_15, zf_1_3, zf_15_0, zf_16_0, zf_17_10, zf_86_3, zf_90_6, zf_90_7, zf_94_7, zf_100_6, zf_100_7, zf_118_0, zf_118_1, zf_118_2, zf_118_3, zg_119_0, zg_119_5, zg_119_9, zg_119_15, zg_119_19, zg_119_22, zg_119_1, zg_119_16, zg_120_0, zg_120_1, zg_120_2, zg_120_3, zg_121_0, zg_122_0, zg_124_0, zg_126_0, zg_127_0, zg_128_0, zg_129_0, zg_131_0, zg_131_1, zg_131_2, zg_131_3, Nat.reduceAdd, Nat.reduceMul, Int32.reduceAdd, Int32.reduceSub, Int32.reduceMul]
          first
          | refine ⟨vp_inb rfl, ?_⟩
          | refine ⟨fun h => absurd h (of_decide_eq_false rfl), fun _ => ?_⟩
          | refine ⟨fun _ => ?_, fun h => absurd (of_decide_eq_true rfl) h⟩
          | refine ⟨fun _ => ?_, fun h => absurd h (of_decide_eq_false rfl)⟩
          | refine ⟨fun h => absurd (of_decide_eq_true rfl) h, fun _ => ?_⟩
          | refine ⟨of_decide_eq_true rfl, ?_⟩
          | refine ⟨rfl, ?_⟩)
  try (conv => whnf)
  first | exact rfl | exact ⟨rfl, rfl⟩
set_option maxRecDepth 100000 in
set_option maxHeartbeats 4000000 in
theorem zlc18 {p : Program} {e : Env} {s : State} {m : MethodId} {below : List Frame} {meth : Method} {c : Code} (l : Launch) (hlt : l.stackTraces = false) {b : Nat} {xs : Nat → Int32} {D : va_G} {cA : Nat → ClassId} (F9 : zLf p s m meth c b 7 xs D cA) : zLw p l e s m below meth c b D cA 1175 zl0 [] (234, 11049) (145, zSH, zRH, zs0, zt0) := by
  obtain ⟨F, hml, hNw, hX, -, -, -⟩ := id F9
  have hA : ∀ q : Nat, s.heap.size ≤ q → (fun q => s.heap.size ≤ q) q := fun _ h => h
  have hS := zlaw_step (l := l) (e := e) (below := below) F9 (zCL_law18 [(176, 1, 4, spL_circle, rmL_circle.cells, rmL_circle.slots), (178, 0, 2, spX8_circle, rmX8_circle.cells, rmX8_circle.slots), (113, 0, 0, spX8_thrown, rmX8_thrown.cells, rmX8_thrown.slots)]) (zscr xs) zpL_law18 [2219] zkL_law18 ⟨by decide +kernel, by decide +kernel, by decide +kernel, by decide +kernel⟩ rfl rfl zscr_sc zscr_sl ⟨zco_SW hX hA F hml hNw (zctW_X (ctL_circle l hlt D cA)) ⟨⟨zlL_law18_176, zwL_circle.1⟩, zwL_circle.2⟩ zdL_circle ⟨Nat.le_of_ble_eq_true rfl, Nat.le_of_ble_eq_true rfl⟩, zco_V hX hA F hml hNw (zct_X (ctX8_circle l D cA)) ⟨⟨zlL_law18_178, zwX8_circle.1.1, zwX8_circle.1.2⟩, zwX8_circle.2⟩ zdX8_circle ⟨Nat.le_of_ble_eq_true rfl, Nat.le_of_ble_eq_true rfl⟩ (ci := 8) (by decide) rfl (by rintro av μ K ⟨x, rfl, rfl, -⟩; exact ⟨_, _, rfl, rfl⟩), zco_V hX hA F hml hNw (zct_X (ctX8_thrown l D cA)) ⟨⟨zlL_law18_113, zwX8_thrown.1.1, zwX8_thrown.1.2⟩, zwX8_thrown.2⟩ zdX8_thrown ⟨Nat.le_of_ble_eq_true rfl, Nat.le_of_ble_eq_true rfl⟩ (ci := 8) (by decide) rfl (by rintro av μ K ⟨⟨μ0, x9⟩, rfl, rfl, h9, -⟩; exact ⟨_, _, rfl, congrArg Prod.fst h9.1⟩), trivial⟩
  have hZ := zLw_Z (p := p) (l := l) (e := e) (s := s) (m := m) (below := below) (meth := meth) (c := c) (b := b) (D := D) (cA := cA)
  generalize zLw p l e s m below meth c b D cA = Gl at hS hZ ⊢
  refine hS 400 _ _ _ _ _ ?_
  repeat (conv => whnf
          try dsimp only
          try simp (decide := true) only [zu_same, zu_ne1, zu_ne2, zuL_same, zuL_ne1, zuL_ne2, zrow_n1, zx0, zx1, zx2, zx3, zf_0_13, zf_0_14, zf_0_15, zf_1_3, zf_15_0, zf_16_0, zf_17_10, zf_86_3, zf_90_6, zf_90_7, zf_94_7, zf_100_6, zf_100_7, zf_118_0, zf_118_1, zf_118_2, zf_118_3, zg_119_0, zg_119_5, zg_119_9, zg_119_15, zg_119_19, zg_119_22, zg_119_1, zg_119_16, zg_120_0, zg_120_1, zg_120_2, zg_120_3, zg_121_0, zg_122_0, zg_124_0, zg_126_0, zg_127_0, zg_128_0, zg_129_0, zg_131_0, zg_131_1, zg_131_2, zg_131_3, Nat.reduceAdd, Nat.reduceMul, Int32.reduceAdd, Int32.reduceSub, Int32.reduceMul]
          first
          | refine ⟨vp_inb rfl, ?_⟩
          | refine ⟨fun h => absurd h (of_decide_eq_false rfl), fun _ => ?_⟩
          | refine ⟨fun _ => ?_, fun h => absurd (of_decide_eq_true rfl) h⟩
          | refine ⟨fun _ => ?_, fun h => absurd h (of_decide_eq_false rfl)⟩
          | refine ⟨fun h => absurd (of_decide_eq_true rfl) h, fun _ => ?_⟩
          | refine ⟨of_decide_eq_true rfl, ?_⟩
          | refine ⟨rfl, ?_⟩)
  try (conv => whnf)
  refine ⟨(xs 1, xs 2), rfl, rfl, trivial, ?_⟩
  try dsimp only
  rintro _ _ ⟨rfl, σ1, τ1, rfl⟩
  repeat (conv => whnf
          try dsimp only
          try simp (decide := true) only [zu_same, zu_ne1, zu_ne2, zuL_same, zuL_ne1, zuL_ne2, zrow_n1, zx0, zx1, zx2, zx3, zf_0_13, zf_0_14, zf_0_15, zf_1_3, zf_15_0, zf_16_0, zf_17_10, zf_86_3, zf_90_6, zf_90_7, zf_94_7, zf_100_6, zf_100_7, zf_118_0, zf_118_1, zf_118_2, zf_118_3, zg_119_0, zg_119_5, zg_119_9, zg_119_15, zg_119_19, zg_119_22, zg_119_1, zg_119_16, zg_120_0, zg_120_1, zg_120_2, zg_120_3, zg_121_0, zg_122_0, zg_124_0, zg_126_0, zg_127_0, zg_128_0, zg_129_0, zg_131_0, zg_131_1, zg_131_2, zg_131_3, Nat.reduceAdd, Nat.reduceMul, Int32.reduceAdd, Int32.reduceSub, Int32.reduceMul]
          first
          | refine ⟨vp_inb rfl, ?_⟩
          | refine ⟨fun h => absurd h (of_decide_eq_false rfl), fun _ => ?_⟩
          | refine ⟨fun _ => ?_, fun h => absurd (of_decide_eq_true rfl) h⟩
          | refine ⟨fun _ => ?_, fun h => absurd h (of_decide_eq_false rfl)⟩
          | refine ⟨fun h => absurd (of_decide_eq_true rfl) h, fun _ => ?_⟩
          | refine ⟨of_decide_eq_true rfl, ?_⟩
          | refine ⟨rfl, ?_⟩)
  try (conv => whnf)
  refine ⟨(xs 1, xs 2, σ1, τ1, 0), rfl, rfl, trivial, ?_⟩
  try dsimp only
  rintro _ μ2 ⟨rfl, h1, h2, h3, h4⟩
  repeat (first
    | (conv => whnf
       try dsimp only
       try simp (decide := true) only [h1, h2, h3, h4, zu_same, zu_ne1, zu_ne2, zuL_same, zuL_ne1, zuL_ne2, zrow_n1, zx0, zx1, zx2, zx3, zf_0_13, zf_0_14, zf_0_15, zf_1_3, zf_15_0, zf_16_0, zf_17_10, zf_86_3, zf_90_6, zf_90_7, zf_94_7, zf_100_6, zf_100_7, zf_118_0, zf_118_1, zf_118_2, zf_118_3, zg_119_0, zg_119_5, zg_119_9, zg_119_15, zg_119_19, zg_119_22, zg_119_1, zg_119_16, zg_120_0, zg_120_1, zg_120_2, zg_120_3, zg_121_0, zg_122_0, zg_124_0, zg_126_0, zg_127_0, zg_128_0, zg_129_0, zg_131_0, zg_131_1, zg_131_2, zg_131_3, Nat.reduceAdd, Nat.reduceMul, Int32.reduceAdd, Int32.reduceSub, Int32.reduceMul]
       first
       | refine ⟨vp_inb rfl, ?_⟩
       | refine ⟨fun h => absurd h (of_decide_eq_false rfl), fun _ => ?_⟩
       | refine ⟨fun _ => ?_, fun h => absurd (of_decide_eq_true rfl) h⟩
       | refine ⟨fun _ => ?_, fun h => absurd h (of_decide_eq_false rfl)⟩
       | refine ⟨fun h => absurd (of_decide_eq_true rfl) h, fun _ => ?_⟩
       | refine ⟨of_decide_eq_true rfl, ?_⟩
       | refine ⟨rfl, ?_⟩)
    | (conv => whnf
       fail_if_success refine Exists.intro ?_ ?_
       simp only [h1, h2, h3, h4]))
  try (conv => whnf)
  refine ⟨(μ2, ()), rfl, rfl, ⟨h1, trivial⟩, ?_⟩
  try dsimp only
  repeat (first
    | (conv => whnf
       try dsimp only
       try simp (decide := true) only [h1, h2, h3, h4, zu_same, zu_ne1, zu_ne2, zuL_same, zuL_ne1, zuL_ne2, zrow_n1, zx0, zx1, zx2, zx3, zf_0_13, zf_0_14, zf_0_15, zf_1_3, zf_15_0, zf_16_0, zf_17_10, zf_86_3, zf_90_6, zf_90_7, zf_94_7, zf_100_6, zf_100_7, zf_118_0, zf_118_1, zf_118_2, zf_118_3, zg_119_0, zg_119_5, zg_119_9, zg_119_15, zg_119_19, zg_119_22, zg_119_1, zg_119_16, zg_120_0, zg_120_1, zg_120_2, zg_120_3, zg_121_0, zg_122_0, zg_124_0, zg_126_0, zg_127_0, zg_128_0, zg_129_0, zg_131_0, zg_131_1, zg_131_2, zg_131_3, Nat.reduceAdd, Nat.reduceMul, Int32.reduceAdd, Int32.reduceSub, Int32.reduceMul]
       first
       | refine ⟨vp_inb rfl, ?_⟩
       | refine ⟨fun h => absurd h (of_decide_eq_false rfl), fun _ => ?_⟩
       | refine ⟨fun _ => ?_, fun h => absurd (of_decide_eq_true rfl) h⟩
       | refine ⟨fun _ => ?_, fun h => absurd h (of_decide_eq_false rfl)⟩
       | refine ⟨fun h => absurd (of_decide_eq_true rfl) h, fun _ => ?_⟩
       | refine ⟨of_decide_eq_true rfl, ?_⟩
       | refine ⟨rfl, ?_⟩)
    | (conv => whnf
       fail_if_success refine Exists.intro ?_ ?_
       simp only [h1, h2, h3, h4]))
  try (conv => whnf)
  refine hZ _ _ _ _ _ ?_
  refine hS 40 _ _ _ _ _ ?_
  repeat (conv => whnf
          try dsimp only
          try simp (decide := true) only [zu_same, zu_ne1, zu_ne2, zuL_same, zuL_ne1, zuL_ne2, zrow_n1, zx0, zx1, zx2, zx3, zf_0_13, zf_0_14, zf_0_15, zf_1_3, zf_15_0, zf_16_0, zf_17_10, zf_86_3, zf_90_6, zf_90_7, zf_94_7, zf_100_6, zf_100_7, zf_118_0, zf_118_1, zf_118_2, zf_118_3, zg_119_0, zg_119_5, zg_119_9, zg_119_15, zg_119_19, zg_119_22, zg_119_1, zg_119_16, zg_120_0, zg_120_1, zg_120_2, zg_120_3, zg_121_0, zg_122_0, zg_124_0, zg_126_0, zg_127_0, zg_128_0, zg_129_0, zg_131_0, zg_131_1, zg_131_2, zg_131_3, Nat.reduceAdd, Nat.reduceMul, Int32.reduceAdd, Int32.reduceSub, Int32.reduceMul]
          first
          | refine ⟨vp_inb rfl, ?_⟩
          | refine ⟨fun h => absurd h (of_decide_eq_false rfl), fun _ => ?_⟩
          | refine ⟨fun _ => ?_, fun h => absurd (of_decide_eq_true rfl) h⟩
          | refine ⟨fun _ => ?_, fun h => absurd h (of_decide_eq_false rfl)⟩
          | refine ⟨fun h => absurd (of_decide_eq_true rfl) h, fun _ => ?_⟩
          | refine ⟨of_decide_eq_true rfl, ?_⟩
          | refine ⟨rfl, ?_⟩)
  try (conv => whnf)
  first | exact rfl | exact ⟨rfl, rfl⟩
set_option maxRecDepth 100000 in
set_option maxHeartbeats 4000000 in
theorem zlc19 {p : Program} {e : Env} {s : State} {m : MethodId} {below : List Frame} {meth : Method} {c : Code} (l : Launch) (hlt : l.stackTraces = false) {b : Nat} {xs : Nat → Int32} {D : va_G} {cA : Nat → ClassId} (F9 : zLf p s m meth c b 7 xs D cA) : zLw p l e s m below meth c b D cA 1243 zl0 [] (234, 11049) (145, zSH, zRH, zs0, zt0) := by
  obtain ⟨F, hml, hNw, hX, -, -, -⟩ := id F9
  have hA : ∀ q : Nat, s.heap.size ≤ q → (fun q => s.heap.size ≤ q) q := fun _ h => h
  have hS := zlaw_step (l := l) (e := e) (below := below) F9 (zCL_law19 [(179, 0, 0, spX7_mostTurns, rmX7_mostTurns.cells, rmX7_mostTurns.slots), (182, 0, 0, spX8_mostTurns, rmX8_mostTurns.cells, rmX8_mostTurns.slots)]) (zscr xs) zpL_law19 [2219] zkL_law19 ⟨by decide +kernel, by decide +kernel, by decide +kernel, by decide +kernel⟩ rfl rfl zscr_sc zscr_sl ⟨zco_V hX hA F hml hNw (zct_X (ctX7_mostTurns l D cA)) ⟨⟨zlL_law19_179, zwX7_mostTurns.1.1, zwX7_mostTurns.1.2⟩, zwX7_mostTurns.2⟩ zdX7_mostTurns ⟨Nat.le_of_ble_eq_true rfl, Nat.le_of_ble_eq_true rfl⟩ (ci := 7) (by decide) rfl (by rintro av μ K ⟨x, rfl, rfl, -⟩; exact ⟨_, _, rfl, rfl⟩), zco_V hX hA F hml hNw (zct_X (ctX8_mostTurns l D cA)) ⟨⟨zlL_law19_182, zwX8_mostTurns.1.1, zwX8_mostTurns.1.2⟩, zwX8_mostTurns.2⟩ zdX8_mostTurns ⟨Nat.le_of_ble_eq_true rfl, Nat.le_of_ble_eq_true rfl⟩ (ci := 8) (by decide) rfl (by rintro av μ K ⟨x, rfl, rfl, -⟩; exact ⟨_, _, rfl, rfl⟩), trivial⟩
  have hZ := zLw_Z (p := p) (l := l) (e := e) (s := s) (m := m) (below := below) (meth := meth) (c := c) (b := b) (D := D) (cA := cA)
  generalize zLw p l e s m below meth c b D cA = Gl at hS hZ ⊢
  refine hS 400 _ _ _ _ _ ?_
  repeat (conv => whnf
          try dsimp only
          try simp (decide := true) only [zu_same, zu_ne1, zu_ne2, zuL_same, zuL_ne1, zuL_ne2, zrow_n1, zx0, zx1, zx2, zx3, zf_0_13, zf_0_14, zf_0_15, zf_1_3, zf_15_0, zf_16_0, zf_17_10, zf_86_3, zf_90_6, zf_90_7, zf_94_7, zf_100_6, zf_100_7, zf_118_0, zf_118_1, zf_118_2, zf_118_3, zg_119_0, zg_119_5, zg_119_9, zg_119_15, zg_119_19, zg_119_22, zg_119_1, zg_119_16, zg_120_0, zg_120_1, zg_120_2, zg_120_3, zg_121_0, zg_122_0, zg_124_0, zg_126_0, zg_127_0, zg_128_0, zg_129_0, zg_131_0, zg_131_1, zg_131_2, zg_131_3, Nat.reduceAdd, Nat.reduceMul, Int32.reduceAdd, Int32.reduceSub, Int32.reduceMul]
          first
          | refine ⟨vp_inb rfl, ?_⟩
          | refine ⟨fun h => absurd h (of_decide_eq_false rfl), fun _ => ?_⟩
          | refine ⟨fun _ => ?_, fun h => absurd (of_decide_eq_true rfl) h⟩
          | refine ⟨fun _ => ?_, fun h => absurd h (of_decide_eq_false rfl)⟩
          | refine ⟨fun h => absurd (of_decide_eq_true rfl) h, fun _ => ?_⟩
          | refine ⟨of_decide_eq_true rfl, ?_⟩
          | refine ⟨rfl, ?_⟩)
  try (conv => whnf)
  refine ⟨(), rfl, rfl, trivial, ?_⟩
  try dsimp only
  rintro _ _ ⟨rfl, σ1, τ1, rfl⟩
  repeat (conv => whnf
          try dsimp only
          try simp (decide := true) only [zu_same, zu_ne1, zu_ne2, zuL_same, zuL_ne1, zuL_ne2, zrow_n1, zx0, zx1, zx2, zx3, zf_0_13, zf_0_14, zf_0_15, zf_1_3, zf_15_0, zf_16_0, zf_17_10, zf_86_3, zf_90_6, zf_90_7, zf_94_7, zf_100_6, zf_100_7, zf_118_0, zf_118_1, zf_118_2, zf_118_3, zg_119_0, zg_119_5, zg_119_9, zg_119_15, zg_119_19, zg_119_22, zg_119_1, zg_119_16, zg_120_0, zg_120_1, zg_120_2, zg_120_3, zg_121_0, zg_122_0, zg_124_0, zg_126_0, zg_127_0, zg_128_0, zg_129_0, zg_131_0, zg_131_1, zg_131_2, zg_131_3, Nat.reduceAdd, Nat.reduceMul, Int32.reduceAdd, Int32.reduceSub, Int32.reduceMul]
          first
          | refine ⟨vp_inb rfl, ?_⟩
          | refine ⟨fun h => absurd h (of_decide_eq_false rfl), fun _ => ?_⟩
          | refine ⟨fun _ => ?_, fun h => absurd (of_decide_eq_true rfl) h⟩
          | refine ⟨fun _ => ?_, fun h => absurd h (of_decide_eq_false rfl)⟩
          | refine ⟨fun h => absurd (of_decide_eq_true rfl) h, fun _ => ?_⟩
          | refine ⟨of_decide_eq_true rfl, ?_⟩
          | refine ⟨rfl, ?_⟩)
  try (conv => whnf)
  refine ⟨(σ1, τ1, 0), rfl, rfl, trivial, ?_⟩
  try dsimp only
  rintro _ μ2 ⟨rfl, -⟩
  repeat (conv => whnf
          try dsimp only
          try simp (decide := true) only [zu_same, zu_ne1, zu_ne2, zuL_same, zuL_ne1, zuL_ne2, zrow_n1, zx0, zx1, zx2, zx3, zf_0_13, zf_0_14, zf_0_15, zf_1_3, zf_15_0, zf_16_0, zf_17_10, zf_86_3, zf_90_6, zf_90_7, zf_94_7, zf_100_6, zf_100_7, zf_118_0, zf_118_1, zf_118_2, zf_118_3, zg_119_0, zg_119_5, zg_119_9, zg_119_15, zg_119_19, zg_119_22, zg_119_1, zg_119_16, zg_120_0, zg_120_1, zg_120_2, zg_120_3, zg_121_0, zg_122_0, zg_124_0, zg_126_0, zg_127_0, zg_128_0, zg_129_0, zg_131_0, zg_131_1, zg_131_2, zg_131_3, Nat.reduceAdd, Nat.reduceMul, Int32.reduceAdd, Int32.reduceSub, Int32.reduceMul]
          first
          | refine ⟨vp_inb rfl, ?_⟩
          | refine ⟨fun h => absurd h (of_decide_eq_false rfl), fun _ => ?_⟩
          | refine ⟨fun _ => ?_, fun h => absurd (of_decide_eq_true rfl) h⟩
          | refine ⟨fun _ => ?_, fun h => absurd h (of_decide_eq_false rfl)⟩
          | refine ⟨fun h => absurd (of_decide_eq_true rfl) h, fun _ => ?_⟩
          | refine ⟨of_decide_eq_true rfl, ?_⟩
          | refine ⟨rfl, ?_⟩)
  try (conv => whnf)
  refine hZ _ _ _ _ _ ?_
  refine hS 40 _ _ _ _ _ ?_
  repeat (conv => whnf
          try dsimp only
          try simp (decide := true) only [zu_same, zu_ne1, zu_ne2, zuL_same, zuL_ne1, zuL_ne2, zrow_n1, zx0, zx1, zx2, zx3, zf_0_13, zf_0_14, zf_0_15, zf_1_3, zf_15_0, zf_16_0, zf_17_10, zf_86_3, zf_90_6, zf_90_7, zf_94_7, zf_100_6, zf_100_7, zf_118_0, zf_118_1, zf_118_2, zf_118_3, zg_119_0, zg_119_5, zg_119_9, zg_119_15, zg_119_19, zg_119_22, zg_119_1, zg_119_16, zg_120_0, zg_120_1, zg_120_2, zg_120_3, zg_121_0, zg_122_0, zg_124_0, zg_126_0, zg_127_0, zg_128_0, zg_129_0, zg_131_0, zg_131_1, zg_131_2, zg_131_3, Nat.reduceAdd, Nat.reduceMul, Int32.reduceAdd, Int32.reduceSub, Int32.reduceMul]
          first
          | refine ⟨vp_inb rfl, ?_⟩
          | refine ⟨fun h => absurd h (of_decide_eq_false rfl), fun _ => ?_⟩
          | refine ⟨fun _ => ?_, fun h => absurd (of_decide_eq_true rfl) h⟩
          | refine ⟨fun _ => ?_, fun h => absurd h (of_decide_eq_false rfl)⟩
          | refine ⟨fun h => absurd (of_decide_eq_true rfl) h, fun _ => ?_⟩
          | refine ⟨of_decide_eq_true rfl, ?_⟩
          | refine ⟨rfl, ?_⟩)
  try (conv => whnf)
  first | exact rfl | exact ⟨rfl, rfl⟩
set_option maxRecDepth 100000 in
set_option maxHeartbeats 4000000 in
theorem zlc20 {p : Program} {e : Env} {s : State} {m : MethodId} {below : List Frame} {meth : Method} {c : Code} (l : Launch) (hlt : l.stackTraces = false) {b : Nat} {xs : Nat → Int32} {D : va_G} {cA : Nat → ClassId} (F9 : zLf p s m meth c b 7 xs D cA) : zLw p l e s m below meth c b D cA 1256 zl0 [] (234, 11049) (145, zSH, zRH, zs0, zt0) := by
  obtain ⟨F, hml, hNw, hX, -, -, -⟩ := id F9
  have hA : ∀ q : Nat, s.heap.size ≤ q → (fun q => s.heap.size ≤ q) q := fun _ h => h
  have hS := zlaw_step (l := l) (e := e) (below := below) F9 (zCL_law20 [(183, 1, 3, spL_amount, rmL_amount.cells, rmL_amount.slots), (185, 0, 1, spX8_amount, rmX8_amount.cells, rmX8_amount.slots), (113, 0, 0, spX8_thrown, rmX8_thrown.cells, rmX8_thrown.slots)]) (zscr xs) zpL_law20 [2219] zkL_law20 ⟨by decide +kernel, by decide +kernel, by decide +kernel, by decide +kernel⟩ rfl rfl zscr_sc zscr_sl ⟨zco_SW hX hA F hml hNw (zctW_X (ctL_amount l hlt D cA)) ⟨⟨zlL_law20_183, zwL_amount.1⟩, zwL_amount.2⟩ zdL_amount ⟨Nat.le_of_ble_eq_true rfl, Nat.le_of_ble_eq_true rfl⟩, zco_V hX hA F hml hNw (zct_X (ctX8_amount l D cA)) ⟨⟨zlL_law20_185, zwX8_amount.1.1, zwX8_amount.1.2⟩, zwX8_amount.2⟩ zdX8_amount ⟨Nat.le_of_ble_eq_true rfl, Nat.le_of_ble_eq_true rfl⟩ (ci := 8) (by decide) rfl (by rintro av μ K ⟨x, rfl, rfl, -⟩; exact ⟨_, _, rfl, rfl⟩), zco_V hX hA F hml hNw (zct_X (ctX8_thrown l D cA)) ⟨⟨zlL_law20_113, zwX8_thrown.1.1, zwX8_thrown.1.2⟩, zwX8_thrown.2⟩ zdX8_thrown ⟨Nat.le_of_ble_eq_true rfl, Nat.le_of_ble_eq_true rfl⟩ (ci := 8) (by decide) rfl (by rintro av μ K ⟨⟨μ0, x9⟩, rfl, rfl, h9, -⟩; exact ⟨_, _, rfl, congrArg Prod.fst h9.1⟩), trivial⟩
  have hZ := zLw_Z (p := p) (l := l) (e := e) (s := s) (m := m) (below := below) (meth := meth) (c := c) (b := b) (D := D) (cA := cA)
  generalize zLw p l e s m below meth c b D cA = Gl at hS hZ ⊢
  refine hS 400 _ _ _ _ _ ?_
  repeat (conv => whnf
          try dsimp only
          try simp (decide := true) only [zu_same, zu_ne1, zu_ne2, zuL_same, zuL_ne1, zuL_ne2, zrow_n1, zx0, zx1, zx2, zx3, zf_0_13, zf_0_14, zf_0_15, zf_1_3, zf_15_0, zf_16_0, zf_17_10, zf_86_3, zf_90_6, zf_90_7, zf_94_7, zf_100_6, zf_100_7, zf_118_0, zf_118_1, zf_118_2, zf_118_3, zg_119_0, zg_119_5, zg_119_9, zg_119_15, zg_119_19, zg_119_22, zg_119_1, zg_119_16, zg_120_0, zg_120_1, zg_120_2, zg_120_3, zg_121_0, zg_122_0, zg_124_0, zg_126_0, zg_127_0, zg_128_0, zg_129_0, zg_131_0, zg_131_1, zg_131_2, zg_131_3, Nat.reduceAdd, Nat.reduceMul, Int32.reduceAdd, Int32.reduceSub, Int32.reduceMul]
          first
          | refine ⟨vp_inb rfl, ?_⟩
          | refine ⟨fun h => absurd h (of_decide_eq_false rfl), fun _ => ?_⟩
          | refine ⟨fun _ => ?_, fun h => absurd (of_decide_eq_true rfl) h⟩
          | refine ⟨fun _ => ?_, fun h => absurd h (of_decide_eq_false rfl)⟩
          | refine ⟨fun h => absurd (of_decide_eq_true rfl) h, fun _ => ?_⟩
          | refine ⟨of_decide_eq_true rfl, ?_⟩
          | refine ⟨rfl, ?_⟩)
  try (conv => whnf)
  refine ⟨xs 1, rfl, rfl, trivial, ?_⟩
  try dsimp only
  rintro _ _ ⟨rfl, σ1, τ1, rfl⟩
  repeat (conv => whnf
          try dsimp only
          try simp (decide := true) only [zu_same, zu_ne1, zu_ne2, zuL_same, zuL_ne1, zuL_ne2, zrow_n1, zx0, zx1, zx2, zx3, zf_0_13, zf_0_14, zf_0_15, zf_1_3, zf_15_0, zf_16_0, zf_17_10, zf_86_3, zf_90_6, zf_90_7, zf_94_7, zf_100_6, zf_100_7, zf_118_0, zf_118_1, zf_118_2, zf_118_3, zg_119_0, zg_119_5, zg_119_9, zg_119_15, zg_119_19, zg_119_22, zg_119_1, zg_119_16, zg_120_0, zg_120_1, zg_120_2, zg_120_3, zg_121_0, zg_122_0, zg_124_0, zg_126_0, zg_127_0, zg_128_0, zg_129_0, zg_131_0, zg_131_1, zg_131_2, zg_131_3, Nat.reduceAdd, Nat.reduceMul, Int32.reduceAdd, Int32.reduceSub, Int32.reduceMul]
          first
          | refine ⟨vp_inb rfl, ?_⟩
          | refine ⟨fun h => absurd h (of_decide_eq_false rfl), fun _ => ?_⟩
          | refine ⟨fun _ => ?_, fun h => absurd (of_decide_eq_true rfl) h⟩
          | refine ⟨fun _ => ?_, fun h => absurd h (of_decide_eq_false rfl)⟩
          | refine ⟨fun h => absurd (of_decide_eq_true rfl) h, fun _ => ?_⟩
          | refine ⟨of_decide_eq_true rfl, ?_⟩
          | refine ⟨rfl, ?_⟩)
  try (conv => whnf)
  refine ⟨(xs 1, σ1, τ1, 0), rfl, rfl, trivial, ?_⟩
  try dsimp only
  rintro _ μ2 ⟨rfl, h1, h2, h3, h4⟩
  repeat (first
    | (conv => whnf
       try dsimp only
       try simp (decide := true) only [h1, h2, h3, h4, zu_same, zu_ne1, zu_ne2, zuL_same, zuL_ne1, zuL_ne2, zrow_n1, zx0, zx1, zx2, zx3, zf_0_13, zf_0_14, zf_0_15, zf_1_3, zf_15_0, zf_16_0, zf_17_10, zf_86_3, zf_90_6, zf_90_7, zf_94_7, zf_100_6, zf_100_7, zf_118_0, zf_118_1, zf_118_2, zf_118_3, zg_119_0, zg_119_5, zg_119_9, zg_119_15, zg_119_19, zg_119_22, zg_119_1, zg_119_16, zg_120_0, zg_120_1, zg_120_2, zg_120_3, zg_121_0, zg_122_0, zg_124_0, zg_126_0, zg_127_0, zg_128_0, zg_129_0, zg_131_0, zg_131_1, zg_131_2, zg_131_3, Nat.reduceAdd, Nat.reduceMul, Int32.reduceAdd, Int32.reduceSub, Int32.reduceMul]
       first
       | refine ⟨vp_inb rfl, ?_⟩
       | refine ⟨fun h => absurd h (of_decide_eq_false rfl), fun _ => ?_⟩
       | refine ⟨fun _ => ?_, fun h => absurd (of_decide_eq_true rfl) h⟩
       | refine ⟨fun _ => ?_, fun h => absurd h (of_decide_eq_false rfl)⟩
       | refine ⟨fun h => absurd (of_decide_eq_true rfl) h, fun _ => ?_⟩
       | refine ⟨of_decide_eq_true rfl, ?_⟩
       | refine ⟨rfl, ?_⟩)
    | (conv => whnf
       fail_if_success refine Exists.intro ?_ ?_
       simp only [h1, h2, h3, h4]))
  try (conv => whnf)
  refine ⟨(μ2, ()), rfl, rfl, ⟨h1, trivial⟩, ?_⟩
  try dsimp only
  repeat (first
    | (conv => whnf
       try dsimp only
       try simp (decide := true) only [h1, h2, h3, h4, zu_same, zu_ne1, zu_ne2, zuL_same, zuL_ne1, zuL_ne2, zrow_n1, zx0, zx1, zx2, zx3, zf_0_13, zf_0_14, zf_0_15, zf_1_3, zf_15_0, zf_16_0, zf_17_10, zf_86_3, zf_90_6, zf_90_7, zf_94_7, zf_100_6, zf_100_7, zf_118_0, zf_118_1, zf_118_2, zf_118_3, zg_119_0, zg_119_5, zg_119_9, zg_119_15, zg_119_19, zg_119_22, zg_119_1, zg_119_16, zg_120_0, zg_120_1, zg_120_2, zg_120_3, zg_121_0, zg_122_0, zg_124_0, zg_126_0, zg_127_0, zg_128_0, zg_129_0, zg_131_0, zg_131_1, zg_131_2, zg_131_3, Nat.reduceAdd, Nat.reduceMul, Int32.reduceAdd, Int32.reduceSub, Int32.reduceMul]
       first
       | refine ⟨vp_inb rfl, ?_⟩
       | refine ⟨fun h => absurd h (of_decide_eq_false rfl), fun _ => ?_⟩
       | refine ⟨fun _ => ?_, fun h => absurd (of_decide_eq_true rfl) h⟩
       | refine ⟨fun _ => ?_, fun h => absurd h (of_decide_eq_false rfl)⟩
       | refine ⟨fun h => absurd (of_decide_eq_true rfl) h, fun _ => ?_⟩
       | refine ⟨of_decide_eq_true rfl, ?_⟩
       | refine ⟨rfl, ?_⟩)
    | (conv => whnf
       fail_if_success refine Exists.intro ?_ ?_
       simp only [h1, h2, h3, h4]))
  try (conv => whnf)
  refine hZ _ _ _ _ _ ?_
  refine hS 40 _ _ _ _ _ ?_
  repeat (conv => whnf
          try dsimp only
          try simp (decide := true) only [zu_same, zu_ne1, zu_ne2, zuL_same, zuL_ne1, zuL_ne2, zrow_n1, zx0, zx1, zx2, zx3, zf_0_13, zf_0_14, zf_0_15, zf_1_3, zf_15_0, zf_16_0, zf_17_10, zf_86_3, zf_90_6, zf_90_7, zf_94_7, zf_100_6, zf_100_7, zf_118_0, zf_118_1, zf_118_2, zf_118_3, zg_119_0, zg_119_5, zg_119_9, zg_119_15, zg_119_19, zg_119_22, zg_119_1, zg_119_16, zg_120_0, zg_120_1, zg_120_2, zg_120_3, zg_121_0, zg_122_0, zg_124_0, zg_126_0, zg_127_0, zg_128_0, zg_129_0, zg_131_0, zg_131_1, zg_131_2, zg_131_3, Nat.reduceAdd, Nat.reduceMul, Int32.reduceAdd, Int32.reduceSub, Int32.reduceMul]
          first
          | refine ⟨vp_inb rfl, ?_⟩
          | refine ⟨fun h => absurd h (of_decide_eq_false rfl), fun _ => ?_⟩
          | refine ⟨fun _ => ?_, fun h => absurd (of_decide_eq_true rfl) h⟩
          | refine ⟨fun _ => ?_, fun h => absurd h (of_decide_eq_false rfl)⟩
          | refine ⟨fun h => absurd (of_decide_eq_true rfl) h, fun _ => ?_⟩
          | refine ⟨of_decide_eq_true rfl, ?_⟩
          | refine ⟨rfl, ?_⟩)
  try (conv => whnf)
  first | exact rfl | exact ⟨rfl, rfl⟩
set_option maxRecDepth 100000 in
set_option maxHeartbeats 4000000 in
theorem zlc21 {p : Program} {e : Env} {s : State} {m : MethodId} {below : List Frame} {meth : Method} {c : Code} (l : Launch) (hlt : l.stackTraces = false) {b : Nat} {xs : Nat → Int32} {D : va_G} {cA : Nat → ClassId} (F9 : zLf p s m meth c b 7 xs D cA) : zLw p l e s m below meth c b D cA 1312 zl0 [] (234, 11049) (145, zSH, zRH, zs0, zt0) := by
  obtain ⟨F, hml, hNw, hX, -, -, -⟩ := id F9
  have hA : ∀ q : Nat, s.heap.size ≤ q → (fun q => s.heap.size ≤ q) q := fun _ h => h
  have hS := zlaw_step (l := l) (e := e) (below := below) F9 (zCL_law21 [(186, 1, 4, spL_amountIn, rmL_amountIn.cells, rmL_amountIn.slots), (188, 0, 2, spX8_amountIn, rmX8_amountIn.cells, rmX8_amountIn.slots), (113, 0, 0, spX8_thrown, rmX8_thrown.cells, rmX8_thrown.slots)]) (zscr xs) zpL_law21 [2219] zkL_law21 ⟨by decide +kernel, by decide +kernel, by decide +kernel, by decide +kernel⟩ rfl rfl zscr_sc zscr_sl ⟨zco_SW hX hA F hml hNw (zctW_X (ctL_amountIn l hlt D cA)) ⟨⟨zlL_law21_186, zwL_amountIn.1⟩, zwL_amountIn.2⟩ zdL_amountIn ⟨Nat.le_of_ble_eq_true rfl, Nat.le_of_ble_eq_true rfl⟩, zco_V hX hA F hml hNw (zct_X (ctX8_amountIn l D cA)) ⟨⟨zlL_law21_188, zwX8_amountIn.1.1, zwX8_amountIn.1.2⟩, zwX8_amountIn.2⟩ zdX8_amountIn ⟨Nat.le_of_ble_eq_true rfl, Nat.le_of_ble_eq_true rfl⟩ (ci := 8) (by decide) rfl (by rintro av μ K ⟨x, rfl, rfl, -⟩; exact ⟨_, _, rfl, rfl⟩), zco_V hX hA F hml hNw (zct_X (ctX8_thrown l D cA)) ⟨⟨zlL_law21_113, zwX8_thrown.1.1, zwX8_thrown.1.2⟩, zwX8_thrown.2⟩ zdX8_thrown ⟨Nat.le_of_ble_eq_true rfl, Nat.le_of_ble_eq_true rfl⟩ (ci := 8) (by decide) rfl (by rintro av μ K ⟨⟨μ0, x9⟩, rfl, rfl, h9, -⟩; exact ⟨_, _, rfl, congrArg Prod.fst h9.1⟩), trivial⟩
  have hZ := zLw_Z (p := p) (l := l) (e := e) (s := s) (m := m) (below := below) (meth := meth) (c := c) (b := b) (D := D) (cA := cA)
  generalize zLw p l e s m below meth c b D cA = Gl at hS hZ ⊢
  refine hS 400 _ _ _ _ _ ?_
  repeat (conv => whnf
          try dsimp only
          try simp (decide := true) only [zu_same, zu_ne1, zu_ne2, zuL_same, zuL_ne1, zuL_ne2, zrow_n1, zx0, zx1, zx2, zx3, zf_0_13, zf_0_14, zf_0_15, zf_1_3, zf_15_0, zf_16_0, zf_17_10, zf_86_3, zf_90_6, zf_90_7, zf_94_7, zf_100_6, zf_100_7, zf_118_0, zf_118_1, zf_118_2, zf_118_3, zg_119_0, zg_119_5, zg_119_9, zg_119_15, zg_119_19, zg_119_22, zg_119_1, zg_119_16, zg_120_0, zg_120_1, zg_120_2, zg_120_3, zg_121_0, zg_122_0, zg_124_0, zg_126_0, zg_127_0, zg_128_0, zg_129_0, zg_131_0, zg_131_1, zg_131_2, zg_131_3, Nat.reduceAdd, Nat.reduceMul, Int32.reduceAdd, Int32.reduceSub, Int32.reduceMul]
          first
          | refine ⟨vp_inb rfl, ?_⟩
          | refine ⟨fun h => absurd h (of_decide_eq_false rfl), fun _ => ?_⟩
          | refine ⟨fun _ => ?_, fun h => absurd (of_decide_eq_true rfl) h⟩
          | refine ⟨fun _ => ?_, fun h => absurd h (of_decide_eq_false rfl)⟩
          | refine ⟨fun h => absurd (of_decide_eq_true rfl) h, fun _ => ?_⟩
          | refine ⟨of_decide_eq_true rfl, ?_⟩
          | refine ⟨rfl, ?_⟩)
  try (conv => whnf)
  refine ⟨(xs 1, xs 2), rfl, rfl, trivial, ?_⟩
  try dsimp only
  rintro _ _ ⟨rfl, σ1, τ1, rfl⟩
  repeat (conv => whnf
          try dsimp only
          try simp (decide := true) only [zu_same, zu_ne1, zu_ne2, zuL_same, zuL_ne1, zuL_ne2, zrow_n1, zx0, zx1, zx2, zx3, zf_0_13, zf_0_14, zf_0_15, zf_1_3, zf_15_0, zf_16_0, zf_17_10, zf_86_3, zf_90_6, zf_90_7, zf_94_7, zf_100_6, zf_100_7, zf_118_0, zf_118_1, zf_118_2, zf_118_3, zg_119_0, zg_119_5, zg_119_9, zg_119_15, zg_119_19, zg_119_22, zg_119_1, zg_119_16, zg_120_0, zg_120_1, zg_120_2, zg_120_3, zg_121_0, zg_122_0, zg_124_0, zg_126_0, zg_127_0, zg_128_0, zg_129_0, zg_131_0, zg_131_1, zg_131_2, zg_131_3, Nat.reduceAdd, Nat.reduceMul, Int32.reduceAdd, Int32.reduceSub, Int32.reduceMul]
          first
          | refine ⟨vp_inb rfl, ?_⟩
          | refine ⟨fun h => absurd h (of_decide_eq_false rfl), fun _ => ?_⟩
          | refine ⟨fun _ => ?_, fun h => absurd (of_decide_eq_true rfl) h⟩
          | refine ⟨fun _ => ?_, fun h => absurd h (of_decide_eq_false rfl)⟩
          | refine ⟨fun h => absurd (of_decide_eq_true rfl) h, fun _ => ?_⟩
          | refine ⟨of_decide_eq_true rfl, ?_⟩
          | refine ⟨rfl, ?_⟩)
  try (conv => whnf)
  refine ⟨(xs 1, xs 2, σ1, τ1, 0), rfl, rfl, trivial, ?_⟩
  try dsimp only
  rintro _ μ2 ⟨rfl, h1, h2, h3, h4⟩
  repeat (first
    | (conv => whnf
       try dsimp only
       try simp (decide := true) only [h1, h2, h3, h4, zu_same, zu_ne1, zu_ne2, zuL_same, zuL_ne1, zuL_ne2, zrow_n1, zx0, zx1, zx2, zx3, zf_0_13, zf_0_14, zf_0_15, zf_1_3, zf_15_0, zf_16_0, zf_17_10, zf_86_3, zf_90_6, zf_90_7, zf_94_7, zf_100_6, zf_100_7, zf_118_0, zf_118_1, zf_118_2, zf_118_3, zg_119_0, zg_119_5, zg_119_9, zg_119_15, zg_119_19, zg_119_22, zg_119_1, zg_119_16, zg_120_0, zg_120_1, zg_120_2, zg_120_3, zg_121_0, zg_122_0, zg_124_0, zg_126_0, zg_127_0, zg_128_0, zg_129_0, zg_131_0, zg_131_1, zg_131_2, zg_131_3, Nat.reduceAdd, Nat.reduceMul, Int32.reduceAdd, Int32.reduceSub, Int32.reduceMul]
       first
       | refine ⟨vp_inb rfl, ?_⟩
       | refine ⟨fun h => absurd h (of_decide_eq_false rfl), fun _ => ?_⟩
       | refine ⟨fun _ => ?_, fun h => absurd (of_decide_eq_true rfl) h⟩
       | refine ⟨fun _ => ?_, fun h => absurd h (of_decide_eq_false rfl)⟩
       | refine ⟨fun h => absurd (of_decide_eq_true rfl) h, fun _ => ?_⟩
       | refine ⟨of_decide_eq_true rfl, ?_⟩
       | refine ⟨rfl, ?_⟩)
    | (conv => whnf
       fail_if_success refine Exists.intro ?_ ?_
       simp only [h1, h2, h3, h4]))
  try (conv => whnf)
  refine ⟨(μ2, ()), rfl, rfl, ⟨h1, trivial⟩, ?_⟩
  try dsimp only
  repeat (first
    | (conv => whnf
       try dsimp only
       try simp (decide := true) only [h1, h2, h3, h4, zu_same, zu_ne1, zu_ne2, zuL_same, zuL_ne1, zuL_ne2, zrow_n1, zx0, zx1, zx2, zx3, zf_0_13, zf_0_14, zf_0_15, zf_1_3, zf_15_0, zf_16_0, zf_17_10, zf_86_3, zf_90_6, zf_90_7, zf_94_7, zf_100_6, zf_100_7, zf_118_0, zf_118_1, zf_118_2, zf_118_3, zg_119_0, zg_119_5, zg_119_9, zg_119_15, zg_119_19, zg_119_22, zg_119_1, zg_119_16, zg_120_0, zg_120_1, zg_120_2, zg_120_3, zg_121_0, zg_122_0, zg_124_0, zg_126_0, zg_127_0, zg_128_0, zg_129_0, zg_131_0, zg_131_1, zg_131_2, zg_131_3, Nat.reduceAdd, Nat.reduceMul, Int32.reduceAdd, Int32.reduceSub, Int32.reduceMul]
       first
       | refine ⟨vp_inb rfl, ?_⟩
       | refine ⟨fun h => absurd h (of_decide_eq_false rfl), fun _ => ?_⟩
       | refine ⟨fun _ => ?_, fun h => absurd (of_decide_eq_true rfl) h⟩
       | refine ⟨fun _ => ?_, fun h => absurd h (of_decide_eq_false rfl)⟩
       | refine ⟨fun h => absurd (of_decide_eq_true rfl) h, fun _ => ?_⟩
       | refine ⟨of_decide_eq_true rfl, ?_⟩
       | refine ⟨rfl, ?_⟩)
    | (conv => whnf
       fail_if_success refine Exists.intro ?_ ?_
       simp only [h1, h2, h3, h4]))
  try (conv => whnf)
  refine hZ _ _ _ _ _ ?_
  refine hS 40 _ _ _ _ _ ?_
  repeat (conv => whnf
          try dsimp only
          try simp (decide := true) only [zu_same, zu_ne1, zu_ne2, zuL_same, zuL_ne1, zuL_ne2, zrow_n1, zx0, zx1, zx2, zx3, zf_0_13, zf_0_14, zf_0_15, zf_1_3, zf_15_0, zf_16_0, zf_17_10, zf_86_3, zf_90_6, zf_90_7, zf_94_7, zf_100_6, zf_100_7, zf_118_0, zf_118_1, zf_118_2, zf_118_3, zg_119_0, zg_119_5, zg_119_9, zg_119_15, zg_119_19, zg_119_22, zg_119_1, zg_119_16, zg_120_0, zg_120_1, zg_120_2, zg_120_3, zg_121_0, zg_122_0, zg_124_0, zg_126_0, zg_127_0, zg_128_0, zg_129_0, zg_131_0, zg_131_1, zg_131_2, zg_131_3, Nat.reduceAdd, Nat.reduceMul, Int32.reduceAdd, Int32.reduceSub, Int32.reduceMul]
          first
          | refine ⟨vp_inb rfl, ?_⟩
          | refine ⟨fun h => absurd h (of_decide_eq_false rfl), fun _ => ?_⟩
          | refine ⟨fun _ => ?_, fun h => absurd (of_decide_eq_true rfl) h⟩
          | refine ⟨fun _ => ?_, fun h => absurd h (of_decide_eq_false rfl)⟩
          | refine ⟨fun h => absurd (of_decide_eq_true rfl) h, fun _ => ?_⟩
          | refine ⟨of_decide_eq_true rfl, ?_⟩
          | refine ⟨rfl, ?_⟩)
  try (conv => whnf)
  first | exact rfl | exact ⟨rfl, rfl⟩
set_option maxRecDepth 100000 in
set_option maxHeartbeats 4000000 in
theorem zlc22 {p : Program} {e : Env} {s : State} {m : MethodId} {below : List Frame} {meth : Method} {c : Code} (l : Launch) (hlt : l.stackTraces = false) {b : Nat} {xs : Nat → Int32} {D : va_G} {cA : Nat → ClassId} (F9 : zLf p s m meth c b 7 xs D cA) : zLw p l e s m below meth c b D cA 1380 zl0 [] (234, 11049) (145, zSH, zRH, zs0, zt0) := by
  obtain ⟨F, hml, hNw, hX, -, -, -⟩ := id F9
  have hA : ∀ q : Nat, s.heap.size ≤ q → (fun q => s.heap.size ≤ q) q := fun _ h => h
  have hS := zlaw_step (l := l) (e := e) (below := below) F9 (zCL_law22 [(189, 1, 3, spL_isBroken, rmL_isBroken.cells, rmL_isBroken.slots), (191, 0, 1, spX8_isBroken, rmX8_isBroken.cells, rmX8_isBroken.slots), (113, 0, 0, spX8_thrown, rmX8_thrown.cells, rmX8_thrown.slots)]) (zscr xs) zpL_law22 [2219] zkL_law22 ⟨by decide +kernel, by decide +kernel, by decide +kernel, by decide +kernel⟩ rfl rfl zscr_sc zscr_sl ⟨zco_SW hX hA F hml hNw (zctW_X (ctL_isBroken l hlt D cA)) ⟨⟨zlL_law22_189, zwL_isBroken.1⟩, zwL_isBroken.2⟩ zdL_isBroken ⟨Nat.le_of_ble_eq_true rfl, Nat.le_of_ble_eq_true rfl⟩, zco_V hX hA F hml hNw (zct_X (ctX8_isBroken l D cA)) ⟨⟨zlL_law22_191, zwX8_isBroken.1.1, zwX8_isBroken.1.2⟩, zwX8_isBroken.2⟩ zdX8_isBroken ⟨Nat.le_of_ble_eq_true rfl, Nat.le_of_ble_eq_true rfl⟩ (ci := 8) (by decide) rfl (by rintro av μ K ⟨x, rfl, rfl, -⟩; exact ⟨_, _, rfl, rfl⟩), zco_V hX hA F hml hNw (zct_X (ctX8_thrown l D cA)) ⟨⟨zlL_law22_113, zwX8_thrown.1.1, zwX8_thrown.1.2⟩, zwX8_thrown.2⟩ zdX8_thrown ⟨Nat.le_of_ble_eq_true rfl, Nat.le_of_ble_eq_true rfl⟩ (ci := 8) (by decide) rfl (by rintro av μ K ⟨⟨μ0, x9⟩, rfl, rfl, h9, -⟩; exact ⟨_, _, rfl, congrArg Prod.fst h9.1⟩), trivial⟩
  have hZ := zLw_Z (p := p) (l := l) (e := e) (s := s) (m := m) (below := below) (meth := meth) (c := c) (b := b) (D := D) (cA := cA)
  generalize zLw p l e s m below meth c b D cA = Gl at hS hZ ⊢
  refine hS 400 _ _ _ _ _ ?_
  repeat (conv => whnf
          try dsimp only
          try simp (decide := true) only [zu_same, zu_ne1, zu_ne2, zuL_same, zuL_ne1, zuL_ne2, zrow_n1, zx0, zx1, zx2, zx3, zf_0_13, zf_0_14, zf_0_15, zf_1_3, zf_15_0, zf_16_0, zf_17_10, zf_86_3, zf_90_6, zf_90_7, zf_94_7, zf_100_6, zf_100_7, zf_118_0, zf_118_1, zf_118_2, zf_118_3, zg_119_0, zg_119_5, zg_119_9, zg_119_15, zg_119_19, zg_119_22, zg_119_1, zg_119_16, zg_120_0, zg_120_1, zg_120_2, zg_120_3, zg_121_0, zg_122_0, zg_124_0, zg_126_0, zg_127_0, zg_128_0, zg_129_0, zg_131_0, zg_131_1, zg_131_2, zg_131_3, Nat.reduceAdd, Nat.reduceMul, Int32.reduceAdd, Int32.reduceSub, Int32.reduceMul]
          first
          | refine ⟨vp_inb rfl, ?_⟩
          | refine ⟨fun h => absurd h (of_decide_eq_false rfl), fun _ => ?_⟩
          | refine ⟨fun _ => ?_, fun h => absurd (of_decide_eq_true rfl) h⟩
          | refine ⟨fun _ => ?_, fun h => absurd h (of_decide_eq_false rfl)⟩
          | refine ⟨fun h => absurd (of_decide_eq_true rfl) h, fun _ => ?_⟩
          | refine ⟨of_decide_eq_true rfl, ?_⟩
          | refine ⟨rfl, ?_⟩)
  try (conv => whnf)
  refine ⟨xs 1, rfl, rfl, trivial, ?_⟩
  try dsimp only
  rintro _ _ ⟨rfl, σ1, τ1, rfl⟩
  repeat (conv => whnf
          try dsimp only
          try simp (decide := true) only [zu_same, zu_ne1, zu_ne2, zuL_same, zuL_ne1, zuL_ne2, zrow_n1, zx0, zx1, zx2, zx3, zf_0_13, zf_0_14, zf_0_15, zf_1_3, zf_15_0, zf_16_0, zf_17_10, zf_86_3, zf_90_6, zf_90_7, zf_94_7, zf_100_6, zf_100_7, zf_118_0, zf_118_1, zf_118_2, zf_118_3, zg_119_0, zg_119_5, zg_119_9, zg_119_15, zg_119_19, zg_119_22, zg_119_1, zg_119_16, zg_120_0, zg_120_1, zg_120_2, zg_120_3, zg_121_0, zg_122_0, zg_124_0, zg_126_0, zg_127_0, zg_128_0, zg_129_0, zg_131_0, zg_131_1, zg_131_2, zg_131_3, Nat.reduceAdd, Nat.reduceMul, Int32.reduceAdd, Int32.reduceSub, Int32.reduceMul]
          first
          | refine ⟨vp_inb rfl, ?_⟩
          | refine ⟨fun h => absurd h (of_decide_eq_false rfl), fun _ => ?_⟩
          | refine ⟨fun _ => ?_, fun h => absurd (of_decide_eq_true rfl) h⟩
          | refine ⟨fun _ => ?_, fun h => absurd h (of_decide_eq_false rfl)⟩
          | refine ⟨fun h => absurd (of_decide_eq_true rfl) h, fun _ => ?_⟩
          | refine ⟨of_decide_eq_true rfl, ?_⟩
          | refine ⟨rfl, ?_⟩)
  try (conv => whnf)
  refine ⟨(xs 1, σ1, τ1, 0), rfl, rfl, trivial, ?_⟩
  try dsimp only
  rintro _ μ2 ⟨rfl, h1, h2, h3, h4⟩
  repeat (first
    | (conv => whnf
       try dsimp only
       try simp (decide := true) only [h1, h2, h3, h4, zu_same, zu_ne1, zu_ne2, zuL_same, zuL_ne1, zuL_ne2, zrow_n1, zx0, zx1, zx2, zx3, zf_0_13, zf_0_14, zf_0_15, zf_1_3, zf_15_0, zf_16_0, zf_17_10, zf_86_3, zf_90_6, zf_90_7, zf_94_7, zf_100_6, zf_100_7, zf_118_0, zf_118_1, zf_118_2, zf_118_3, zg_119_0, zg_119_5, zg_119_9, zg_119_15, zg_119_19, zg_119_22, zg_119_1, zg_119_16, zg_120_0, zg_120_1, zg_120_2, zg_120_3, zg_121_0, zg_122_0, zg_124_0, zg_126_0, zg_127_0, zg_128_0, zg_129_0, zg_131_0, zg_131_1, zg_131_2, zg_131_3, Nat.reduceAdd, Nat.reduceMul, Int32.reduceAdd, Int32.reduceSub, Int32.reduceMul]
       first
       | refine ⟨vp_inb rfl, ?_⟩
       | refine ⟨fun h => absurd h (of_decide_eq_false rfl), fun _ => ?_⟩
       | refine ⟨fun _ => ?_, fun h => absurd (of_decide_eq_true rfl) h⟩
       | refine ⟨fun _ => ?_, fun h => absurd h (of_decide_eq_false rfl)⟩
       | refine ⟨fun h => absurd (of_decide_eq_true rfl) h, fun _ => ?_⟩
       | refine ⟨of_decide_eq_true rfl, ?_⟩
       | refine ⟨rfl, ?_⟩)
    | (conv => whnf
       fail_if_success refine Exists.intro ?_ ?_
       simp only [h1, h2, h3, h4]))
  try (conv => whnf)
  refine ⟨(μ2, ()), rfl, rfl, ⟨h1, trivial⟩, ?_⟩
  try dsimp only
  repeat (first
    | (conv => whnf
       try dsimp only
       try simp (decide := true) only [h1, h2, h3, h4, zu_same, zu_ne1, zu_ne2, zuL_same, zuL_ne1, zuL_ne2, zrow_n1, zx0, zx1, zx2, zx3, zf_0_13, zf_0_14, zf_0_15, zf_1_3, zf_15_0, zf_16_0, zf_17_10, zf_86_3, zf_90_6, zf_90_7, zf_94_7, zf_100_6, zf_100_7, zf_118_0, zf_118_1, zf_118_2, zf_118_3, zg_119_0, zg_119_5, zg_119_9, zg_119_15, zg_119_19, zg_119_22, zg_119_1, zg_119_16, zg_120_0, zg_120_1, zg_120_2, zg_120_3, zg_121_0, zg_122_0, zg_124_0, zg_126_0, zg_127_0, zg_128_0, zg_129_0, zg_131_0, zg_131_1, zg_131_2, zg_131_3, Nat.reduceAdd, Nat.reduceMul, Int32.reduceAdd, Int32.reduceSub, Int32.reduceMul]
       first
       | refine ⟨vp_inb rfl, ?_⟩
       | refine ⟨fun h => absurd h (of_decide_eq_false rfl), fun _ => ?_⟩
       | refine ⟨fun _ => ?_, fun h => absurd (of_decide_eq_true rfl) h⟩
       | refine ⟨fun _ => ?_, fun h => absurd h (of_decide_eq_false rfl)⟩
       | refine ⟨fun h => absurd (of_decide_eq_true rfl) h, fun _ => ?_⟩
       | refine ⟨of_decide_eq_true rfl, ?_⟩
       | refine ⟨rfl, ?_⟩)
    | (conv => whnf
       fail_if_success refine Exists.intro ?_ ?_
       simp only [h1, h2, h3, h4]))
  try (conv => whnf)
  refine hZ _ _ _ _ _ ?_
  refine hS 40 _ _ _ _ _ ?_
  repeat (conv => whnf
          try dsimp only
          try simp (decide := true) only [zu_same, zu_ne1, zu_ne2, zuL_same, zuL_ne1, zuL_ne2, zrow_n1, zx0, zx1, zx2, zx3, zf_0_13, zf_0_14, zf_0_15, zf_1_3, zf_15_0, zf_16_0, zf_17_10, zf_86_3, zf_90_6, zf_90_7, zf_94_7, zf_100_6, zf_100_7, zf_118_0, zf_118_1, zf_118_2, zf_118_3, zg_119_0, zg_119_5, zg_119_9, zg_119_15, zg_119_19, zg_119_22, zg_119_1, zg_119_16, zg_120_0, zg_120_1, zg_120_2, zg_120_3, zg_121_0, zg_122_0, zg_124_0, zg_126_0, zg_127_0, zg_128_0, zg_129_0, zg_131_0, zg_131_1, zg_131_2, zg_131_3, Nat.reduceAdd, Nat.reduceMul, Int32.reduceAdd, Int32.reduceSub, Int32.reduceMul]
          first
          | refine ⟨vp_inb rfl, ?_⟩
          | refine ⟨fun h => absurd h (of_decide_eq_false rfl), fun _ => ?_⟩
          | refine ⟨fun _ => ?_, fun h => absurd (of_decide_eq_true rfl) h⟩
          | refine ⟨fun _ => ?_, fun h => absurd h (of_decide_eq_false rfl)⟩
          | refine ⟨fun h => absurd (of_decide_eq_true rfl) h, fun _ => ?_⟩
          | refine ⟨of_decide_eq_true rfl, ?_⟩
          | refine ⟨rfl, ?_⟩)
  try (conv => whnf)
  first | exact rfl | exact ⟨rfl, rfl⟩
set_option maxRecDepth 100000 in
set_option maxHeartbeats 4000000 in
theorem zlc23 {p : Program} {e : Env} {s : State} {m : MethodId} {below : List Frame} {meth : Method} {c : Code} (l : Launch) (hlt : l.stackTraces = false) {b : Nat} {xs : Nat → Int32} {D : va_G} {cA : Nat → ClassId} (F9 : zLf p s m meth c b 7 xs D cA) : zLw p l e s m below meth c b D cA 1443 zl0 [] (234, 11049) (145, zSH, zRH, zs0, zt0) := by
  obtain ⟨F, hml, hNw, hX, -, -, -⟩ := id F9
  have hA : ∀ q : Nat, s.heap.size ≤ q → (fun q => s.heap.size ≤ q) q := fun _ h => h
  have hS := zlaw_step (l := l) (e := e) (below := below) F9 (zCL_law23 [(192, 1, 3, spL_worth, rmL_worth.cells, rmL_worth.slots), (194, 0, 1, spX8_worth, rmX8_worth.cells, rmX8_worth.slots), (113, 0, 0, spX8_thrown, rmX8_thrown.cells, rmX8_thrown.slots)]) (zscr xs) zpL_law23 [2219] zkL_law23 ⟨by decide +kernel, by decide +kernel, by decide +kernel, by decide +kernel⟩ rfl rfl zscr_sc zscr_sl ⟨zco_SW hX hA F hml hNw (zctW_X (ctL_worth l hlt D cA)) ⟨⟨zlL_law23_192, zwL_worth.1⟩, zwL_worth.2⟩ zdL_worth ⟨Nat.le_of_ble_eq_true rfl, Nat.le_of_ble_eq_true rfl⟩, zco_V hX hA F hml hNw (zct_X (ctX8_worth l D cA)) ⟨⟨zlL_law23_194, zwX8_worth.1.1, zwX8_worth.1.2⟩, zwX8_worth.2⟩ zdX8_worth ⟨Nat.le_of_ble_eq_true rfl, Nat.le_of_ble_eq_true rfl⟩ (ci := 8) (by decide) rfl (by rintro av μ K ⟨x, rfl, rfl, -⟩; exact ⟨_, _, rfl, rfl⟩), zco_V hX hA F hml hNw (zct_X (ctX8_thrown l D cA)) ⟨⟨zlL_law23_113, zwX8_thrown.1.1, zwX8_thrown.1.2⟩, zwX8_thrown.2⟩ zdX8_thrown ⟨Nat.le_of_ble_eq_true rfl, Nat.le_of_ble_eq_true rfl⟩ (ci := 8) (by decide) rfl (by rintro av μ K ⟨⟨μ0, x9⟩, rfl, rfl, h9, -⟩; exact ⟨_, _, rfl, congrArg Prod.fst h9.1⟩), trivial⟩
  have hZ := zLw_Z (p := p) (l := l) (e := e) (s := s) (m := m) (below := below) (meth := meth) (c := c) (b := b) (D := D) (cA := cA)
  generalize zLw p l e s m below meth c b D cA = Gl at hS hZ ⊢
  refine hS 400 _ _ _ _ _ ?_
  repeat (conv => whnf
          try dsimp only
          try simp (decide := true) only [zu_same, zu_ne1, zu_ne2, zuL_same, zuL_ne1, zuL_ne2, zrow_n1, zx0, zx1, zx2, zx3, zf_0_13, zf_0_14, zf_0_15, zf_1_3, zf_15_0, zf_16_0, zf_17_10, zf_86_3, zf_90_6, zf_90_7, zf_94_7, zf_100_6, zf_100_7, zf_118_0, zf_118_1, zf_118_2, zf_118_3, zg_119_0, zg_119_5, zg_119_9, zg_119_15, zg_119_19, zg_119_22, zg_119_1, zg_119_16, zg_120_0, zg_120_1, zg_120_2, zg_120_3, zg_121_0, zg_122_0, zg_124_0, zg_126_0, zg_127_0, zg_128_0, zg_129_0, zg_131_0, zg_131_1, zg_131_2, zg_131_3, Nat.reduceAdd, Nat.reduceMul, Int32.reduceAdd, Int32.reduceSub, Int32.reduceMul]
          first
          | refine ⟨vp_inb rfl, ?_⟩
          | refine ⟨fun h => absurd h (of_decide_eq_false rfl), fun _ => ?_⟩
          | refine ⟨fun _ => ?_, fun h => absurd (of_decide_eq_true rfl) h⟩
          | refine ⟨fun _ => ?_, fun h => absurd h (of_decide_eq_false rfl)⟩
          | refine ⟨fun h => absurd (of_decide_eq_true rfl) h, fun _ => ?_⟩
          | refine ⟨of_decide_eq_true rfl, ?_⟩
          | refine ⟨rfl, ?_⟩)
  try (conv => whnf)
  refine ⟨xs 1, rfl, rfl, trivial, ?_⟩
  try dsimp only
  rintro _ _ ⟨rfl, σ1, τ1, rfl⟩
  repeat (conv => whnf
          try dsimp only
          try simp (decide := true) only [zu_same, zu_ne1, zu_ne2, zuL_same, zuL_ne1, zuL_ne2, zrow_n1, zx0, zx1, zx2, zx3, zf_0_13, zf_0_14, zf_0_15, zf_1_3, zf_15_0, zf_16_0, zf_17_10, zf_86_3, zf_90_6, zf_90_7, zf_94_7, zf_100_6, zf_100_7, zf_118_0, zf_118_1, zf_118_2, zf_118_3, zg_119_0, zg_119_5, zg_119_9, zg_119_15, zg_119_19, zg_119_22, zg_119_1, zg_119_16, zg_120_0, zg_120_1, zg_120_2, zg_120_3, zg_121_0, zg_122_0, zg_124_0, zg_126_0, zg_127_0, zg_128_0, zg_129_0, zg_131_0, zg_131_1, zg_131_2, zg_131_3, Nat.reduceAdd, Nat.reduceMul, Int32.reduceAdd, Int32.reduceSub, Int32.reduceMul]
          first
          | refine ⟨vp_inb rfl, ?_⟩
          | refine ⟨fun h => absurd h (of_decide_eq_false rfl), fun _ => ?_⟩
          | refine ⟨fun _ => ?_, fun h => absurd (of_decide_eq_true rfl) h⟩
          | refine ⟨fun _ => ?_, fun h => absurd h (of_decide_eq_false rfl)⟩
          | refine ⟨fun h => absurd (of_decide_eq_true rfl) h, fun _ => ?_⟩
          | refine ⟨of_decide_eq_true rfl, ?_⟩
          | refine ⟨rfl, ?_⟩)
  try (conv => whnf)
  refine ⟨(xs 1, σ1, τ1, 0), rfl, rfl, trivial, ?_⟩
  try dsimp only
  rintro _ μ2 ⟨rfl, h1, h2, h3, h4⟩
  repeat (first
    | (conv => whnf
       try dsimp only
       try simp (decide := true) only [h1, h2, h3, h4, zu_same, zu_ne1, zu_ne2, zuL_same, zuL_ne1, zuL_ne2, zrow_n1, zx0, zx1, zx2, zx3, zf_0_13, zf_0_14, zf_0_15, zf_1_3, zf_15_0, zf_16_0, zf_17_10, zf_86_3, zf_90_6, zf_90_7, zf_94_7, zf_100_6, zf_100_7, zf_118_0, zf_118_1, zf_118_2, zf_118_3, zg_119_0, zg_119_5, zg_119_9, zg_119_15, zg_119_19, zg_119_22, zg_119_1, zg_119_16, zg_120_0, zg_120_1, zg_120_2, zg_120_3, zg_121_0, zg_122_0, zg_124_0, zg_126_0, zg_127_0, zg_128_0, zg_129_0, zg_131_0, zg_131_1, zg_131_2, zg_131_3, Nat.reduceAdd, Nat.reduceMul, Int32.reduceAdd, Int32.reduceSub, Int32.reduceMul]
       first
       | refine ⟨vp_inb rfl, ?_⟩
       | refine ⟨fun h => absurd h (of_decide_eq_false rfl), fun _ => ?_⟩
       | refine ⟨fun _ => ?_, fun h => absurd (of_decide_eq_true rfl) h⟩
       | refine ⟨fun _ => ?_, fun h => absurd h (of_decide_eq_false rfl)⟩
       | refine ⟨fun h => absurd (of_decide_eq_true rfl) h, fun _ => ?_⟩
       | refine ⟨of_decide_eq_true rfl, ?_⟩
       | refine ⟨rfl, ?_⟩)
    | (conv => whnf
       fail_if_success refine Exists.intro ?_ ?_
       simp only [h1, h2, h3, h4]))
  try (conv => whnf)
  refine ⟨(μ2, ()), rfl, rfl, ⟨h1, trivial⟩, ?_⟩
  try dsimp only
  repeat (first
    | (conv => whnf
       try dsimp only
       try simp (decide := true) only [h1, h2, h3, h4, zu_same, zu_ne1, zu_ne2, zuL_same, zuL_ne1, zuL_ne2, zrow_n1, zx0, zx1, zx2, zx3, zf_0_13, zf_0_14, zf_0_15, zf_1_3, zf_15_0, zf_16_0, zf_17_10, zf_86_3, zf_90_6, zf_90_7, zf_94_7, zf_100_6, zf_100_7, zf_118_0, zf_118_1, zf_118_2, zf_118_3, zg_119_0, zg_119_5, zg_119_9, zg_119_15, zg_119_19, zg_119_22, zg_119_1, zg_119_16, zg_120_0, zg_120_1, zg_120_2, zg_120_3, zg_121_0, zg_122_0, zg_124_0, zg_126_0, zg_127_0, zg_128_0, zg_129_0, zg_131_0, zg_131_1, zg_131_2, zg_131_3, Nat.reduceAdd, Nat.reduceMul, Int32.reduceAdd, Int32.reduceSub, Int32.reduceMul]
       first
       | refine ⟨vp_inb rfl, ?_⟩
       | refine ⟨fun h => absurd h (of_decide_eq_false rfl), fun _ => ?_⟩
       | refine ⟨fun _ => ?_, fun h => absurd (of_decide_eq_true rfl) h⟩
       | refine ⟨fun _ => ?_, fun h => absurd h (of_decide_eq_false rfl)⟩
       | refine ⟨fun h => absurd (of_decide_eq_true rfl) h, fun _ => ?_⟩
       | refine ⟨of_decide_eq_true rfl, ?_⟩
       | refine ⟨rfl, ?_⟩)
    | (conv => whnf
       fail_if_success refine Exists.intro ?_ ?_
       simp only [h1, h2, h3, h4]))
  try (conv => whnf)
  refine hZ _ _ _ _ _ ?_
  refine hS 40 _ _ _ _ _ ?_
  repeat (conv => whnf
          try dsimp only
          try simp (decide := true) only [zu_same, zu_ne1, zu_ne2, zuL_same, zuL_ne1, zuL_ne2, zrow_n1, zx0, zx1, zx2, zx3, zf_0_13, zf_0_14, zf_0_15, zf_1_3, zf_15_0, zf_16_0, zf_17_10, zf_86_3, zf_90_6, zf_90_7, zf_94_7, zf_100_6, zf_100_7, zf_118_0, zf_118_1, zf_118_2, zf_118_3, zg_119_0, zg_119_5, zg_119_9, zg_119_15, zg_119_19, zg_119_22, zg_119_1, zg_119_16, zg_120_0, zg_120_1, zg_120_2, zg_120_3, zg_121_0, zg_122_0, zg_124_0, zg_126_0, zg_127_0, zg_128_0, zg_129_0, zg_131_0, zg_131_1, zg_131_2, zg_131_3, Nat.reduceAdd, Nat.reduceMul, Int32.reduceAdd, Int32.reduceSub, Int32.reduceMul]
          first
          | refine ⟨vp_inb rfl, ?_⟩
          | refine ⟨fun h => absurd h (of_decide_eq_false rfl), fun _ => ?_⟩
          | refine ⟨fun _ => ?_, fun h => absurd (of_decide_eq_true rfl) h⟩
          | refine ⟨fun _ => ?_, fun h => absurd h (of_decide_eq_false rfl)⟩
          | refine ⟨fun h => absurd (of_decide_eq_true rfl) h, fun _ => ?_⟩
          | refine ⟨of_decide_eq_true rfl, ?_⟩
          | refine ⟨rfl, ?_⟩)
  try (conv => whnf)
  first | exact rfl | exact ⟨rfl, rfl⟩

/-! ===== the law's cases ===== -/
set_option maxRecDepth 100000 in
set_option maxHeartbeats 4000000 in
theorem zlc24 {p : Program} {e : Env} {s : State} {m : MethodId} {below : List Frame} {meth : Method} {c : Code} (l : Launch) (hlt : l.stackTraces = false) {b : Nat} {xs : Nat → Int32} {D : va_G} {cA : Nat → ClassId} (F9 : zLf p s m meth c b 7 xs D cA) : zLw p l e s m below meth c b D cA 1499 zl0 [] (234, 11049) (145, zSH, zRH, zs0, zt0) := by
  obtain ⟨F, hml, hNw, hX, -, -, -⟩ := id F9
  have hA : ∀ q : Nat, s.heap.size ≤ q → (fun q => s.heap.size ≤ q) q := fun _ h => h
  have hS := zlaw_step (l := l) (e := e) (below := below) F9 (zCL_law24 [(195, 0, 0, spX7_broken, rmX7_broken.cells, rmX7_broken.slots), (198, 0, 0, spX8_broken, rmX8_broken.cells, rmX8_broken.slots)]) (zscr xs) zpL_law24 [2219] zkL_law24 ⟨by decide +kernel, by decide +kernel, by decide +kernel, by decide +kernel⟩ rfl rfl zscr_sc zscr_sl ⟨zco_V hX hA F hml hNw (zct_X (ctX7_broken l D cA)) ⟨⟨zlL_law24_195, zwX7_broken.1.1, zwX7_broken.1.2⟩, zwX7_broken.2⟩ zdX7_broken ⟨Nat.le_of_ble_eq_true rfl, Nat.le_of_ble_eq_true rfl⟩ (ci := 7) (by decide) rfl (by rintro av μ K ⟨x, rfl, rfl, -⟩; exact ⟨_, _, rfl, rfl⟩), zco_V hX hA F hml hNw (zct_X (ctX8_broken l D cA)) ⟨⟨zlL_law24_198, zwX8_broken.1.1, zwX8_broken.1.2⟩, zwX8_broken.2⟩ zdX8_broken ⟨Nat.le_of_ble_eq_true rfl, Nat.le_of_ble_eq_true rfl⟩ (ci := 8) (by decide) rfl (by rintro av μ K ⟨x, rfl, rfl, -⟩; exact ⟨_, _, rfl, rfl⟩), trivial⟩
  have hZ := zLw_Z (p := p) (l := l) (e := e) (s := s) (m := m) (below := below) (meth := meth) (c := c) (b := b) (D := D) (cA := cA)
  generalize zLw p l e s m below meth c b D cA = Gl at hS hZ ⊢
  refine hS 400 _ _ _ _ _ ?_
  repeat (conv => whnf
          try dsimp only
          try simp (decide := true) only [zu_same, zu_ne1, zu_ne2, zuL_same, zuL_ne1, zuL_ne2, zrow_n1, zx0, zx1, zx2, zx3, zf_0_13, zf_0_14, zf_0_15, zf_1_3, zf_15_0, zf_16_0, zf_17_10, zf_86_3, zf_90_6, zf_90_7, zf_94_7, zf_100_6, zf_100_7, zf_118_0, zf_118_1, zf_118_2, zf_118_3, zg_119_0, zg_119_5, zg_119_9, zg_119_15, zg_119_19, zg_119_22, zg_119_1, zg_119_16, zg_120_0, zg_120_1, zg_120_2, zg_120_3, zg_121_0, zg_122_0, zg_124_0, zg_126_0, zg_127_0, zg_128_0, zg_129_0, zg_131_0, zg_131_1, zg_131_2, zg_131_3, Nat.reduceAdd, Nat.reduceMul, Int32.reduceAdd, Int32.reduceSub, Int32.reduceMul]
          first
          | refine ⟨vp_inb rfl, ?_⟩
          | refine ⟨fun h => absurd h (of_decide_eq_false rfl), fun _ => ?_⟩
          | refine ⟨fun _ => ?_, fun h => absurd (of_decide_eq_true rfl) h⟩
          | refine ⟨fun _ => ?_, fun h => absurd h (of_decide_eq_false rfl)⟩
          | refine ⟨fun h => absurd (of_decide_eq_true rfl) h, fun _ => ?_⟩
          | refine ⟨of_decide_eq_true rfl, ?_⟩
          | refine ⟨rfl, ?_⟩)
  try (conv => whnf)
  refine ⟨(), rfl, rfl, trivial, ?_⟩
  try dsimp only
  rintro _ _ ⟨rfl, σ1, τ1, rfl⟩
  repeat (conv => whnf
          try dsimp only
          try simp (decide := true) only [zu_same, zu_ne1, zu_ne2, zuL_same, zuL_ne1, zuL_ne2, zrow_n1, zx0, zx1, zx2, zx3, zf_0_13, zf_0_14, zf_0_15, zf_1_3, zf_15_0, zf_16_0, zf_17_10, zf_86_3, zf_90_6, zf_90_7, zf_94_7, zf_100_6, zf_100_7, zf_118_0, zf_118_1, zf_118_2, zf_118_3, zg_119_0, zg_119_5, zg_119_9, zg_119_15, zg_119_19, zg_119_22, zg_119_1, zg_119_16, zg_120_0, zg_120_1, zg_120_2, zg_120_3, zg_121_0, zg_122_0, zg_124_0, zg_126_0, zg_127_0, zg_128_0, zg_129_0, zg_131_0, zg_131_1, zg_131_2, zg_131_3, Nat.reduceAdd, Nat.reduceMul, Int32.reduceAdd, Int32.reduceSub, Int32.reduceMul]
          first
          | refine ⟨vp_inb rfl, ?_⟩
          | refine ⟨fun h => absurd h (of_decide_eq_false rfl), fun _ => ?_⟩
          | refine ⟨fun _ => ?_, fun h => absurd (of_decide_eq_true rfl) h⟩
          | refine ⟨fun _ => ?_, fun h => absurd h (of_decide_eq_false rfl)⟩
          | refine ⟨fun h => absurd (of_decide_eq_true rfl) h, fun _ => ?_⟩
          | refine ⟨of_decide_eq_true rfl, ?_⟩
          | refine ⟨rfl, ?_⟩)
  try (conv => whnf)
  refine ⟨(σ1, τ1, 0), rfl, rfl, trivial, ?_⟩
  try dsimp only
  rintro _ μ2 ⟨rfl, -⟩
  repeat (conv => whnf
          try dsimp only
          try simp (decide := true) only [zu_same, zu_ne1, zu_ne2, zuL_same, zuL_ne1, zuL_ne2, zrow_n1, zx0, zx1, zx2, zx3, zf_0_13, zf_0_14, zf_0_15, zf_1_3, zf_15_0, zf_16_0, zf_17_10, zf_86_3, zf_90_6, zf_90_7, zf_94_7, zf_100_6, zf_100_7, zf_118_0, zf_118_1, zf_118_2, zf_118_3, zg_119_0, zg_119_5, zg_119_9, zg_119_15, zg_119_19, zg_119_22, zg_119_1, zg_119_16, zg_120_0, zg_120_1, zg_120_2, zg_120_3, zg_121_0, zg_122_0, zg_124_0, zg_126_0, zg_127_0, zg_128_0, zg_129_0, zg_131_0, zg_131_1, zg_131_2, zg_131_3, Nat.reduceAdd, Nat.reduceMul, Int32.reduceAdd, Int32.reduceSub, Int32.reduceMul]
          first
          | refine ⟨vp_inb rfl, ?_⟩
          | refine ⟨fun h => absurd h (of_decide_eq_false rfl), fun _ => ?_⟩
          | refine ⟨fun _ => ?_, fun h => absurd (of_decide_eq_true rfl) h⟩
          | refine ⟨fun _ => ?_, fun h => absurd h (of_decide_eq_false rfl)⟩
          | refine ⟨fun h => absurd (of_decide_eq_true rfl) h, fun _ => ?_⟩
          | refine ⟨of_decide_eq_true rfl, ?_⟩
          | refine ⟨rfl, ?_⟩)
  try (conv => whnf)
  refine hZ _ _ _ _ _ ?_
  refine hS 40 _ _ _ _ _ ?_
  repeat (conv => whnf
          try dsimp only
          try simp (decide := true) only [zu_same, zu_ne1, zu_ne2, zuL_same, zuL_ne1, zuL_ne2, zrow_n1, zx0, zx1, zx2, zx3, zf_0_13, zf_0_14, zf_0_15, zf_1_3, zf_15_0, zf_16_0, zf_17_10, zf_86_3, zf_90_6, zf_90_7, zf_94_7, zf_100_6, zf_100_7, zf_118_0, zf_118_1, zf_118_2, zf_118_3, zg_119_0, zg_119_5, zg_119_9, zg_119_15, zg_119_19, zg_119_22, zg_119_1, zg_119_16, zg_120_0, zg_120_1, zg_120_2, zg_120_3, zg_121_0, zg_122_0, zg_124_0, zg_126_0, zg_127_0, zg_128_0, zg_129_0, zg_131_0, zg_131_1, zg_131_2, zg_131_3, Nat.reduceAdd, Nat.reduceMul, Int32.reduceAdd, Int32.reduceSub, Int32.reduceMul]
          first
          | refine ⟨vp_inb rfl, ?_⟩
          | refine ⟨fun h => absurd h (of_decide_eq_false rfl), fun _ => ?_⟩
          | refine ⟨fun _ => ?_, fun h => absurd (of_decide_eq_true rfl) h⟩
          | refine ⟨fun _ => ?_, fun h => absurd h (of_decide_eq_false rfl)⟩
          | refine ⟨fun h => absurd (of_decide_eq_true rfl) h, fun _ => ?_⟩
          | refine ⟨of_decide_eq_true rfl, ?_⟩
          | refine ⟨rfl, ?_⟩)
  try (conv => whnf)
  first | exact rfl | exact ⟨rfl, rfl⟩
set_option maxRecDepth 100000 in
set_option maxHeartbeats 4000000 in
theorem zlc25 {p : Program} {e : Env} {s : State} {m : MethodId} {below : List Frame} {meth : Method} {c : Code} (l : Launch) (hlt : l.stackTraces = false) {b : Nat} {xs : Nat → Int32} {D : va_G} {cA : Nat → ClassId} (F9 : zLf p s m meth c b 7 xs D cA) : zLw p l e s m below meth c b D cA 1512 zl0 [] (234, 11049) (145, zSH, zRH, zs0, zt0) := by
  obtain ⟨F, hml, hNw, hX, -, -, -⟩ := id F9
  have hA : ∀ q : Nat, s.heap.size ≤ q → (fun q => s.heap.size ≤ q) q := fun _ h => h
  have hS := zlaw_step (l := l) (e := e) (below := below) F9 (zCL_law25 [(199, 1, 7, spL_seek, rmL_seek.cells, rmL_seek.slots), (202, 0, 5, spX8_seek, rmX8_seek.cells, rmX8_seek.slots), (113, 0, 0, spX8_thrown, rmX8_thrown.cells, rmX8_thrown.slots)]) (zscr xs) zpL_law25 [2219] zkL_law25 ⟨by decide +kernel, by decide +kernel, by decide +kernel, by decide +kernel⟩ rfl rfl zscr_sc zscr_sl ⟨zco_SW hX hA F hml hNw (zctW_X (ctL_seek l hlt D cA)) ⟨⟨zlL_law25_199, zwL_seek.1⟩, zwL_seek.2⟩ zdL_seek ⟨Nat.le_of_ble_eq_true rfl, Nat.le_of_ble_eq_true rfl⟩, zco_V hX hA F hml hNw (zct_X (ctX8_seek l D cA)) ⟨⟨zlL_law25_202, zwX8_seek.1.1, zwX8_seek.1.2⟩, zwX8_seek.2⟩ zdX8_seek ⟨Nat.le_of_ble_eq_true rfl, Nat.le_of_ble_eq_true rfl⟩ (ci := 8) (by decide) rfl (by rintro av μ K ⟨x, rfl, rfl, -⟩; exact ⟨_, _, rfl, rfl⟩), zco_V hX hA F hml hNw (zct_X (ctX8_thrown l D cA)) ⟨⟨zlL_law25_113, zwX8_thrown.1.1, zwX8_thrown.1.2⟩, zwX8_thrown.2⟩ zdX8_thrown ⟨Nat.le_of_ble_eq_true rfl, Nat.le_of_ble_eq_true rfl⟩ (ci := 8) (by decide) rfl (by rintro av μ K ⟨⟨μ0, x9⟩, rfl, rfl, h9, -⟩; exact ⟨_, _, rfl, congrArg Prod.fst h9.1⟩), trivial⟩
  have hZ := zLw_Z (p := p) (l := l) (e := e) (s := s) (m := m) (below := below) (meth := meth) (c := c) (b := b) (D := D) (cA := cA)
  generalize zLw p l e s m below meth c b D cA = Gl at hS hZ ⊢
  refine hS 400 _ _ _ _ _ ?_
  repeat (conv => whnf
          try dsimp only
          try simp (decide := true) only [zu_same, zu_ne1, zu_ne2, zuL_same, zuL_ne1, zuL_ne2, zrow_n1, zx0, zx1, zx2, zx3, zf_0_13, zf_0_14, zf_0_15, zf_1_3, zf_15_0, zf_16_0, zf_17_10, zf_86_3, zf_90_6, zf_90_7, zf_94_7, zf_100_6, zf_100_7, zf_118_0, zf_118_1, zf_118_2, zf_118_3, zg_119_0, zg_119_5, zg_119_9, zg_119_15, zg_119_19, zg_119_22, zg_119_1, zg_119_16, zg_120_0, zg_120_1, zg_120_2, zg_120_3, zg_121_0, zg_122_0, zg_124_0, zg_126_0, zg_127_0, zg_128_0, zg_129_0, zg_131_0, zg_131_1, zg_131_2, zg_131_3, Nat.reduceAdd, Nat.reduceMul, Int32.reduceAdd, Int32.reduceSub, Int32.reduceMul]
          first
          | refine ⟨vp_inb rfl, ?_⟩
          | refine ⟨fun h => absurd h (of_decide_eq_false rfl), fun _ => ?_⟩
          | refine ⟨fun _ => ?_, fun h => absurd (of_decide_eq_true rfl) h⟩
          | refine ⟨fun _ => ?_, fun h => absurd h (of_decide_eq_false rfl)⟩
          | refine ⟨fun h => absurd (of_decide_eq_true rfl) h, fun _ => ?_⟩
          | refine ⟨of_decide_eq_true rfl, ?_⟩
          | refine ⟨rfl, ?_⟩)
  try (conv => whnf)
  refine ⟨(xs 1, xs 2, xs 3, xs 4, xs 5), rfl, rfl, trivial, ?_⟩
  try dsimp only
  rintro _ _ ⟨rfl, σ1, τ1, rfl⟩
  repeat (conv => whnf
          try dsimp only
          try simp (decide := true) only [zu_same, zu_ne1, zu_ne2, zuL_same, zuL_ne1, zuL_ne2, zrow_n1, zx0, zx1, zx2, zx3, zf_0_13, zf_0_14, zf_0_15, zf_1_3, zf_15_0, zf_16_0, zf_17_10, zf_86_3, zf_90_6, zf_90_7, zf_94_7, zf_100_6, zf_100_7, zf_118_0, zf_118_1, zf_118_2, zf_118_3, zg_119_0, zg_119_5, zg_119_9, zg_119_15, zg_119_19, zg_119_22, zg_119_1, zg_119_16, zg_120_0, zg_120_1, zg_120_2, zg_120_3, zg_121_0, zg_122_0, zg_124_0, zg_126_0, zg_127_0, zg_128_0, zg_129_0, zg_131_0, zg_131_1, zg_131_2, zg_131_3, Nat.reduceAdd, Nat.reduceMul, Int32.reduceAdd, Int32.reduceSub, Int32.reduceMul]
          first
          | refine ⟨vp_inb rfl, ?_⟩
          | refine ⟨fun h => absurd h (of_decide_eq_false rfl), fun _ => ?_⟩
          | refine ⟨fun _ => ?_, fun h => absurd (of_decide_eq_true rfl) h⟩
          | refine ⟨fun _ => ?_, fun h => absurd h (of_decide_eq_false rfl)⟩
          | refine ⟨fun h => absurd (of_decide_eq_true rfl) h, fun _ => ?_⟩
          | refine ⟨of_decide_eq_true rfl, ?_⟩
          | refine ⟨rfl, ?_⟩)
  try (conv => whnf)
  refine ⟨(xs 1, xs 2, xs 3, xs 4, xs 5, σ1, τ1, 0), rfl, rfl, trivial, ?_⟩
  try dsimp only
  rintro _ μ2 ⟨rfl, h1, h2, h3, h4⟩
  repeat (first
    | (conv => whnf
       try dsimp only
       try simp (decide := true) only [h1, h2, h3, h4, zu_same, zu_ne1, zu_ne2, zuL_same, zuL_ne1, zuL_ne2, zrow_n1, zx0, zx1, zx2, zx3, zf_0_13, zf_0_14, zf_0_15, zf_1_3, zf_15_0, zf_16_0, zf_17_10, zf_86_3, zf_90_6, zf_90_7, zf_94_7, zf_100_6, zf_100_7, zf_118_0, zf_118_1, zf_118_2, zf_118_3, zg_119_0, zg_119_5, zg_119_9, zg_119_15, zg_119_19, zg_119_22, zg_119_1, zg_119_16, zg_120_0, zg_120_1, zg_120_2, zg_120_3, zg_121_0, zg_122_0, zg_124_0, zg_126_0, zg_127_0, zg_128_0, zg_129_0, zg_131_0, zg_131_1, zg_131_2, zg_131_3, Nat.reduceAdd, Nat.reduceMul, Int32.reduceAdd, Int32.reduceSub, Int32.reduceMul]
       first
       | refine ⟨vp_inb rfl, ?_⟩
       | refine ⟨fun h => absurd h (of_decide_eq_false rfl), fun _ => ?_⟩
       | refine ⟨fun _ => ?_, fun h => absurd (of_decide_eq_true rfl) h⟩
       | refine ⟨fun _ => ?_, fun h => absurd h (of_decide_eq_false rfl)⟩
       | refine ⟨fun h => absurd (of_decide_eq_true rfl) h, fun _ => ?_⟩
       | refine ⟨of_decide_eq_true rfl, ?_⟩
       | refine ⟨rfl, ?_⟩)
    | (conv => whnf
       fail_if_success refine Exists.intro ?_ ?_
       simp only [h1, h2, h3, h4]))
  try (conv => whnf)
  refine ⟨(μ2, ()), rfl, rfl, ⟨h1, trivial⟩, ?_⟩
  try dsimp only
  repeat (first
    | (conv => whnf
       try dsimp only
       try simp (decide := true) only [h1, h2, h3, h4, zu_same, zu_ne1, zu_ne2, zuL_same, zuL_ne1, zuL_ne2, zrow_n1, zx0, zx1, zx2, zx3, zf_0_13, zf_0_14, zf_0_15, zf_1_3, zf_15_0, zf_16_0, zf_17_10, zf_86_3, zf_90_6, zf_90_7, zf_94_7, zf_100_6, zf_100_7, zf_118_0, zf_118_1, zf_118_2, zf_118_3, zg_119_0, zg_119_5, zg_119_9, zg_119_15, zg_119_19, zg_119_22, zg_119_1, zg_119_16, zg_120_0, zg_120_1, zg_120_2, zg_120_3, zg_121_0, zg_122_0, zg_124_0, zg_126_0, zg_127_0, zg_128_0, zg_129_0, zg_131_0, zg_131_1, zg_131_2, zg_131_3, Nat.reduceAdd, Nat.reduceMul, Int32.reduceAdd, Int32.reduceSub, Int32.reduceMul]
       first
       | refine ⟨vp_inb rfl, ?_⟩
       | refine ⟨fun h => absurd h (of_decide_eq_false rfl), fun _ => ?_⟩
       | refine ⟨fun _ => ?_, fun h => absurd (of_decide_eq_true rfl) h⟩
       | refine ⟨fun _ => ?_, fun h => absurd h (of_decide_eq_false rfl)⟩
       | refine ⟨fun h => absurd (of_decide_eq_true rfl) h, fun _ => ?_⟩
       | refine ⟨of_decide_eq_true rfl, ?_⟩
       | refine ⟨rfl, ?_⟩)
    | (conv => whnf
       fail_if_success refine Exists.intro ?_ ?_
       simp only [h1, h2, h3, h4]))
  try (conv => whnf)
  refine hZ _ _ _ _ _ ?_
  refine hS 40 _ _ _ _ _ ?_
  repeat (conv => whnf
          try dsimp only
          try simp (decide := true) only [zu_same, zu_ne1, zu_ne2, zuL_same, zuL_ne1, zuL_ne2, zrow_n1, zx0, zx1, zx2, zx3, zf_0_13, zf_0_14, zf_0_15, zf_1_3, zf_15_0, zf_16_0, zf_17_10, zf_86_3, zf_90_6, zf_90_7, zf_94_7, zf_100_6, zf_100_7, zf_118_0, zf_118_1, zf_118_2, zf_118_3, zg_119_0, zg_119_5, zg_119_9, zg_119_15, zg_119_19, zg_119_22, zg_119_1, zg_119_16, zg_120_0, zg_120_1, zg_120_2, zg_120_3, zg_121_0, zg_122_0, zg_124_0, zg_126_0, zg_127_0, zg_128_0, zg_129_0, zg_131_0, zg_131_1, zg_131_2, zg_131_3, Nat.reduceAdd, Nat.reduceMul, Int32.reduceAdd, Int32.reduceSub, Int32.reduceMul]
          first
          | refine ⟨vp_inb rfl, ?_⟩
          | refine ⟨fun h => absurd h (of_decide_eq_false rfl), fun _ => ?_⟩
          | refine ⟨fun _ => ?_, fun h => absurd (of_decide_eq_true rfl) h⟩
          | refine ⟨fun _ => ?_, fun h => absurd h (of_decide_eq_false rfl)⟩
          | refine ⟨fun h => absurd (of_decide_eq_true rfl) h, fun _ => ?_⟩
          | refine ⟨of_decide_eq_true rfl, ?_⟩
          | refine ⟨rfl, ?_⟩)
  try (conv => whnf)
  first | exact rfl | exact ⟨rfl, rfl⟩
set_option maxRecDepth 100000 in
set_option maxHeartbeats 4000000 in
theorem zlc26 {p : Program} {e : Env} {s : State} {m : MethodId} {below : List Frame} {meth : Method} {c : Code} (l : Launch) (hlt : l.stackTraces = false) {b : Nat} {xs : Nat → Int32} {D : va_G} {cA : Nat → ClassId} (F9 : zLf p s m meth c b 7 xs D cA) : zLw p l e s m below meth c b D cA 1616 zl0 [] (234, 11049) (145, zSH, zRH, zs0, zt0) := by
  obtain ⟨F, hml, hNw, hX, -, -, -⟩ := id F9
  have hA : ∀ q : Nat, s.heap.size ≤ q → (fun q => s.heap.size ≤ q) q := fun _ h => h
  have hS := zlaw_step (l := l) (e := e) (below := below) F9 (zCL_law26 [(203, 1, 5, spL_amountWith, rmL_amountWith.cells, rmL_amountWith.slots), (205, 0, 3, spX8_amountWith, rmX8_amountWith.cells, rmX8_amountWith.slots), (113, 0, 0, spX8_thrown, rmX8_thrown.cells, rmX8_thrown.slots)]) (zscr xs) zpL_law26 [2219] zkL_law26 ⟨by decide +kernel, by decide +kernel, by decide +kernel, by decide +kernel⟩ rfl rfl zscr_sc zscr_sl ⟨zco_SW hX hA F hml hNw (zctW_X (ctL_amountWith l hlt D cA)) ⟨⟨zlL_law26_203, zwL_amountWith.1⟩, zwL_amountWith.2⟩ zdL_amountWith ⟨Nat.le_of_ble_eq_true rfl, Nat.le_of_ble_eq_true rfl⟩, zco_V hX hA F hml hNw (zct_X (ctX8_amountWith l D cA)) ⟨⟨zlL_law26_205, zwX8_amountWith.1.1, zwX8_amountWith.1.2⟩, zwX8_amountWith.2⟩ zdX8_amountWith ⟨Nat.le_of_ble_eq_true rfl, Nat.le_of_ble_eq_true rfl⟩ (ci := 8) (by decide) rfl (by rintro av μ K ⟨x, rfl, rfl, -⟩; exact ⟨_, _, rfl, rfl⟩), zco_V hX hA F hml hNw (zct_X (ctX8_thrown l D cA)) ⟨⟨zlL_law26_113, zwX8_thrown.1.1, zwX8_thrown.1.2⟩, zwX8_thrown.2⟩ zdX8_thrown ⟨Nat.le_of_ble_eq_true rfl, Nat.le_of_ble_eq_true rfl⟩ (ci := 8) (by decide) rfl (by rintro av μ K ⟨⟨μ0, x9⟩, rfl, rfl, h9, -⟩; exact ⟨_, _, rfl, congrArg Prod.fst h9.1⟩), trivial⟩
  have hZ := zLw_Z (p := p) (l := l) (e := e) (s := s) (m := m) (below := below) (meth := meth) (c := c) (b := b) (D := D) (cA := cA)
  generalize zLw p l e s m below meth c b D cA = Gl at hS hZ ⊢
  refine hS 400 _ _ _ _ _ ?_
  repeat (conv => whnf
          try dsimp only
          try simp (decide := true) only [zu_same, zu_ne1, zu_ne2, zuL_same, zuL_ne1, zuL_ne2, zrow_n1, zx0, zx1, zx2, zx3, zf_0_13, zf_0_14, zf_0_15, zf_1_3, zf_15_0, zf_16_0, zf_17_10, zf_86_3, zf_90_6, zf_90_7, zf_94_7, zf_100_6, zf_100_7, zf_118_0, zf_118_1, zf_118_2, zf_118_3, zg_119_0, zg_119_5, zg_119_9, zg_119_15, zg_119_19, zg_119_22, zg_119_1, zg_119_16, zg_120_0, zg_120_1, zg_120_2, zg_120_3, zg_121_0, zg_122_0, zg_124_0, zg_126_0, zg_127_0, zg_128_0, zg_129_0, zg_131_0, zg_131_1, zg_131_2, zg_131_3, Nat.reduceAdd, Nat.reduceMul, Int32.reduceAdd, Int32.reduceSub, Int32.reduceMul]
          first
          | refine ⟨vp_inb rfl, ?_⟩
          | refine ⟨fun h => absurd h (of_decide_eq_false rfl), fun _ => ?_⟩
          | refine ⟨fun _ => ?_, fun h => absurd (of_decide_eq_true rfl) h⟩
          | refine ⟨fun _ => ?_, fun h => absurd h (of_decide_eq_false rfl)⟩
          | refine ⟨fun h => absurd (of_decide_eq_true rfl) h, fun _ => ?_⟩
          | refine ⟨of_decide_eq_true rfl, ?_⟩
          | refine ⟨rfl, ?_⟩)
  try (conv => whnf)
  refine ⟨(xs 1, xs 2, xs 3), rfl, rfl, trivial, ?_⟩
  try dsimp only
  rintro _ _ ⟨rfl, σ1, τ1, rfl⟩
  repeat (conv => whnf
          try dsimp only
          try simp (decide := true) only [zu_same, zu_ne1, zu_ne2, zuL_same, zuL_ne1, zuL_ne2, zrow_n1, zx0, zx1, zx2, zx3, zf_0_13, zf_0_14, zf_0_15, zf_1_3, zf_15_0, zf_16_0, zf_17_10, zf_86_3, zf_90_6, zf_90_7, zf_94_7, zf_100_6, zf_100_7, zf_118_0, zf_118_1, zf_118_2, zf_118_3, zg_119_0, zg_119_5, zg_119_9, zg_119_15, zg_119_19, zg_119_22, zg_119_1, zg_119_16, zg_120_0, zg_120_1, zg_120_2, zg_120_3, zg_121_0, zg_122_0, zg_124_0, zg_126_0, zg_127_0, zg_128_0, zg_129_0, zg_131_0, zg_131_1, zg_131_2, zg_131_3, Nat.reduceAdd, Nat.reduceMul, Int32.reduceAdd, Int32.reduceSub, Int32.reduceMul]
          first
          | refine ⟨vp_inb rfl, ?_⟩
          | refine ⟨fun h => absurd h (of_decide_eq_false rfl), fun _ => ?_⟩
          | refine ⟨fun _ => ?_, fun h => absurd (of_decide_eq_true rfl) h⟩
          | refine ⟨fun _ => ?_, fun h => absurd h (of_decide_eq_false rfl)⟩
          | refine ⟨fun h => absurd (of_decide_eq_true rfl) h, fun _ => ?_⟩
          | refine ⟨of_decide_eq_true rfl, ?_⟩
          | refine ⟨rfl, ?_⟩)
  try (conv => whnf)
  refine ⟨(xs 1, xs 2, xs 3, σ1, τ1, 0), rfl, rfl, trivial, ?_⟩
  try dsimp only
  rintro _ μ2 ⟨rfl, h1, h2, h3, h4⟩
  repeat (first
    | (conv => whnf
       try dsimp only
       try simp (decide := true) only [h1, h2, h3, h4, zu_same, zu_ne1, zu_ne2, zuL_same, zuL_ne1, zuL_ne2, zrow_n1, zx0, zx1, zx2, zx3, zf_0_13, zf_0_14, zf_0_15, zf_1_3, zf_15_0, zf_16_0, zf_17_10, zf_86_3, zf_90_6, zf_90_7, zf_94_7, zf_100_6, zf_100_7, zf_118_0, zf_118_1, zf_118_2, zf_118_3, zg_119_0, zg_119_5, zg_119_9, zg_119_15, zg_119_19, zg_119_22, zg_119_1, zg_119_16, zg_120_0, zg_120_1, zg_120_2, zg_120_3, zg_121_0, zg_122_0, zg_124_0, zg_126_0, zg_127_0, zg_128_0, zg_129_0, zg_131_0, zg_131_1, zg_131_2, zg_131_3, Nat.reduceAdd, Nat.reduceMul, Int32.reduceAdd, Int32.reduceSub, Int32.reduceMul]
       first
       | refine ⟨vp_inb rfl, ?_⟩
       | refine ⟨fun h => absurd h (of_decide_eq_false rfl), fun _ => ?_⟩
       | refine ⟨fun _ => ?_, fun h => absurd (of_decide_eq_true rfl) h⟩
       | refine ⟨fun _ => ?_, fun h => absurd h (of_decide_eq_false rfl)⟩
       | refine ⟨fun h => absurd (of_decide_eq_true rfl) h, fun _ => ?_⟩
       | refine ⟨of_decide_eq_true rfl, ?_⟩
       | refine ⟨rfl, ?_⟩)
    | (conv => whnf
       fail_if_success refine Exists.intro ?_ ?_
       simp only [h1, h2, h3, h4]))
  try (conv => whnf)
  refine ⟨(μ2, ()), rfl, rfl, ⟨h1, trivial⟩, ?_⟩
  try dsimp only
  repeat (first
    | (conv => whnf
       try dsimp only
       try simp (decide := true) only [h1, h2, h3, h4, zu_same, zu_ne1, zu_ne2, zuL_same, zuL_ne1, zuL_ne2, zrow_n1, zx0, zx1, zx2, zx3, zf_0_13, zf_0_14, zf_0_15, zf_1_3, zf_15_0, zf_16_0, zf_17_10, zf_86_3, zf_90_6, zf_90_7, zf_94_7, zf_100_6, zf_100_7, zf_118_0, zf_118_1, zf_118_2, zf_118_3, zg_119_0, zg_119_5, zg_119_9, zg_119_15, zg_119_19, zg_119_22, zg_119_1, zg_119_16, zg_120_0, zg_120_1, zg_120_2, zg_120_3, zg_121_0, zg_122_0, zg_124_0, zg_126_0, zg_127_0, zg_128_0, zg_129_0, zg_131_0, zg_131_1, zg_131_2, zg_131_3, Nat.reduceAdd, Nat.reduceMul, Int32.reduceAdd, Int32.reduceSub, Int32.reduceMul]
       first
       | refine ⟨vp_inb rfl, ?_⟩
       | refine ⟨fun h => absurd h (of_decide_eq_false rfl), fun _ => ?_⟩
       | refine ⟨fun _ => ?_, fun h => absurd (of_decide_eq_true rfl) h⟩
       | refine ⟨fun _ => ?_, fun h => absurd h (of_decide_eq_false rfl)⟩
       | refine ⟨fun h => absurd (of_decide_eq_true rfl) h, fun _ => ?_⟩
       | refine ⟨of_decide_eq_true rfl, ?_⟩
       | refine ⟨rfl, ?_⟩)
    | (conv => whnf
       fail_if_success refine Exists.intro ?_ ?_
       simp only [h1, h2, h3, h4]))
  try (conv => whnf)
  refine hZ _ _ _ _ _ ?_
  refine hS 40 _ _ _ _ _ ?_
  repeat (conv => whnf
          try dsimp only
          try simp (decide := true) only [zu_same, zu_ne1, zu_ne2, zuL_same, zuL_ne1, zuL_ne2, zrow_n1, zx0, zx1, zx2, zx3, zf_0_13, zf_0_14, zf_0_15, zf_1_3, zf_15_0, zf_16_0, zf_17_10, zf_86_3, zf_90_6, zf_90_7, zf_94_7, zf_100_6, zf_100_7, zf_118_0, zf_118_1, zf_118_2, zf_118_3, zg_119_0, zg_119_5, zg_119_9, zg_119_15, zg_119_19, zg_119_22, zg_119_1, zg_119_16, zg_120_0, zg_120_1, zg_120_2, zg_120_3, zg_121_0, zg_122_0, zg_124_0, zg_126_0, zg_127_0, zg_128_0, zg_129_0, zg_131_0, zg_131_1, zg_131_2, zg_131_3, Nat.reduceAdd, Nat.reduceMul, Int32.reduceAdd, Int32.reduceSub, Int32.reduceMul]
          first
          | refine ⟨vp_inb rfl, ?_⟩
          | refine ⟨fun h => absurd h (of_decide_eq_false rfl), fun _ => ?_⟩
          | refine ⟨fun _ => ?_, fun h => absurd (of_decide_eq_true rfl) h⟩
          | refine ⟨fun _ => ?_, fun h => absurd h (of_decide_eq_false rfl)⟩
          | refine ⟨fun h => absurd (of_decide_eq_true rfl) h, fun _ => ?_⟩
          | refine ⟨of_decide_eq_true rfl, ?_⟩
          | refine ⟨rfl, ?_⟩)
  try (conv => whnf)
  first | exact rfl | exact ⟨rfl, rfl⟩
set_option maxRecDepth 100000 in
set_option maxHeartbeats 4000000 in
theorem zlc27 {p : Program} {e : Env} {s : State} {m : MethodId} {below : List Frame} {meth : Method} {c : Code} (l : Launch) (hlt : l.stackTraces = false) {b : Nat} {xs : Nat → Int32} {D : va_G} {cA : Nat → ClassId} (F9 : zLf p s m meth c b 7 xs D cA) : zLw p l e s m below meth c b D cA 1696 zl0 [] (234, 11049) (145, zSH, zRH, zs0, zt0) := by
  obtain ⟨F, hml, hNw, hX, -, -, -⟩ := id F9
  have hA : ∀ q : Nat, s.heap.size ≤ q → (fun q => s.heap.size ≤ q) q := fun _ h => h
  have hS := zlaw_step (l := l) (e := e) (below := below) F9 (zCL_law27 [(206, 1, 5, spL_slope, rmL_slope.cells, rmL_slope.slots), (209, 0, 3, spX8_slope, rmX8_slope.cells, rmX8_slope.slots), (113, 0, 0, spX8_thrown, rmX8_thrown.cells, rmX8_thrown.slots)]) (zscr xs) zpL_law27 [2219] zkL_law27 ⟨by decide +kernel, by decide +kernel, by decide +kernel, by decide +kernel⟩ rfl rfl zscr_sc zscr_sl ⟨zco_SW hX hA F hml hNw (zctW_X (ctL_slope l hlt D cA)) ⟨⟨zlL_law27_206, zwL_slope.1⟩, zwL_slope.2⟩ zdL_slope ⟨Nat.le_of_ble_eq_true rfl, Nat.le_of_ble_eq_true rfl⟩, zco_V hX hA F hml hNw (zct_X (ctX8_slope l D cA)) ⟨⟨zlL_law27_209, zwX8_slope.1.1, zwX8_slope.1.2⟩, zwX8_slope.2⟩ zdX8_slope ⟨Nat.le_of_ble_eq_true rfl, Nat.le_of_ble_eq_true rfl⟩ (ci := 8) (by decide) rfl (by rintro av μ K ⟨x, rfl, rfl, -⟩; exact ⟨_, _, rfl, rfl⟩), zco_V hX hA F hml hNw (zct_X (ctX8_thrown l D cA)) ⟨⟨zlL_law27_113, zwX8_thrown.1.1, zwX8_thrown.1.2⟩, zwX8_thrown.2⟩ zdX8_thrown ⟨Nat.le_of_ble_eq_true rfl, Nat.le_of_ble_eq_true rfl⟩ (ci := 8) (by decide) rfl (by rintro av μ K ⟨⟨μ0, x9⟩, rfl, rfl, h9, -⟩; exact ⟨_, _, rfl, congrArg Prod.fst h9.1⟩), trivial⟩
  have hZ := zLw_Z (p := p) (l := l) (e := e) (s := s) (m := m) (below := below) (meth := meth) (c := c) (b := b) (D := D) (cA := cA)
  generalize zLw p l e s m below meth c b D cA = Gl at hS hZ ⊢
  refine hS 400 _ _ _ _ _ ?_
  repeat (conv => whnf
          try dsimp only
          try simp (decide := true) only [zu_same, zu_ne1, zu_ne2, zuL_same, zuL_ne1, zuL_ne2, zrow_n1, zx0, zx1, zx2, zx3, zf_0_13, zf_0_14, zf_0_15, zf_1_3, zf_15_0, zf_16_0, zf_17_10, zf_86_3, zf_90_6, zf_90_7, zf_94_7, zf_100_6, zf_100_7, zf_118_0, zf_118_1, zf_118_2, zf_118_3, zg_119_0, zg_119_5, zg_119_9, zg_119_15, zg_119_19, zg_119_22, zg_119_1, zg_119_16, zg_120_0, zg_120_1, zg_120_2, zg_120_3, zg_121_0, zg_122_0, zg_124_0, zg_126_0, zg_127_0, zg_128_0, zg_129_0, zg_131_0, zg_131_1, zg_131_2, zg_131_3, Nat.reduceAdd, Nat.reduceMul, Int32.reduceAdd, Int32.reduceSub, Int32.reduceMul]
          first
          | refine ⟨vp_inb rfl, ?_⟩
          | refine ⟨fun h => absurd h (of_decide_eq_false rfl), fun _ => ?_⟩
          | refine ⟨fun _ => ?_, fun h => absurd (of_decide_eq_true rfl) h⟩
          | refine ⟨fun _ => ?_, fun h => absurd h (of_decide_eq_false rfl)⟩
          | refine ⟨fun h => absurd (of_decide_eq_true rfl) h, fun _ => ?_⟩
          | refine ⟨of_decide_eq_true rfl, ?_⟩
          | refine ⟨rfl, ?_⟩)
  try (conv => whnf)
  refine ⟨(xs 1, xs 2, xs 3), rfl, rfl, trivial, ?_⟩
  try dsimp only
  rintro _ _ ⟨rfl, σ1, τ1, rfl⟩
  repeat (conv => whnf
          try dsimp only
          try simp (decide := true) only [zu_same, zu_ne1, zu_ne2, zuL_same, zuL_ne1, zuL_ne2, zrow_n1, zx0, zx1, zx2, zx3, zf_0_13, zf_0_14, zf_0_15, zf_1_3, zf_15_0, zf_16_0, zf_17_10, zf_86_3, zf_90_6, zf_90_7, zf_94_7, zf_100_6, zf_100_7, zf_118_0, zf_118_1, zf_118_2, zf_118_3, zg_119_0, zg_119_5, zg_119_9, zg_119_15, zg_119_19, zg_119_22, zg_119_1, zg_119_16, zg_120_0, zg_120_1, zg_120_2, zg_120_3, zg_121_0, zg_122_0, zg_124_0, zg_126_0, zg_127_0, zg_128_0, zg_129_0, zg_131_0, zg_131_1, zg_131_2, zg_131_3, Nat.reduceAdd, Nat.reduceMul, Int32.reduceAdd, Int32.reduceSub, Int32.reduceMul]
          first
          | refine ⟨vp_inb rfl, ?_⟩
          | refine ⟨fun h => absurd h (of_decide_eq_false rfl), fun _ => ?_⟩
          | refine ⟨fun _ => ?_, fun h => absurd (of_decide_eq_true rfl) h⟩
          | refine ⟨fun _ => ?_, fun h => absurd h (of_decide_eq_false rfl)⟩
          | refine ⟨fun h => absurd (of_decide_eq_true rfl) h, fun _ => ?_⟩
          | refine ⟨of_decide_eq_true rfl, ?_⟩
          | refine ⟨rfl, ?_⟩)
  try (conv => whnf)
  refine ⟨(xs 1, xs 2, xs 3, σ1, τ1, 0), rfl, rfl, trivial, ?_⟩
  try dsimp only
  rintro _ μ2 ⟨rfl, h1, h2, h3, h4⟩
  repeat (first
    | (conv => whnf
       try dsimp only
       try simp (decide := true) only [h1, h2, h3, h4, zu_same, zu_ne1, zu_ne2, zuL_same, zuL_ne1, zuL_ne2, zrow_n1, zx0, zx1, zx2, zx3, zf_0_13, zf_0_14, zf_0_15, zf_1_3, zf_15_0, zf_16_0, zf_17_10, zf_86_3, zf_90_6, zf_90_7, zf_94_7, zf_100_6, zf_100_7, zf_118_0, zf_118_1, zf_118_2, zf_118_3, zg_119_0, zg_119_5, zg_119_9, zg_119_15, zg_119_19, zg_119_22, zg_119_1, zg_119_16, zg_120_0, zg_120_1, zg_120_2, zg_120_3, zg_121_0, zg_122_0, zg_124_0, zg_126_0, zg_127_0, zg_128_0, zg_129_0, zg_131_0, zg_131_1, zg_131_2, zg_131_3, Nat.reduceAdd, Nat.reduceMul, Int32.reduceAdd, Int32.reduceSub, Int32.reduceMul]
       first
       | refine ⟨vp_inb rfl, ?_⟩
       | refine ⟨fun h => absurd h (of_decide_eq_false rfl), fun _ => ?_⟩
       | refine ⟨fun _ => ?_, fun h => absurd (of_decide_eq_true rfl) h⟩
       | refine ⟨fun _ => ?_, fun h => absurd h (of_decide_eq_false rfl)⟩
       | refine ⟨fun h => absurd (of_decide_eq_true rfl) h, fun _ => ?_⟩
       | refine ⟨of_decide_eq_true rfl, ?_⟩
       | refine ⟨rfl, ?_⟩)
    | (conv => whnf
       fail_if_success refine Exists.intro ?_ ?_
       simp only [h1, h2, h3, h4]))
  try (conv => whnf)
  refine ⟨(μ2, ()), rfl, rfl, ⟨h1, trivial⟩, ?_⟩
  try dsimp only
  repeat (first
    | (conv => whnf
       try dsimp only
       try simp (decide := true) only [h1, h2, h3, h4, zu_same, zu_ne1, zu_ne2, zuL_same, zuL_ne1, zuL_ne2, zrow_n1, zx0, zx1, zx2, zx3, zf_0_13, zf_0_14, zf_0_15, zf_1_3, zf_15_0, zf_16_0, zf_17_10, zf_86_3, zf_90_6, zf_90_7, zf_94_7, zf_100_6, zf_100_7, zf_118_0, zf_118_1, zf_118_2, zf_118_3, zg_119_0, zg_119_5, zg_119_9, zg_119_15, zg_119_19, zg_119_22, zg_119_1, zg_119_16, zg_120_0, zg_120_1, zg_120_2, zg_120_3, zg_121_0, zg_122_0, zg_124_0, zg_126_0, zg_127_0, zg_128_0, zg_129_0, zg_131_0, zg_131_1, zg_131_2, zg_131_3, Nat.reduceAdd, Nat.reduceMul, Int32.reduceAdd, Int32.reduceSub, Int32.reduceMul]
       first
       | refine ⟨vp_inb rfl, ?_⟩
       | refine ⟨fun h => absurd h (of_decide_eq_false rfl), fun _ => ?_⟩
       | refine ⟨fun _ => ?_, fun h => absurd (of_decide_eq_true rfl) h⟩
       | refine ⟨fun _ => ?_, fun h => absurd h (of_decide_eq_false rfl)⟩
       | refine ⟨fun h => absurd (of_decide_eq_true rfl) h, fun _ => ?_⟩
       | refine ⟨of_decide_eq_true rfl, ?_⟩
       | refine ⟨rfl, ?_⟩)
    | (conv => whnf
       fail_if_success refine Exists.intro ?_ ?_
       simp only [h1, h2, h3, h4]))
  try (conv => whnf)
  refine hZ _ _ _ _ _ ?_
  refine hS 40 _ _ _ _ _ ?_
  repeat (conv => whnf
          try dsimp only
          try simp (decide := true) only [zu_same, zu_ne1, zu_ne2, zuL_same, zuL_ne1, zuL_ne2, zrow_n1, zx0, zx1, zx2, zx3, zf_0_13, zf_0_14, zf_0_15, zf_1_3, zf_15_0, zf_16_0, zf_17_10, zf_86_3, zf_90_6, zf_90_7, zf_94_7, zf_100_6, zf_100_7, zf_118_0, zf_118_1, zf_118_2, zf_118_3, zg_119_0, zg_119_5, zg_119_9, zg_119_15, zg_119_19, zg_119_22, zg_119_1, zg_119_16, zg_120_0, zg_120_1, zg_120_2, zg_120_3, zg_121_0, zg_122_0, zg_124_0, zg_126_0, zg_127_0, zg_128_0, zg_129_0, zg_131_0, zg_131_1, zg_131_2, zg_131_3, Nat.reduceAdd, Nat.reduceMul, Int32.reduceAdd, Int32.reduceSub, Int32.reduceMul]
          first
          | refine ⟨vp_inb rfl, ?_⟩
          | refine ⟨fun h => absurd h (of_decide_eq_false rfl), fun _ => ?_⟩
          | refine ⟨fun _ => ?_, fun h => absurd (of_decide_eq_true rfl) h⟩
          | refine ⟨fun _ => ?_, fun h => absurd h (of_decide_eq_false rfl)⟩
          | refine ⟨fun h => absurd (of_decide_eq_true rfl) h, fun _ => ?_⟩
          | refine ⟨of_decide_eq_true rfl, ?_⟩
          | refine ⟨rfl, ?_⟩)
  try (conv => whnf)
  first | exact rfl | exact ⟨rfl, rfl⟩
set_option maxRecDepth 100000 in
set_option maxHeartbeats 4000000 in
theorem zlc28 {p : Program} {e : Env} {s : State} {m : MethodId} {below : List Frame} {meth : Method} {c : Code} (l : Launch) (hlt : l.stackTraces = false) {b : Nat} {xs : Nat → Int32} {D : va_G} {cA : Nat → ClassId} (F9 : zLf p s m meth c b 7 xs D cA) : zLw p l e s m below meth c b D cA 1797 zl0 [] (234, 11049) (145, zSH, zRH, zs0, zt0) := by
  obtain ⟨F, hml, hNw, hX, -, -, -⟩ := id F9
  have hA : ∀ q : Nat, s.heap.size ≤ q → (fun q => s.heap.size ≤ q) q := fun _ h => h
  have hS := zlaw_step (l := l) (e := e) (below := below) F9 (zCL_law28 [(210, 1, 3, spL_movedBy, rmL_movedBy.cells, rmL_movedBy.slots), (212, 0, 1, spX8_movedBy, rmX8_movedBy.cells, rmX8_movedBy.slots), (113, 0, 0, spX8_thrown, rmX8_thrown.cells, rmX8_thrown.slots)]) (zscr xs) zpL_law28 [2219] zkL_law28 ⟨by decide +kernel, by decide +kernel, by decide +kernel, by decide +kernel⟩ rfl rfl zscr_sc zscr_sl ⟨zco_SW hX hA F hml hNw (zctW_X (ctL_movedBy l hlt D cA)) ⟨⟨zlL_law28_210, zwL_movedBy.1⟩, zwL_movedBy.2⟩ zdL_movedBy ⟨Nat.le_of_ble_eq_true rfl, Nat.le_of_ble_eq_true rfl⟩, zco_V hX hA F hml hNw (zct_X (ctX8_movedBy l D cA)) ⟨⟨zlL_law28_212, zwX8_movedBy.1.1, zwX8_movedBy.1.2⟩, zwX8_movedBy.2⟩ zdX8_movedBy ⟨Nat.le_of_ble_eq_true rfl, Nat.le_of_ble_eq_true rfl⟩ (ci := 8) (by decide) rfl (by rintro av μ K ⟨x, rfl, rfl, -⟩; exact ⟨_, _, rfl, rfl⟩), zco_V hX hA F hml hNw (zct_X (ctX8_thrown l D cA)) ⟨⟨zlL_law28_113, zwX8_thrown.1.1, zwX8_thrown.1.2⟩, zwX8_thrown.2⟩ zdX8_thrown ⟨Nat.le_of_ble_eq_true rfl, Nat.le_of_ble_eq_true rfl⟩ (ci := 8) (by decide) rfl (by rintro av μ K ⟨⟨μ0, x9⟩, rfl, rfl, h9, -⟩; exact ⟨_, _, rfl, congrArg Prod.fst h9.1⟩), trivial⟩
  have hZ := zLw_Z (p := p) (l := l) (e := e) (s := s) (m := m) (below := below) (meth := meth) (c := c) (b := b) (D := D) (cA := cA)
  generalize zLw p l e s m below meth c b D cA = Gl at hS hZ ⊢
  refine hS 400 _ _ _ _ _ ?_
  repeat (conv => whnf
          try dsimp only
          try simp (decide := true) only [zu_same, zu_ne1, zu_ne2, zuL_same, zuL_ne1, zuL_ne2, zrow_n1, zx0, zx1, zx2, zx3, zf_0_13, zf_0_14, zf_0_15, zf_1_3, zf_15_0, zf_16_0, zf_17_10, zf_86_3, zf_90_6, zf_90_7, zf_94_7, zf_100_6, zf_100_7, zf_118_0, zf_118_1, zf_118_2, zf_118_3, zg_119_0, zg_119_5, zg_119_9, zg_119_15, zg_119_19, zg_119_22, zg_119_1, zg_119_16, zg_120_0, zg_120_1, zg_120_2, zg_120_3, zg_121_0, zg_122_0, zg_124_0, zg_126_0, zg_127_0, zg_128_0, zg_129_0, zg_131_0, zg_131_1, zg_131_2, zg_131_3, Nat.reduceAdd, Nat.reduceMul, Int32.reduceAdd, Int32.reduceSub, Int32.reduceMul]
          first
          | refine ⟨vp_inb rfl, ?_⟩
          | refine ⟨fun h => absurd h (of_decide_eq_false rfl), fun _ => ?_⟩
          | refine ⟨fun _ => ?_, fun h => absurd (of_decide_eq_true rfl) h⟩
          | refine ⟨fun _ => ?_, fun h => absurd h (of_decide_eq_false rfl)⟩
          | refine ⟨fun h => absurd (of_decide_eq_true rfl) h, fun _ => ?_⟩
          | refine ⟨of_decide_eq_true rfl, ?_⟩
          | refine ⟨rfl, ?_⟩)
  try (conv => whnf)
  refine ⟨xs 1, rfl, rfl, trivial, ?_⟩
  try dsimp only
  rintro _ _ ⟨rfl, σ1, τ1, rfl⟩
  repeat (conv => whnf
          try dsimp only
          try simp (decide := true) only [zu_same, zu_ne1, zu_ne2, zuL_same, zuL_ne1, zuL_ne2, zrow_n1, zx0, zx1, zx2, zx3, zf_0_13, zf_0_14, zf_0_15, zf_1_3, zf_15_0, zf_16_0, zf_17_10, zf_86_3, zf_90_6, zf_90_7, zf_94_7, zf_100_6, zf_100_7, zf_118_0, zf_118_1, zf_118_2, zf_118_3, zg_119_0, zg_119_5, zg_119_9, zg_119_15, zg_119_19, zg_119_22, zg_119_1, zg_119_16, zg_120_0, zg_120_1, zg_120_2, zg_120_3, zg_121_0, zg_122_0, zg_124_0, zg_126_0, zg_127_0, zg_128_0, zg_129_0, zg_131_0, zg_131_1, zg_131_2, zg_131_3, Nat.reduceAdd, Nat.reduceMul, Int32.reduceAdd, Int32.reduceSub, Int32.reduceMul]
          first
          | refine ⟨vp_inb rfl, ?_⟩
          | refine ⟨fun h => absurd h (of_decide_eq_false rfl), fun _ => ?_⟩
          | refine ⟨fun _ => ?_, fun h => absurd (of_decide_eq_true rfl) h⟩
          | refine ⟨fun _ => ?_, fun h => absurd h (of_decide_eq_false rfl)⟩
          | refine ⟨fun h => absurd (of_decide_eq_true rfl) h, fun _ => ?_⟩
          | refine ⟨of_decide_eq_true rfl, ?_⟩
          | refine ⟨rfl, ?_⟩)
  try (conv => whnf)
  refine ⟨(xs 1, σ1, τ1, 0), rfl, rfl, trivial, ?_⟩
  try dsimp only
  rintro _ μ2 ⟨rfl, h1, h2, h3, h4⟩
  repeat (first
    | (conv => whnf
       try dsimp only
       try simp (decide := true) only [h1, h2, h3, h4, zu_same, zu_ne1, zu_ne2, zuL_same, zuL_ne1, zuL_ne2, zrow_n1, zx0, zx1, zx2, zx3, zf_0_13, zf_0_14, zf_0_15, zf_1_3, zf_15_0, zf_16_0, zf_17_10, zf_86_3, zf_90_6, zf_90_7, zf_94_7, zf_100_6, zf_100_7, zf_118_0, zf_118_1, zf_118_2, zf_118_3, zg_119_0, zg_119_5, zg_119_9, zg_119_15, zg_119_19, zg_119_22, zg_119_1, zg_119_16, zg_120_0, zg_120_1, zg_120_2, zg_120_3, zg_121_0, zg_122_0, zg_124_0, zg_126_0, zg_127_0, zg_128_0, zg_129_0, zg_131_0, zg_131_1, zg_131_2, zg_131_3, Nat.reduceAdd, Nat.reduceMul, Int32.reduceAdd, Int32.reduceSub, Int32.reduceMul]
       first
       | refine ⟨vp_inb rfl, ?_⟩
       | refine ⟨fun h => absurd h (of_decide_eq_false rfl), fun _ => ?_⟩
       | refine ⟨fun _ => ?_, fun h => absurd (of_decide_eq_true rfl) h⟩
       | refine ⟨fun _ => ?_, fun h => absurd h (of_decide_eq_false rfl)⟩
       | refine ⟨fun h => absurd (of_decide_eq_true rfl) h, fun _ => ?_⟩
       | refine ⟨of_decide_eq_true rfl, ?_⟩
       | refine ⟨rfl, ?_⟩)
    | (conv => whnf
       fail_if_success refine Exists.intro ?_ ?_
       simp only [h1, h2, h3, h4]))
  try (conv => whnf)
  refine ⟨(μ2, ()), rfl, rfl, ⟨h1, trivial⟩, ?_⟩
  try dsimp only
  repeat (first
    | (conv => whnf
       try dsimp only
       try simp (decide := true) only [h1, h2, h3, h4, zu_same, zu_ne1, zu_ne2, zuL_same, zuL_ne1, zuL_ne2, zrow_n1, zx0, zx1, zx2, zx3, zf_0_13, zf_0_14, zf_0_15, zf_1_3, zf_15_0, zf_16_0, zf_17_10, zf_86_3, zf_90_6, zf_90_7, zf_94_7, zf_100_6, zf_100_7, zf_118_0, zf_118_1, zf_118_2, zf_118_3, zg_119_0, zg_119_5, zg_119_9, zg_119_15, zg_119_19, zg_119_22, zg_119_1, zg_119_16, zg_120_0, zg_120_1, zg_120_2, zg_120_3, zg_121_0, zg_122_0, zg_124_0, zg_126_0, zg_127_0, zg_128_0, zg_129_0, zg_131_0, zg_131_1, zg_131_2, zg_131_3, Nat.reduceAdd, Nat.reduceMul, Int32.reduceAdd, Int32.reduceSub, Int32.reduceMul]
       first
       | refine ⟨vp_inb rfl, ?_⟩
       | refine ⟨fun h => absurd h (of_decide_eq_false rfl), fun _ => ?_⟩
       | refine ⟨fun _ => ?_, fun h => absurd (of_decide_eq_true rfl) h⟩
       | refine ⟨fun _ => ?_, fun h => absurd h (of_decide_eq_false rfl)⟩
       | refine ⟨fun h => absurd (of_decide_eq_true rfl) h, fun _ => ?_⟩
       | refine ⟨of_decide_eq_true rfl, ?_⟩
       | refine ⟨rfl, ?_⟩)
    | (conv => whnf
       fail_if_success refine Exists.intro ?_ ?_
       simp only [h1, h2, h3, h4]))
  try (conv => whnf)
  refine hZ _ _ _ _ _ ?_
  refine hS 40 _ _ _ _ _ ?_
  repeat (conv => whnf
          try dsimp only
          try simp (decide := true) only [zu_same, zu_ne1, zu_ne2, zuL_same, zuL_ne1, zuL_ne2, zrow_n1, zx0, zx1, zx2, zx3, zf_0_13, zf_0_14, zf_0_15, zf_1_3, zf_15_0, zf_16_0, zf_17_10, zf_86_3, zf_90_6, zf_90_7, zf_94_7, zf_100_6, zf_100_7, zf_118_0, zf_118_1, zf_118_2, zf_118_3, zg_119_0, zg_119_5, zg_119_9, zg_119_15, zg_119_19, zg_119_22, zg_119_1, zg_119_16, zg_120_0, zg_120_1, zg_120_2, zg_120_3, zg_121_0, zg_122_0, zg_124_0, zg_126_0, zg_127_0, zg_128_0, zg_129_0, zg_131_0, zg_131_1, zg_131_2, zg_131_3, Nat.reduceAdd, Nat.reduceMul, Int32.reduceAdd, Int32.reduceSub, Int32.reduceMul]
          first
          | refine ⟨vp_inb rfl, ?_⟩
          | refine ⟨fun h => absurd h (of_decide_eq_false rfl), fun _ => ?_⟩
          | refine ⟨fun _ => ?_, fun h => absurd (of_decide_eq_true rfl) h⟩
          | refine ⟨fun _ => ?_, fun h => absurd h (of_decide_eq_false rfl)⟩
          | refine ⟨fun h => absurd (of_decide_eq_true rfl) h, fun _ => ?_⟩
          | refine ⟨of_decide_eq_true rfl, ?_⟩
          | refine ⟨rfl, ?_⟩)
  try (conv => whnf)
  first | exact rfl | exact ⟨rfl, rfl⟩
set_option maxRecDepth 100000 in
set_option maxHeartbeats 4000000 in
theorem zlc29 {p : Program} {e : Env} {s : State} {m : MethodId} {below : List Frame} {meth : Method} {c : Code} (l : Launch) (hlt : l.stackTraces = false) {b : Nat} {xs : Nat → Int32} {D : va_G} {cA : Nat → ClassId} (F9 : zLf p s m meth c b 7 xs D cA) : zLw p l e s m below meth c b D cA 1853 zl0 [] (234, 11049) (145, zSH, zRH, zs0, zt0) := by
  obtain ⟨F, hml, hNw, hX, -, -, -⟩ := id F9
  have hA : ∀ q : Nat, s.heap.size ≤ q → (fun q => s.heap.size ≤ q) q := fun _ h => h
  have hS := zlaw_step (l := l) (e := e) (below := below) F9 (zCL_law29 [(213, 1, 7, spL_best, rmL_best.cells, rmL_best.slots), (215, 0, 5, spX8_best, rmX8_best.cells, rmX8_best.slots), (113, 0, 0, spX8_thrown, rmX8_thrown.cells, rmX8_thrown.slots)]) (zscr xs) zpL_law29 [2219] zkL_law29 ⟨by decide +kernel, by decide +kernel, by decide +kernel, by decide +kernel⟩ rfl rfl zscr_sc zscr_sl ⟨zco_SW hX hA F hml hNw (zctW_X (ctL_best l hlt D cA)) ⟨⟨zlL_law29_213, zwL_best.1⟩, zwL_best.2⟩ zdL_best ⟨Nat.le_of_ble_eq_true rfl, Nat.le_of_ble_eq_true rfl⟩, zco_V hX hA F hml hNw (zct_X (ctX8_best l D cA)) ⟨⟨zlL_law29_215, zwX8_best.1.1, zwX8_best.1.2⟩, zwX8_best.2⟩ zdX8_best ⟨Nat.le_of_ble_eq_true rfl, Nat.le_of_ble_eq_true rfl⟩ (ci := 8) (by decide) rfl (by rintro av μ K ⟨x, rfl, rfl, -⟩; exact ⟨_, _, rfl, rfl⟩), zco_V hX hA F hml hNw (zct_X (ctX8_thrown l D cA)) ⟨⟨zlL_law29_113, zwX8_thrown.1.1, zwX8_thrown.1.2⟩, zwX8_thrown.2⟩ zdX8_thrown ⟨Nat.le_of_ble_eq_true rfl, Nat.le_of_ble_eq_true rfl⟩ (ci := 8) (by decide) rfl (by rintro av μ K ⟨⟨μ0, x9⟩, rfl, rfl, h9, -⟩; exact ⟨_, _, rfl, congrArg Prod.fst h9.1⟩), trivial⟩
  have hZ := zLw_Z (p := p) (l := l) (e := e) (s := s) (m := m) (below := below) (meth := meth) (c := c) (b := b) (D := D) (cA := cA)
  generalize zLw p l e s m below meth c b D cA = Gl at hS hZ ⊢
  refine hS 400 _ _ _ _ _ ?_
  repeat (conv => whnf
          try dsimp only
          try simp (decide := true) only [zu_same, zu_ne1, zu_ne2, zuL_same, zuL_ne1, zuL_ne2, zrow_n1, zx0, zx1, zx2, zx3, zf_0_13, zf_0_14, zf_0_15, zf_1_3, zf_15_0, zf_16_0, zf_17_10, zf_86_3, zf_90_6, zf_90_7, zf_94_7, zf_100_6, zf_100_7, zf_118_0, zf_118_1, zf_118_2, zf_118_3, zg_119_0, zg_119_5, zg_119_9, zg_119_15, zg_119_19, zg_119_22, zg_119_1, zg_119_16, zg_120_0, zg_120_1, zg_120_2, zg_120_3, zg_121_0, zg_122_0, zg_124_0, zg_126_0, zg_127_0, zg_128_0, zg_129_0, zg_131_0, zg_131_1, zg_131_2, zg_131_3, Nat.reduceAdd, Nat.reduceMul, Int32.reduceAdd, Int32.reduceSub, Int32.reduceMul]
          first
          | refine ⟨vp_inb rfl, ?_⟩
          | refine ⟨fun h => absurd h (of_decide_eq_false rfl), fun _ => ?_⟩
          | refine ⟨fun _ => ?_, fun h => absurd (of_decide_eq_true rfl) h⟩
          | refine ⟨fun _ => ?_, fun h => absurd h (of_decide_eq_false rfl)⟩
          | refine ⟨fun h => absurd (of_decide_eq_true rfl) h, fun _ => ?_⟩
          | refine ⟨of_decide_eq_true rfl, ?_⟩
          | refine ⟨rfl, ?_⟩)
  try (conv => whnf)
  refine ⟨(xs 1, xs 2, xs 3, xs 4, xs 5), rfl, rfl, trivial, ?_⟩
  try dsimp only
  rintro _ _ ⟨rfl, σ1, τ1, rfl⟩
  repeat (conv => whnf
          try dsimp only
          try simp (decide := true) only [zu_same, zu_ne1, zu_ne2, zuL_same, zuL_ne1, zuL_ne2, zrow_n1, zx0, zx1, zx2, zx3, zf_0_13, zf_0_14, zf_0_15, zf_1_3, zf_15_0, zf_16_0, zf_17_10, zf_86_3, zf_90_6, zf_90_7, zf_94_7, zf_100_6, zf_100_7, zf_118_0, zf_118_1, zf_118_2, zf_118_3, zg_119_0, zg_119_5, zg_119_9, zg_119_15, zg_119_19, zg_119_22, zg_119_1, zg_119_16, zg_120_0, zg_120_1, zg_120_2, zg_120_3, zg_121_0, zg_122_0, zg_124_0, zg_126_0, zg_127_0, zg_128_0, zg_129_0, zg_131_0, zg_131_1, zg_131_2, zg_131_3, Nat.reduceAdd, Nat.reduceMul, Int32.reduceAdd, Int32.reduceSub, Int32.reduceMul]
          first
          | refine ⟨vp_inb rfl, ?_⟩
          | refine ⟨fun h => absurd h (of_decide_eq_false rfl), fun _ => ?_⟩
          | refine ⟨fun _ => ?_, fun h => absurd (of_decide_eq_true rfl) h⟩
          | refine ⟨fun _ => ?_, fun h => absurd h (of_decide_eq_false rfl)⟩
          | refine ⟨fun h => absurd (of_decide_eq_true rfl) h, fun _ => ?_⟩
          | refine ⟨of_decide_eq_true rfl, ?_⟩
          | refine ⟨rfl, ?_⟩)
  try (conv => whnf)
  refine ⟨(xs 1, xs 2, xs 3, xs 4, xs 5, σ1, τ1, 0), rfl, rfl, trivial, ?_⟩
  try dsimp only
  rintro _ μ2 ⟨rfl, h1, h2, h3, h4⟩
  repeat (first
    | (conv => whnf
       try dsimp only
       try simp (decide := true) only [h1, h2, h3, h4, zu_same, zu_ne1, zu_ne2, zuL_same, zuL_ne1, zuL_ne2, zrow_n1, zx0, zx1, zx2, zx3, zf_0_13, zf_0_14, zf_0_15, zf_1_3, zf_15_0, zf_16_0, zf_17_10, zf_86_3, zf_90_6, zf_90_7, zf_94_7, zf_100_6, zf_100_7, zf_118_0, zf_118_1, zf_118_2, zf_118_3, zg_119_0, zg_119_5, zg_119_9, zg_119_15, zg_119_19, zg_119_22, zg_119_1, zg_119_16, zg_120_0, zg_120_1, zg_120_2, zg_120_3, zg_121_0, zg_122_0, zg_124_0, zg_126_0, zg_127_0, zg_128_0, zg_129_0, zg_131_0, zg_131_1, zg_131_2, zg_131_3, Nat.reduceAdd, Nat.reduceMul, Int32.reduceAdd, Int32.reduceSub, Int32.reduceMul]
       first
       | refine ⟨vp_inb rfl, ?_⟩
       | refine ⟨fun h => absurd h (of_decide_eq_false rfl), fun _ => ?_⟩
       | refine ⟨fun _ => ?_, fun h => absurd (of_decide_eq_true rfl) h⟩
       | refine ⟨fun _ => ?_, fun h => absurd h (of_decide_eq_false rfl)⟩
       | refine ⟨fun h => absurd (of_decide_eq_true rfl) h, fun _ => ?_⟩
       | refine ⟨of_decide_eq_true rfl, ?_⟩
       | refine ⟨rfl, ?_⟩)
    | (conv => whnf
       fail_if_success refine Exists.intro ?_ ?_
       simp only [h1, h2, h3, h4]))
  try (conv => whnf)
  refine ⟨(μ2, ()), rfl, rfl, ⟨h1, trivial⟩, ?_⟩
  try dsimp only
  repeat (first
    | (conv => whnf
       try dsimp only
       try simp (decide := true) only [h1, h2, h3, h4, zu_same, zu_ne1, zu_ne2, zuL_same, zuL_ne1, zuL_ne2, zrow_n1, zx0, zx1, zx2, zx3, zf_0_13, zf_0_14, zf_0_15, zf_1_3, zf_15_0, zf_16_0, zf_17_10, zf_86_3, zf_90_6, zf_90_7, zf_94_7, zf_100_6, zf_100_7, zf_118_0, zf_118_1, zf_118_2, zf_118_3, zg_119_0, zg_119_5, zg_119_9, zg_119_15, zg_119_19, zg_119_22, zg_119_1, zg_119_16, zg_120_0, zg_120_1, zg_120_2, zg_120_3, zg_121_0, zg_122_0, zg_124_0, zg_126_0, zg_127_0, zg_128_0, zg_129_0, zg_131_0, zg_131_1, zg_131_2, zg_131_3, Nat.reduceAdd, Nat.reduceMul, Int32.reduceAdd, Int32.reduceSub, Int32.reduceMul]
       first
       | refine ⟨vp_inb rfl, ?_⟩
       | refine ⟨fun h => absurd h (of_decide_eq_false rfl), fun _ => ?_⟩
       | refine ⟨fun _ => ?_, fun h => absurd (of_decide_eq_true rfl) h⟩
       | refine ⟨fun _ => ?_, fun h => absurd h (of_decide_eq_false rfl)⟩
       | refine ⟨fun h => absurd (of_decide_eq_true rfl) h, fun _ => ?_⟩
       | refine ⟨of_decide_eq_true rfl, ?_⟩
       | refine ⟨rfl, ?_⟩)
    | (conv => whnf
       fail_if_success refine Exists.intro ?_ ?_
       simp only [h1, h2, h3, h4]))
  try (conv => whnf)
  refine hZ _ _ _ _ _ ?_
  refine hS 40 _ _ _ _ _ ?_
  repeat (conv => whnf
          try dsimp only
          try simp (decide := true) only [zu_same, zu_ne1, zu_ne2, zuL_same, zuL_ne1, zuL_ne2, zrow_n1, zx0, zx1, zx2, zx3, zf_0_13, zf_0_14, zf_0_15, zf_1_3, zf_15_0, zf_16_0, zf_17_10, zf_86_3, zf_90_6, zf_90_7, zf_94_7, zf_100_6, zf_100_7, zf_118_0, zf_118_1, zf_118_2, zf_118_3, zg_119_0, zg_119_5, zg_119_9, zg_119_15, zg_119_19, zg_119_22, zg_119_1, zg_119_16, zg_120_0, zg_120_1, zg_120_2, zg_120_3, zg_121_0, zg_122_0, zg_124_0, zg_126_0, zg_127_0, zg_128_0, zg_129_0, zg_131_0, zg_131_1, zg_131_2, zg_131_3, Nat.reduceAdd, Nat.reduceMul, Int32.reduceAdd, Int32.reduceSub, Int32.reduceMul]
          first
          | refine ⟨vp_inb rfl, ?_⟩
          | refine ⟨fun h => absurd h (of_decide_eq_false rfl), fun _ => ?_⟩
          | refine ⟨fun _ => ?_, fun h => absurd (of_decide_eq_true rfl) h⟩
          | refine ⟨fun _ => ?_, fun h => absurd h (of_decide_eq_false rfl)⟩
          | refine ⟨fun h => absurd (of_decide_eq_true rfl) h, fun _ => ?_⟩
          | refine ⟨of_decide_eq_true rfl, ?_⟩
          | refine ⟨rfl, ?_⟩)
  try (conv => whnf)
  first | exact rfl | exact ⟨rfl, rfl⟩
set_option maxRecDepth 100000 in
set_option maxHeartbeats 4000000 in
theorem zlc30 {p : Program} {e : Env} {s : State} {m : MethodId} {below : List Frame} {meth : Method} {c : Code} (l : Launch) (hlt : l.stackTraces = false) {b : Nat} {xs : Nat → Int32} {D : va_G} {cA : Nat → ClassId} (F9 : zLf p s m meth c b 7 xs D cA) : zLw p l e s m below meth c b D cA 1957 zl0 [] (234, 11049) (145, zSH, zRH, zs0, zt0) := by
  obtain ⟨F, hml, hNw, hX, -, -, -⟩ := id F9
  have hA : ∀ q : Nat, s.heap.size ≤ q → (fun q => s.heap.size ≤ q) q := fun _ h => h
  have hS := zlaw_step (l := l) (e := e) (below := below) F9 (zCL_law30 [(216, 1, 4, spL_faultsWith, rmL_faultsWith.cells, rmL_faultsWith.slots), (218, 0, 2, spX8_faultsWith, rmX8_faultsWith.cells, rmX8_faultsWith.slots), (113, 0, 0, spX8_thrown, rmX8_thrown.cells, rmX8_thrown.slots)]) (zscr xs) zpL_law30 [2219] zkL_law30 ⟨by decide +kernel, by decide +kernel, by decide +kernel, by decide +kernel⟩ rfl rfl zscr_sc zscr_sl ⟨zco_SW hX hA F hml hNw (zctW_X (ctL_faultsWith l hlt D cA)) ⟨⟨zlL_law30_216, zwL_faultsWith.1⟩, zwL_faultsWith.2⟩ zdL_faultsWith ⟨Nat.le_of_ble_eq_true rfl, Nat.le_of_ble_eq_true rfl⟩, zco_V hX hA F hml hNw (zct_X (ctX8_faultsWith l D cA)) ⟨⟨zlL_law30_218, zwX8_faultsWith.1.1, zwX8_faultsWith.1.2⟩, zwX8_faultsWith.2⟩ zdX8_faultsWith ⟨Nat.le_of_ble_eq_true rfl, Nat.le_of_ble_eq_true rfl⟩ (ci := 8) (by decide) rfl (by rintro av μ K ⟨x, rfl, rfl, -⟩; exact ⟨_, _, rfl, rfl⟩), zco_V hX hA F hml hNw (zct_X (ctX8_thrown l D cA)) ⟨⟨zlL_law30_113, zwX8_thrown.1.1, zwX8_thrown.1.2⟩, zwX8_thrown.2⟩ zdX8_thrown ⟨Nat.le_of_ble_eq_true rfl, Nat.le_of_ble_eq_true rfl⟩ (ci := 8) (by decide) rfl (by rintro av μ K ⟨⟨μ0, x9⟩, rfl, rfl, h9, -⟩; exact ⟨_, _, rfl, congrArg Prod.fst h9.1⟩), trivial⟩
  have hZ := zLw_Z (p := p) (l := l) (e := e) (s := s) (m := m) (below := below) (meth := meth) (c := c) (b := b) (D := D) (cA := cA)
  generalize zLw p l e s m below meth c b D cA = Gl at hS hZ ⊢
  refine hS 400 _ _ _ _ _ ?_
  repeat (conv => whnf
          try dsimp only
          try simp (decide := true) only [zu_same, zu_ne1, zu_ne2, zuL_same, zuL_ne1, zuL_ne2, zrow_n1, zx0, zx1, zx2, zx3, zf_0_13, zf_0_14, zf_0_15, zf_1_3, zf_15_0, zf_16_0, zf_17_10, zf_86_3, zf_90_6, zf_90_7, zf_94_7, zf_100_6, zf_100_7, zf_118_0, zf_118_1, zf_118_2, zf_118_3, zg_119_0, zg_119_5, zg_119_9, zg_119_15, zg_119_19, zg_119_22, zg_119_1, zg_119_16, zg_120_0, zg_120_1, zg_120_2, zg_120_3, zg_121_0, zg_122_0, zg_124_0, zg_126_0, zg_127_0, zg_128_0, zg_129_0, zg_131_0, zg_131_1, zg_131_2, zg_131_3, Nat.reduceAdd, Nat.reduceMul, Int32.reduceAdd, Int32.reduceSub, Int32.reduceMul]
          first
          | refine ⟨vp_inb rfl, ?_⟩
          | refine ⟨fun h => absurd h (of_decide_eq_false rfl), fun _ => ?_⟩
          | refine ⟨fun _ => ?_, fun h => absurd (of_decide_eq_true rfl) h⟩
          | refine ⟨fun _ => ?_, fun h => absurd h (of_decide_eq_false rfl)⟩
          | refine ⟨fun h => absurd (of_decide_eq_true rfl) h, fun _ => ?_⟩
          | refine ⟨of_decide_eq_true rfl, ?_⟩
          | refine ⟨rfl, ?_⟩)
  try (conv => whnf)
  refine ⟨(xs 1, xs 2), rfl, rfl, trivial, ?_⟩
  try dsimp only
  rintro _ _ ⟨rfl, σ1, τ1, rfl⟩
  repeat (conv => whnf
          try dsimp only
          try simp (decide := true) only [zu_same, zu_ne1, zu_ne2, zuL_same, zuL_ne1, zuL_ne2, zrow_n1, zx0, zx1, zx2, zx3, zf_0_13, zf_0_14, zf_0_15, zf_1_3, zf_15_0, zf_16_0, zf_17_10, zf_86_3, zf_90_6, zf_90_7, zf_94_7, zf_100_6, zf_100_7, zf_118_0, zf_118_1, zf_118_2, zf_118_3, zg_119_0, zg_119_5, zg_119_9, zg_119_15, zg_119_19, zg_119_22, zg_119_1, zg_119_16, zg_120_0, zg_120_1, zg_120_2, zg_120_3, zg_121_0, zg_122_0, zg_124_0, zg_126_0, zg_127_0, zg_128_0, zg_129_0, zg_131_0, zg_131_1, zg_131_2, zg_131_3, Nat.reduceAdd, Nat.reduceMul, Int32.reduceAdd, Int32.reduceSub, Int32.reduceMul]
          first
          | refine ⟨vp_inb rfl, ?_⟩
          | refine ⟨fun h => absurd h (of_decide_eq_false rfl), fun _ => ?_⟩
          | refine ⟨fun _ => ?_, fun h => absurd (of_decide_eq_true rfl) h⟩
          | refine ⟨fun _ => ?_, fun h => absurd h (of_decide_eq_false rfl)⟩
          | refine ⟨fun h => absurd (of_decide_eq_true rfl) h, fun _ => ?_⟩
          | refine ⟨of_decide_eq_true rfl, ?_⟩
          | refine ⟨rfl, ?_⟩)
  try (conv => whnf)
  refine ⟨(xs 1, xs 2, σ1, τ1, 0), rfl, rfl, trivial, ?_⟩
  try dsimp only
  rintro _ μ2 ⟨rfl, h1, h2, h3, h4⟩
  repeat (first
    | (conv => whnf
       try dsimp only
       try simp (decide := true) only [h1, h2, h3, h4, zu_same, zu_ne1, zu_ne2, zuL_same, zuL_ne1, zuL_ne2, zrow_n1, zx0, zx1, zx2, zx3, zf_0_13, zf_0_14, zf_0_15, zf_1_3, zf_15_0, zf_16_0, zf_17_10, zf_86_3, zf_90_6, zf_90_7, zf_94_7, zf_100_6, zf_100_7, zf_118_0, zf_118_1, zf_118_2, zf_118_3, zg_119_0, zg_119_5, zg_119_9, zg_119_15, zg_119_19, zg_119_22, zg_119_1, zg_119_16, zg_120_0, zg_120_1, zg_120_2, zg_120_3, zg_121_0, zg_122_0, zg_124_0, zg_126_0, zg_127_0, zg_128_0, zg_129_0, zg_131_0, zg_131_1, zg_131_2, zg_131_3, Nat.reduceAdd, Nat.reduceMul, Int32.reduceAdd, Int32.reduceSub, Int32.reduceMul]
       first
       | refine ⟨vp_inb rfl, ?_⟩
       | refine ⟨fun h => absurd h (of_decide_eq_false rfl), fun _ => ?_⟩
       | refine ⟨fun _ => ?_, fun h => absurd (of_decide_eq_true rfl) h⟩
       | refine ⟨fun _ => ?_, fun h => absurd h (of_decide_eq_false rfl)⟩
       | refine ⟨fun h => absurd (of_decide_eq_true rfl) h, fun _ => ?_⟩
       | refine ⟨of_decide_eq_true rfl, ?_⟩
       | refine ⟨rfl, ?_⟩)
    | (conv => whnf
       fail_if_success refine Exists.intro ?_ ?_
       simp only [h1, h2, h3, h4]))
  try (conv => whnf)
  refine ⟨(μ2, ()), rfl, rfl, ⟨h1, trivial⟩, ?_⟩
  try dsimp only
  repeat (first
    | (conv => whnf
       try dsimp only
       try simp (decide := true) only [h1, h2, h3, h4, zu_same, zu_ne1, zu_ne2, zuL_same, zuL_ne1, zuL_ne2, zrow_n1, zx0, zx1, zx2, zx3, zf_0_13, zf_0_14, zf_0_15, zf_1_3, zf_15_0, zf_16_0, zf_17_10, zf_86_3, zf_90_6, zf_90_7, zf_94_7, zf_100_6, zf_100_7, zf_118_0, zf_118_1, zf_118_2, zf_118_3, zg_119_0, zg_119_5, zg_119_9, zg_119_15, zg_119_19, zg_119_22, zg_119_1, zg_119_16, zg_120_0, zg_120_1, zg_120_2, zg_120_3, zg_121_0, zg_122_0, zg_124_0, zg_126_0, zg_127_0, zg_128_0, zg_129_0, zg_131_0, zg_131_1, zg_131_2, zg_131_3, Nat.reduceAdd, Nat.reduceMul, Int32.reduceAdd, Int32.reduceSub, Int32.reduceMul]
       first
       | refine ⟨vp_inb rfl, ?_⟩
       | refine ⟨fun h => absurd h (of_decide_eq_false rfl), fun _ => ?_⟩
       | refine ⟨fun _ => ?_, fun h => absurd (of_decide_eq_true rfl) h⟩
       | refine ⟨fun _ => ?_, fun h => absurd h (of_decide_eq_false rfl)⟩
       | refine ⟨fun h => absurd (of_decide_eq_true rfl) h, fun _ => ?_⟩
       | refine ⟨of_decide_eq_true rfl, ?_⟩
       | refine ⟨rfl, ?_⟩)
    | (conv => whnf
       fail_if_success refine Exists.intro ?_ ?_
       simp only [h1, h2, h3, h4]))
  try (conv => whnf)
  refine hZ _ _ _ _ _ ?_
  refine hS 40 _ _ _ _ _ ?_
  repeat (conv => whnf
          try dsimp only
          try simp (decide := true) only [zu_same, zu_ne1, zu_ne2, zuL_same, zuL_ne1, zuL_ne2, zrow_n1, zx0, zx1, zx2, zx3, zf_0_13, zf_0_14, zf_0_15, zf_1_3, zf_15_0, zf_16_0, zf_17_10, zf_86_3, zf_90_6, zf_90_7, zf_94_7, zf_100_6, zf_100_7, zf_118_0, zf_118_1, zf_118_2, zf_118_3, zg_119_0, zg_119_5, zg_119_9, zg_119_15, zg_119_19, zg_119_22, zg_119_1, zg_119_16, zg_120_0, zg_120_1, zg_120_2, zg_120_3, zg_121_0, zg_122_0, zg_124_0, zg_126_0, zg_127_0, zg_128_0, zg_129_0, zg_131_0, zg_131_1, zg_131_2, zg_131_3, Nat.reduceAdd, Nat.reduceMul, Int32.reduceAdd, Int32.reduceSub, Int32.reduceMul]
          first
          | refine ⟨vp_inb rfl, ?_⟩
          | refine ⟨fun h => absurd h (of_decide_eq_false rfl), fun _ => ?_⟩
          | refine ⟨fun _ => ?_, fun h => absurd (of_decide_eq_true rfl) h⟩
          | refine ⟨fun _ => ?_, fun h => absurd h (of_decide_eq_false rfl)⟩
          | refine ⟨fun h => absurd (of_decide_eq_true rfl) h, fun _ => ?_⟩
          | refine ⟨of_decide_eq_true rfl, ?_⟩
          | refine ⟨rfl, ?_⟩)
  try (conv => whnf)
  first | exact rfl | exact ⟨rfl, rfl⟩
set_option maxRecDepth 100000 in
set_option maxHeartbeats 4000000 in
theorem zlc31 {p : Program} {e : Env} {s : State} {m : MethodId} {below : List Frame} {meth : Method} {c : Code} (l : Launch) (hlt : l.stackTraces = false) {b : Nat} {xs : Nat → Int32} {D : va_G} {cA : Nat → ClassId} (F9 : zLf p s m meth c b 7 xs D cA) : zLw p l e s m below meth c b D cA 2025 zl0 [] (234, 11049) (145, zSH, zRH, zs0, zt0) := by
  obtain ⟨F, hml, hNw, hX, -, -, -⟩ := id F9
  have hA : ∀ q : Nat, s.heap.size ≤ q → (fun q => s.heap.size ≤ q) q := fun _ h => h
  have hS := zlaw_step (l := l) (e := e) (below := below) F9 (zCL_law31 [(219, 1, 3, spL_keep, rmL_keep.cells, rmL_keep.slots), (221, 0, 1, spX8_keep_, rmX8_keep_.cells, rmX8_keep_.slots), (113, 0, 0, spX8_thrown, rmX8_thrown.cells, rmX8_thrown.slots)]) (zscr xs) zpL_law31 [2219] zkL_law31 ⟨by decide +kernel, by decide +kernel, by decide +kernel, by decide +kernel⟩ rfl rfl zscr_sc zscr_sl ⟨zco_SW hX hA F hml hNw (zctW_X (ctL_keep l hlt D cA)) ⟨⟨zlL_law31_219, zwL_keep.1⟩, zwL_keep.2⟩ zdL_keep ⟨Nat.le_of_ble_eq_true rfl, Nat.le_of_ble_eq_true rfl⟩, zco_V hX hA F hml hNw (zct_X (ctX8_keep_ l D cA)) ⟨⟨zlL_law31_221, zwX8_keep_.1.1, zwX8_keep_.1.2⟩, zwX8_keep_.2⟩ zdX8_keep_ ⟨Nat.le_of_ble_eq_true rfl, Nat.le_of_ble_eq_true rfl⟩ (ci := 8) (by decide) rfl (by rintro av μ K ⟨x, rfl, rfl, -⟩; exact ⟨_, _, rfl, rfl⟩), zco_V hX hA F hml hNw (zct_X (ctX8_thrown l D cA)) ⟨⟨zlL_law31_113, zwX8_thrown.1.1, zwX8_thrown.1.2⟩, zwX8_thrown.2⟩ zdX8_thrown ⟨Nat.le_of_ble_eq_true rfl, Nat.le_of_ble_eq_true rfl⟩ (ci := 8) (by decide) rfl (by rintro av μ K ⟨⟨μ0, x9⟩, rfl, rfl, h9, -⟩; exact ⟨_, _, rfl, congrArg Prod.fst h9.1⟩), trivial⟩
  have hZ := zLw_Z (p := p) (l := l) (e := e) (s := s) (m := m) (below := below) (meth := meth) (c := c) (b := b) (D := D) (cA := cA)
  generalize zLw p l e s m below meth c b D cA = Gl at hS hZ ⊢
  refine hS 400 _ _ _ _ _ ?_
  by_cases hc : 0 ≤ xs 1 ∧ xs 1 < 4
  · have hd := zeq3 hc
    repeat (conv => whnf
            try dsimp only
            try simp (decide := true) only [zu_same, zu_ne1, zu_ne2, zuL_same, zuL_ne1, zuL_ne2, zrow_n1, zx0, zx1, zx2, zx3, zf_0_13, zf_0_14, zf_0_15, zf_1_3, zf_15_0, zf_16_0, zf_17_10, zf_86_3, zf_90_6, zf_90_7, zf_94_7, zf_100_6, zf_100_7, zf_118_0, zf_118_1, zf_118_2, zf_118_3, zg_119_0, zg_119_5, zg_119_9, zg_119_15, zg_119_19, zg_119_22, zg_119_1, zg_119_16, zg_120_0, zg_120_1, zg_120_2, zg_120_3, zg_121_0, zg_122_0, zg_124_0, zg_126_0, zg_127_0, zg_128_0, zg_129_0, zg_131_0, zg_131_1, zg_131_2, zg_131_3, Nat.reduceAdd, Nat.reduceMul, Int32.reduceAdd, Int32.reduceSub, Int32.reduceMul]
            first
            | refine ⟨vp_inb rfl, ?_⟩
            | refine ⟨fun h => absurd h (of_decide_eq_false rfl), fun _ => ?_⟩
            | refine ⟨fun _ => ?_, fun h => absurd (of_decide_eq_true rfl) h⟩
            | refine ⟨fun _ => ?_, fun h => absurd h (of_decide_eq_false rfl)⟩
            | refine ⟨fun h => absurd (of_decide_eq_true rfl) h, fun _ => ?_⟩
            | refine ⟨of_decide_eq_true rfl, ?_⟩
            | refine ⟨rfl, ?_⟩)
    try (conv => whnf)
    refine ⟨xs 1, rfl, rfl, trivial, ?_⟩
    try dsimp only
    simp only [if_pos hc, if_pos hd]
    rintro _ _ ⟨rfl, σ1, τ1, rfl⟩
    repeat (conv => whnf
            try dsimp only
            try simp (decide := true) only [zu_same, zu_ne1, zu_ne2, zuL_same, zuL_ne1, zuL_ne2, zrow_n1, zx0, zx1, zx2, zx3, zf_0_13, zf_0_14, zf_0_15, zf_1_3, zf_15_0, zf_16_0, zf_17_10, zf_86_3, zf_90_6, zf_90_7, zf_94_7, zf_100_6, zf_100_7, zf_118_0, zf_118_1, zf_118_2, zf_118_3, zg_119_0, zg_119_5, zg_119_9, zg_119_15, zg_119_19, zg_119_22, zg_119_1, zg_119_16, zg_120_0, zg_120_1, zg_120_2, zg_120_3, zg_121_0, zg_122_0, zg_124_0, zg_126_0, zg_127_0, zg_128_0, zg_129_0, zg_131_0, zg_131_1, zg_131_2, zg_131_3, Nat.reduceAdd, Nat.reduceMul, Int32.reduceAdd, Int32.reduceSub, Int32.reduceMul]
            first
            | refine ⟨vp_inb rfl, ?_⟩
            | refine ⟨fun h => absurd h (of_decide_eq_false rfl), fun _ => ?_⟩
            | refine ⟨fun _ => ?_, fun h => absurd (of_decide_eq_true rfl) h⟩
            | refine ⟨fun _ => ?_, fun h => absurd h (of_decide_eq_false rfl)⟩
            | refine ⟨fun h => absurd (of_decide_eq_true rfl) h, fun _ => ?_⟩
            | refine ⟨of_decide_eq_true rfl, ?_⟩
            | refine ⟨rfl, ?_⟩)
    try (conv => whnf)
    refine ⟨(xs 1, σ1, τ1, 1), rfl, rfl, trivial, ?_⟩
    try dsimp only
    simp only [if_pos hc, if_pos hd]
    rintro _ μ2 ⟨rfl, h1, h2, h3, h4⟩
    repeat (first
      | (conv => whnf
         try dsimp only
         try simp (decide := true) only [h1, h2, h3, h4, zu_same, zu_ne1, zu_ne2, zuL_same, zuL_ne1, zuL_ne2, zrow_n1, zx0, zx1, zx2, zx3, zf_0_13, zf_0_14, zf_0_15, zf_1_3, zf_15_0, zf_16_0, zf_17_10, zf_86_3, zf_90_6, zf_90_7, zf_94_7, zf_100_6, zf_100_7, zf_118_0, zf_118_1, zf_118_2, zf_118_3, zg_119_0, zg_119_5, zg_119_9, zg_119_15, zg_119_19, zg_119_22, zg_119_1, zg_119_16, zg_120_0, zg_120_1, zg_120_2, zg_120_3, zg_121_0, zg_122_0, zg_124_0, zg_126_0, zg_127_0, zg_128_0, zg_129_0, zg_131_0, zg_131_1, zg_131_2, zg_131_3, Nat.reduceAdd, Nat.reduceMul, Int32.reduceAdd, Int32.reduceSub, Int32.reduceMul]
         first
         | refine ⟨vp_inb rfl, ?_⟩
         | refine ⟨fun h => absurd h (of_decide_eq_false rfl), fun _ => ?_⟩
         | refine ⟨fun _ => ?_, fun h => absurd (of_decide_eq_true rfl) h⟩
         | refine ⟨fun _ => ?_, fun h => absurd h (of_decide_eq_false rfl)⟩
         | refine ⟨fun h => absurd (of_decide_eq_true rfl) h, fun _ => ?_⟩
         | refine ⟨of_decide_eq_true rfl, ?_⟩
         | refine ⟨rfl, ?_⟩)
      | (conv => whnf
         fail_if_success refine Exists.intro ?_ ?_
         simp only [h1, h2, h3, h4]))
    try (conv => whnf)
    refine ⟨(μ2, ()), rfl, rfl, ⟨h1, trivial⟩, ?_⟩
    try dsimp only
    repeat (first
      | (conv => whnf
         try dsimp only
         try simp (decide := true) only [h1, h2, h3, h4, zu_same, zu_ne1, zu_ne2, zuL_same, zuL_ne1, zuL_ne2, zrow_n1, zx0, zx1, zx2, zx3, zf_0_13, zf_0_14, zf_0_15, zf_1_3, zf_15_0, zf_16_0, zf_17_10, zf_86_3, zf_90_6, zf_90_7, zf_94_7, zf_100_6, zf_100_7, zf_118_0, zf_118_1, zf_118_2, zf_118_3, zg_119_0, zg_119_5, zg_119_9, zg_119_15, zg_119_19, zg_119_22, zg_119_1, zg_119_16, zg_120_0, zg_120_1, zg_120_2, zg_120_3, zg_121_0, zg_122_0, zg_124_0, zg_126_0, zg_127_0, zg_128_0, zg_129_0, zg_131_0, zg_131_1, zg_131_2, zg_131_3, Nat.reduceAdd, Nat.reduceMul, Int32.reduceAdd, Int32.reduceSub, Int32.reduceMul]
         first
         | refine ⟨vp_inb rfl, ?_⟩
         | refine ⟨fun h => absurd h (of_decide_eq_false rfl), fun _ => ?_⟩
         | refine ⟨fun _ => ?_, fun h => absurd (of_decide_eq_true rfl) h⟩
         | refine ⟨fun _ => ?_, fun h => absurd h (of_decide_eq_false rfl)⟩
         | refine ⟨fun h => absurd (of_decide_eq_true rfl) h, fun _ => ?_⟩
         | refine ⟨of_decide_eq_true rfl, ?_⟩
         | refine ⟨rfl, ?_⟩)
      | (conv => whnf
         fail_if_success refine Exists.intro ?_ ?_
         simp only [h1, h2, h3, h4]))
    try (conv => whnf)
    refine hZ _ _ _ _ _ ?_
    refine hS 40 _ _ _ _ _ ?_
    repeat (conv => whnf
            try dsimp only
            try simp (decide := true) only [zu_same, zu_ne1, zu_ne2, zuL_same, zuL_ne1, zuL_ne2, zrow_n1, zx0, zx1, zx2, zx3, zf_0_13, zf_0_14, zf_0_15, zf_1_3, zf_15_0, zf_16_0, zf_17_10, zf_86_3, zf_90_6, zf_90_7, zf_94_7, zf_100_6, zf_100_7, zf_118_0, zf_118_1, zf_118_2, zf_118_3, zg_119_0, zg_119_5, zg_119_9, zg_119_15, zg_119_19, zg_119_22, zg_119_1, zg_119_16, zg_120_0, zg_120_1, zg_120_2, zg_120_3, zg_121_0, zg_122_0, zg_124_0, zg_126_0, zg_127_0, zg_128_0, zg_129_0, zg_131_0, zg_131_1, zg_131_2, zg_131_3, Nat.reduceAdd, Nat.reduceMul, Int32.reduceAdd, Int32.reduceSub, Int32.reduceMul]
            first
            | refine ⟨vp_inb rfl, ?_⟩
            | refine ⟨fun h => absurd h (of_decide_eq_false rfl), fun _ => ?_⟩
            | refine ⟨fun _ => ?_, fun h => absurd (of_decide_eq_true rfl) h⟩
            | refine ⟨fun _ => ?_, fun h => absurd h (of_decide_eq_false rfl)⟩
            | refine ⟨fun h => absurd (of_decide_eq_true rfl) h, fun _ => ?_⟩
            | refine ⟨of_decide_eq_true rfl, ?_⟩
            | refine ⟨rfl, ?_⟩)
    try (conv => whnf)
    first | exact rfl | exact ⟨rfl, rfl⟩
  · have hd := zeq3n hc
    repeat (conv => whnf
            try dsimp only
            try simp (decide := true) only [zu_same, zu_ne1, zu_ne2, zuL_same, zuL_ne1, zuL_ne2, zrow_n1, zx0, zx1, zx2, zx3, zf_0_13, zf_0_14, zf_0_15, zf_1_3, zf_15_0, zf_16_0, zf_17_10, zf_86_3, zf_90_6, zf_90_7, zf_94_7, zf_100_6, zf_100_7, zf_118_0, zf_118_1, zf_118_2, zf_118_3, zg_119_0, zg_119_5, zg_119_9, zg_119_15, zg_119_19, zg_119_22, zg_119_1, zg_119_16, zg_120_0, zg_120_1, zg_120_2, zg_120_3, zg_121_0, zg_122_0, zg_124_0, zg_126_0, zg_127_0, zg_128_0, zg_129_0, zg_131_0, zg_131_1, zg_131_2, zg_131_3, Nat.reduceAdd, Nat.reduceMul, Int32.reduceAdd, Int32.reduceSub, Int32.reduceMul]
            first
            | refine ⟨vp_inb rfl, ?_⟩
            | refine ⟨fun h => absurd h (of_decide_eq_false rfl), fun _ => ?_⟩
            | refine ⟨fun _ => ?_, fun h => absurd (of_decide_eq_true rfl) h⟩
            | refine ⟨fun _ => ?_, fun h => absurd h (of_decide_eq_false rfl)⟩
            | refine ⟨fun h => absurd (of_decide_eq_true rfl) h, fun _ => ?_⟩
            | refine ⟨of_decide_eq_true rfl, ?_⟩
            | refine ⟨rfl, ?_⟩)
    try (conv => whnf)
    refine ⟨xs 1, rfl, rfl, trivial, ?_⟩
    try dsimp only
    simp only [if_neg hc, if_neg hd]
    rintro _ _ ⟨rfl, σ1, τ1, rfl⟩
    repeat (conv => whnf
            try dsimp only
            try simp (decide := true) only [zu_same, zu_ne1, zu_ne2, zuL_same, zuL_ne1, zuL_ne2, zrow_n1, zx0, zx1, zx2, zx3, zf_0_13, zf_0_14, zf_0_15, zf_1_3, zf_15_0, zf_16_0, zf_17_10, zf_86_3, zf_90_6, zf_90_7, zf_94_7, zf_100_6, zf_100_7, zf_118_0, zf_118_1, zf_118_2, zf_118_3, zg_119_0, zg_119_5, zg_119_9, zg_119_15, zg_119_19, zg_119_22, zg_119_1, zg_119_16, zg_120_0, zg_120_1, zg_120_2, zg_120_3, zg_121_0, zg_122_0, zg_124_0, zg_126_0, zg_127_0, zg_128_0, zg_129_0, zg_131_0, zg_131_1, zg_131_2, zg_131_3, Nat.reduceAdd, Nat.reduceMul, Int32.reduceAdd, Int32.reduceSub, Int32.reduceMul]
            first
            | refine ⟨vp_inb rfl, ?_⟩
            | refine ⟨fun h => absurd h (of_decide_eq_false rfl), fun _ => ?_⟩
            | refine ⟨fun _ => ?_, fun h => absurd (of_decide_eq_true rfl) h⟩
            | refine ⟨fun _ => ?_, fun h => absurd h (of_decide_eq_false rfl)⟩
            | refine ⟨fun h => absurd (of_decide_eq_true rfl) h, fun _ => ?_⟩
            | refine ⟨of_decide_eq_true rfl, ?_⟩
            | refine ⟨rfl, ?_⟩)
    try (conv => whnf)
    refine ⟨(xs 1, σ1, τ1, 0), rfl, rfl, trivial, ?_⟩
    try dsimp only
    simp only [if_neg hc, if_neg hd]
    rintro _ μ2 ⟨rfl, h1, h2, h3, h4⟩
    repeat (first
      | (conv => whnf
         try dsimp only
         try simp (decide := true) only [h1, h2, h3, h4, zu_same, zu_ne1, zu_ne2, zuL_same, zuL_ne1, zuL_ne2, zrow_n1, zx0, zx1, zx2, zx3, zf_0_13, zf_0_14, zf_0_15, zf_1_3, zf_15_0, zf_16_0, zf_17_10, zf_86_3, zf_90_6, zf_90_7, zf_94_7, zf_100_6, zf_100_7, zf_118_0, zf_118_1, zf_118_2, zf_118_3, zg_119_0, zg_119_5, zg_119_9, zg_119_15, zg_119_19, zg_119_22, zg_119_1, zg_119_16, zg_120_0, zg_120_1, zg_120_2, zg_120_3, zg_121_0, zg_122_0, zg_124_0, zg_126_0, zg_127_0, zg_128_0, zg_129_0, zg_131_0, zg_131_1, zg_131_2, zg_131_3, Nat.reduceAdd, Nat.reduceMul, Int32.reduceAdd, Int32.reduceSub, Int32.reduceMul]
         first
         | refine ⟨vp_inb rfl, ?_⟩
         | refine ⟨fun h => absurd h (of_decide_eq_false rfl), fun _ => ?_⟩
         | refine ⟨fun _ => ?_, fun h => absurd (of_decide_eq_true rfl) h⟩
         | refine ⟨fun _ => ?_, fun h => absurd h (of_decide_eq_false rfl)⟩
         | refine ⟨fun h => absurd (of_decide_eq_true rfl) h, fun _ => ?_⟩
         | refine ⟨of_decide_eq_true rfl, ?_⟩
         | refine ⟨rfl, ?_⟩)
      | (conv => whnf
         fail_if_success refine Exists.intro ?_ ?_
         simp only [h1, h2, h3, h4]))
    try (conv => whnf)
    refine ⟨(μ2, ()), rfl, rfl, ⟨h1, trivial⟩, ?_⟩
    try dsimp only
    repeat (first
      | (conv => whnf
         try dsimp only
         try simp (decide := true) only [h1, h2, h3, h4, zu_same, zu_ne1, zu_ne2, zuL_same, zuL_ne1, zuL_ne2, zrow_n1, zx0, zx1, zx2, zx3, zf_0_13, zf_0_14, zf_0_15, zf_1_3, zf_15_0, zf_16_0, zf_17_10, zf_86_3, zf_90_6, zf_90_7, zf_94_7, zf_100_6, zf_100_7, zf_118_0, zf_118_1, zf_118_2, zf_118_3, zg_119_0, zg_119_5, zg_119_9, zg_119_15, zg_119_19, zg_119_22, zg_119_1, zg_119_16, zg_120_0, zg_120_1, zg_120_2, zg_120_3, zg_121_0, zg_122_0, zg_124_0, zg_126_0, zg_127_0, zg_128_0, zg_129_0, zg_131_0, zg_131_1, zg_131_2, zg_131_3, Nat.reduceAdd, Nat.reduceMul, Int32.reduceAdd, Int32.reduceSub, Int32.reduceMul]
         first
         | refine ⟨vp_inb rfl, ?_⟩
         | refine ⟨fun h => absurd h (of_decide_eq_false rfl), fun _ => ?_⟩
         | refine ⟨fun _ => ?_, fun h => absurd (of_decide_eq_true rfl) h⟩
         | refine ⟨fun _ => ?_, fun h => absurd h (of_decide_eq_false rfl)⟩
         | refine ⟨fun h => absurd (of_decide_eq_true rfl) h, fun _ => ?_⟩
         | refine ⟨of_decide_eq_true rfl, ?_⟩
         | refine ⟨rfl, ?_⟩)
      | (conv => whnf
         fail_if_success refine Exists.intro ?_ ?_
         simp only [h1, h2, h3, h4]))
    try (conv => whnf)
    refine hZ _ _ _ _ _ ?_
    refine hS 40 _ _ _ _ _ ?_
    repeat (conv => whnf
            try dsimp only
            try simp (decide := true) only [zu_same, zu_ne1, zu_ne2, zuL_same, zuL_ne1, zuL_ne2, zrow_n1, zx0, zx1, zx2, zx3, zf_0_13, zf_0_14, zf_0_15, zf_1_3, zf_15_0, zf_16_0, zf_17_10, zf_86_3, zf_90_6, zf_90_7, zf_94_7, zf_100_6, zf_100_7, zf_118_0, zf_118_1, zf_118_2, zf_118_3, zg_119_0, zg_119_5, zg_119_9, zg_119_15, zg_119_19, zg_119_22, zg_119_1, zg_119_16, zg_120_0, zg_120_1, zg_120_2, zg_120_3, zg_121_0, zg_122_0, zg_124_0, zg_126_0, zg_127_0, zg_128_0, zg_129_0, zg_131_0, zg_131_1, zg_131_2, zg_131_3, Nat.reduceAdd, Nat.reduceMul, Int32.reduceAdd, Int32.reduceSub, Int32.reduceMul]
            first
            | refine ⟨vp_inb rfl, ?_⟩
            | refine ⟨fun h => absurd h (of_decide_eq_false rfl), fun _ => ?_⟩
            | refine ⟨fun _ => ?_, fun h => absurd (of_decide_eq_true rfl) h⟩
            | refine ⟨fun _ => ?_, fun h => absurd h (of_decide_eq_false rfl)⟩
            | refine ⟨fun h => absurd (of_decide_eq_true rfl) h, fun _ => ?_⟩
            | refine ⟨of_decide_eq_true rfl, ?_⟩
            | refine ⟨rfl, ?_⟩)
    try (conv => whnf)
    first | exact rfl | exact ⟨rfl, rfl⟩
set_option maxRecDepth 100000 in
set_option maxHeartbeats 4000000 in
theorem zlc32 {p : Program} {e : Env} {s : State} {m : MethodId} {below : List Frame} {meth : Method} {c : Code} (l : Launch) (hlt : l.stackTraces = false) {b : Nat} {xs : Nat → Int32} {D : va_G} {cA : Nat → ClassId} (F9 : zLf p s m meth c b 7 xs D cA) : zLw p l e s m below meth c b D cA 2081 zl0 [] (234, 11049) (145, zSH, zRH, zs0, zt0) := by
  obtain ⟨F, hml, hNw, hX, -, -, -⟩ := id F9
  have hA : ∀ q : Nat, s.heap.size ≤ q → (fun q => s.heap.size ≤ q) q := fun _ h => h
  have hS := zlaw_step (l := l) (e := e) (below := below) F9 (zCL_law32 [(222, 1, 3, spL_load, rmL_load.cells, rmL_load.slots), (224, 0, 1, spX8_load, rmX8_load.cells, rmX8_load.slots), (113, 0, 0, spX8_thrown, rmX8_thrown.cells, rmX8_thrown.slots)]) (zscr xs) zpL_law32 [2219] zkL_law32 ⟨by decide +kernel, by decide +kernel, by decide +kernel, by decide +kernel⟩ rfl rfl zscr_sc zscr_sl ⟨zco_SW hX hA F hml hNw (zctW_X (ctL_load l hlt D cA)) ⟨⟨zlL_law32_222, zwL_load.1⟩, zwL_load.2⟩ zdL_load ⟨Nat.le_of_ble_eq_true rfl, Nat.le_of_ble_eq_true rfl⟩, zco_V hX hA F hml hNw (zct_X (ctX8_load l D cA)) ⟨⟨zlL_law32_224, zwX8_load.1.1, zwX8_load.1.2⟩, zwX8_load.2⟩ zdX8_load ⟨Nat.le_of_ble_eq_true rfl, Nat.le_of_ble_eq_true rfl⟩ (ci := 8) (by decide) rfl (by rintro av μ K ⟨x, rfl, rfl, -⟩; exact ⟨_, _, rfl, rfl⟩), zco_V hX hA F hml hNw (zct_X (ctX8_thrown l D cA)) ⟨⟨zlL_law32_113, zwX8_thrown.1.1, zwX8_thrown.1.2⟩, zwX8_thrown.2⟩ zdX8_thrown ⟨Nat.le_of_ble_eq_true rfl, Nat.le_of_ble_eq_true rfl⟩ (ci := 8) (by decide) rfl (by rintro av μ K ⟨⟨μ0, x9⟩, rfl, rfl, h9, -⟩; exact ⟨_, _, rfl, congrArg Prod.fst h9.1⟩), trivial⟩
  have hZ := zLw_Z (p := p) (l := l) (e := e) (s := s) (m := m) (below := below) (meth := meth) (c := c) (b := b) (D := D) (cA := cA)
  generalize zLw p l e s m below meth c b D cA = Gl at hS hZ ⊢
  refine hS 400 _ _ _ _ _ ?_
  by_cases hc : 0 ≤ xs 1 ∧ xs 1 < 4
  · have hd := zeq3 hc
    repeat (conv => whnf
            try dsimp only
            try simp (decide := true) only [zu_same, zu_ne1, zu_ne2, zuL_same, zuL_ne1, zuL_ne2, zrow_n1, zx0, zx1, zx2, zx3, zf_0_13, zf_0_14, zf_0_15, zf_1_3, zf_15_0, zf_16_0, zf_17_10, zf_86_3, zf_90_6, zf_90_7, zf_94_7, zf_100_6, zf_100_7, zf_118_0, zf_118_1, zf_118_2, zf_118_3, zg_119_0, zg_119_5, zg_119_9, zg_119_15, zg_119_19, zg_119_22, zg_119_1, zg_119_16, zg_120_0, zg_120_1, zg_120_2, zg_120_3, zg_121_0, zg_122_0, zg_124_0, zg_126_0, zg_127_0, zg_128_0, zg_129_0, zg_131_0, zg_131_1, zg_131_2, zg_131_3, Nat.reduceAdd, Nat.reduceMul, Int32.reduceAdd, Int32.reduceSub, Int32.reduceMul]
            first
            | refine ⟨vp_inb rfl, ?_⟩
            | refine ⟨fun h => absurd h (of_decide_eq_false rfl), fun _ => ?_⟩
            | refine ⟨fun _ => ?_, fun h => absurd (of_decide_eq_true rfl) h⟩
            | refine ⟨fun _ => ?_, fun h => absurd h (of_decide_eq_false rfl)⟩
            | refine ⟨fun h => absurd (of_decide_eq_true rfl) h, fun _ => ?_⟩
            | refine ⟨of_decide_eq_true rfl, ?_⟩
            | refine ⟨rfl, ?_⟩)
    try (conv => whnf)
    refine ⟨xs 1, rfl, rfl, trivial, ?_⟩
    try dsimp only
    simp only [if_pos hc, if_pos hd]
    rintro _ _ ⟨rfl, σ1, τ1, rfl⟩
    repeat (conv => whnf
            try dsimp only
            try simp (decide := true) only [zu_same, zu_ne1, zu_ne2, zuL_same, zuL_ne1, zuL_ne2, zrow_n1, zx0, zx1, zx2, zx3, zf_0_13, zf_0_14, zf_0_15, zf_1_3, zf_15_0, zf_16_0, zf_17_10, zf_86_3, zf_90_6, zf_90_7, zf_94_7, zf_100_6, zf_100_7, zf_118_0, zf_118_1, zf_118_2, zf_118_3, zg_119_0, zg_119_5, zg_119_9, zg_119_15, zg_119_19, zg_119_22, zg_119_1, zg_119_16, zg_120_0, zg_120_1, zg_120_2, zg_120_3, zg_121_0, zg_122_0, zg_124_0, zg_126_0, zg_127_0, zg_128_0, zg_129_0, zg_131_0, zg_131_1, zg_131_2, zg_131_3, Nat.reduceAdd, Nat.reduceMul, Int32.reduceAdd, Int32.reduceSub, Int32.reduceMul]
            first
            | refine ⟨vp_inb rfl, ?_⟩
            | refine ⟨fun h => absurd h (of_decide_eq_false rfl), fun _ => ?_⟩
            | refine ⟨fun _ => ?_, fun h => absurd (of_decide_eq_true rfl) h⟩
            | refine ⟨fun _ => ?_, fun h => absurd h (of_decide_eq_false rfl)⟩
            | refine ⟨fun h => absurd (of_decide_eq_true rfl) h, fun _ => ?_⟩
            | refine ⟨of_decide_eq_true rfl, ?_⟩
            | refine ⟨rfl, ?_⟩)
    try (conv => whnf)
    refine ⟨(xs 1, σ1, τ1, 0), rfl, rfl, trivial, ?_⟩
    try dsimp only
    simp only [if_pos hc, if_pos hd]
    rintro _ μ2 ⟨rfl, h1, h2, h3, h4⟩
    repeat (first
      | (conv => whnf
         try dsimp only
         try simp (decide := true) only [h1, h2, h3, h4, zu_same, zu_ne1, zu_ne2, zuL_same, zuL_ne1, zuL_ne2, zrow_n1, zx0, zx1, zx2, zx3, zf_0_13, zf_0_14, zf_0_15, zf_1_3, zf_15_0, zf_16_0, zf_17_10, zf_86_3, zf_90_6, zf_90_7, zf_94_7, zf_100_6, zf_100_7, zf_118_0, zf_118_1, zf_118_2, zf_118_3, zg_119_0, zg_119_5, zg_119_9, zg_119_15, zg_119_19, zg_119_22, zg_119_1, zg_119_16, zg_120_0, zg_120_1, zg_120_2, zg_120_3, zg_121_0, zg_122_0, zg_124_0, zg_126_0, zg_127_0, zg_128_0, zg_129_0, zg_131_0, zg_131_1, zg_131_2, zg_131_3, Nat.reduceAdd, Nat.reduceMul, Int32.reduceAdd, Int32.reduceSub, Int32.reduceMul]
         first
         | refine ⟨vp_inb rfl, ?_⟩
         | refine ⟨fun h => absurd h (of_decide_eq_false rfl), fun _ => ?_⟩
         | refine ⟨fun _ => ?_, fun h => absurd (of_decide_eq_true rfl) h⟩
         | refine ⟨fun _ => ?_, fun h => absurd h (of_decide_eq_false rfl)⟩
         | refine ⟨fun h => absurd (of_decide_eq_true rfl) h, fun _ => ?_⟩
         | refine ⟨of_decide_eq_true rfl, ?_⟩
         | refine ⟨rfl, ?_⟩)
      | (conv => whnf
         fail_if_success refine Exists.intro ?_ ?_
         simp only [h1, h2, h3, h4]))
    try (conv => whnf)
    refine ⟨(μ2, ()), rfl, rfl, ⟨h1, trivial⟩, ?_⟩
    try dsimp only
    repeat (first
      | (conv => whnf
         try dsimp only
         try simp (decide := true) only [h1, h2, h3, h4, zu_same, zu_ne1, zu_ne2, zuL_same, zuL_ne1, zuL_ne2, zrow_n1, zx0, zx1, zx2, zx3, zf_0_13, zf_0_14, zf_0_15, zf_1_3, zf_15_0, zf_16_0, zf_17_10, zf_86_3, zf_90_6, zf_90_7, zf_94_7, zf_100_6, zf_100_7, zf_118_0, zf_118_1, zf_118_2, zf_118_3, zg_119_0, zg_119_5, zg_119_9, zg_119_15, zg_119_19, zg_119_22, zg_119_1, zg_119_16, zg_120_0, zg_120_1, zg_120_2, zg_120_3, zg_121_0, zg_122_0, zg_124_0, zg_126_0, zg_127_0, zg_128_0, zg_129_0, zg_131_0, zg_131_1, zg_131_2, zg_131_3, Nat.reduceAdd, Nat.reduceMul, Int32.reduceAdd, Int32.reduceSub, Int32.reduceMul]
         first
         | refine ⟨vp_inb rfl, ?_⟩
         | refine ⟨fun h => absurd h (of_decide_eq_false rfl), fun _ => ?_⟩
         | refine ⟨fun _ => ?_, fun h => absurd (of_decide_eq_true rfl) h⟩
         | refine ⟨fun _ => ?_, fun h => absurd h (of_decide_eq_false rfl)⟩
         | refine ⟨fun h => absurd (of_decide_eq_true rfl) h, fun _ => ?_⟩
         | refine ⟨of_decide_eq_true rfl, ?_⟩
         | refine ⟨rfl, ?_⟩)
      | (conv => whnf
         fail_if_success refine Exists.intro ?_ ?_
         simp only [h1, h2, h3, h4]))
    try (conv => whnf)
    refine hZ _ _ _ _ _ ?_
    refine hS 40 _ _ _ _ _ ?_
    repeat (conv => whnf
            try dsimp only
            try simp (decide := true) only [zu_same, zu_ne1, zu_ne2, zuL_same, zuL_ne1, zuL_ne2, zrow_n1, zx0, zx1, zx2, zx3, zf_0_13, zf_0_14, zf_0_15, zf_1_3, zf_15_0, zf_16_0, zf_17_10, zf_86_3, zf_90_6, zf_90_7, zf_94_7, zf_100_6, zf_100_7, zf_118_0, zf_118_1, zf_118_2, zf_118_3, zg_119_0, zg_119_5, zg_119_9, zg_119_15, zg_119_19, zg_119_22, zg_119_1, zg_119_16, zg_120_0, zg_120_1, zg_120_2, zg_120_3, zg_121_0, zg_122_0, zg_124_0, zg_126_0, zg_127_0, zg_128_0, zg_129_0, zg_131_0, zg_131_1, zg_131_2, zg_131_3, Nat.reduceAdd, Nat.reduceMul, Int32.reduceAdd, Int32.reduceSub, Int32.reduceMul]
            first
            | refine ⟨vp_inb rfl, ?_⟩
            | refine ⟨fun h => absurd h (of_decide_eq_false rfl), fun _ => ?_⟩
            | refine ⟨fun _ => ?_, fun h => absurd (of_decide_eq_true rfl) h⟩
            | refine ⟨fun _ => ?_, fun h => absurd h (of_decide_eq_false rfl)⟩
            | refine ⟨fun h => absurd (of_decide_eq_true rfl) h, fun _ => ?_⟩
            | refine ⟨of_decide_eq_true rfl, ?_⟩
            | refine ⟨rfl, ?_⟩)
    try (conv => whnf)
    first | exact rfl | exact ⟨rfl, rfl⟩
  · have hd := zeq3n hc
    repeat (conv => whnf
            try dsimp only
            try simp (decide := true) only [zu_same, zu_ne1, zu_ne2, zuL_same, zuL_ne1, zuL_ne2, zrow_n1, zx0, zx1, zx2, zx3, zf_0_13, zf_0_14, zf_0_15, zf_1_3, zf_15_0, zf_16_0, zf_17_10, zf_86_3, zf_90_6, zf_90_7, zf_94_7, zf_100_6, zf_100_7, zf_118_0, zf_118_1, zf_118_2, zf_118_3, zg_119_0, zg_119_5, zg_119_9, zg_119_15, zg_119_19, zg_119_22, zg_119_1, zg_119_16, zg_120_0, zg_120_1, zg_120_2, zg_120_3, zg_121_0, zg_122_0, zg_124_0, zg_126_0, zg_127_0, zg_128_0, zg_129_0, zg_131_0, zg_131_1, zg_131_2, zg_131_3, Nat.reduceAdd, Nat.reduceMul, Int32.reduceAdd, Int32.reduceSub, Int32.reduceMul]
            first
            | refine ⟨vp_inb rfl, ?_⟩
            | refine ⟨fun h => absurd h (of_decide_eq_false rfl), fun _ => ?_⟩
            | refine ⟨fun _ => ?_, fun h => absurd (of_decide_eq_true rfl) h⟩
            | refine ⟨fun _ => ?_, fun h => absurd h (of_decide_eq_false rfl)⟩
            | refine ⟨fun h => absurd (of_decide_eq_true rfl) h, fun _ => ?_⟩
            | refine ⟨of_decide_eq_true rfl, ?_⟩
            | refine ⟨rfl, ?_⟩)
    try (conv => whnf)
    refine ⟨xs 1, rfl, rfl, trivial, ?_⟩
    try dsimp only
    simp only [if_neg hc, if_neg hd]
    rintro _ _ ⟨rfl, σ1, τ1, rfl⟩
    repeat (conv => whnf
            try dsimp only
            try simp (decide := true) only [zu_same, zu_ne1, zu_ne2, zuL_same, zuL_ne1, zuL_ne2, zrow_n1, zx0, zx1, zx2, zx3, zf_0_13, zf_0_14, zf_0_15, zf_1_3, zf_15_0, zf_16_0, zf_17_10, zf_86_3, zf_90_6, zf_90_7, zf_94_7, zf_100_6, zf_100_7, zf_118_0, zf_118_1, zf_118_2, zf_118_3, zg_119_0, zg_119_5, zg_119_9, zg_119_15, zg_119_19, zg_119_22, zg_119_1, zg_119_16, zg_120_0, zg_120_1, zg_120_2, zg_120_3, zg_121_0, zg_122_0, zg_124_0, zg_126_0, zg_127_0, zg_128_0, zg_129_0, zg_131_0, zg_131_1, zg_131_2, zg_131_3, Nat.reduceAdd, Nat.reduceMul, Int32.reduceAdd, Int32.reduceSub, Int32.reduceMul]
            first
            | refine ⟨vp_inb rfl, ?_⟩
            | refine ⟨fun h => absurd h (of_decide_eq_false rfl), fun _ => ?_⟩
            | refine ⟨fun _ => ?_, fun h => absurd (of_decide_eq_true rfl) h⟩
            | refine ⟨fun _ => ?_, fun h => absurd h (of_decide_eq_false rfl)⟩
            | refine ⟨fun h => absurd (of_decide_eq_true rfl) h, fun _ => ?_⟩
            | refine ⟨of_decide_eq_true rfl, ?_⟩
            | refine ⟨rfl, ?_⟩)
    try (conv => whnf)
    refine ⟨(xs 1, σ1, τ1, 0), rfl, rfl, trivial, ?_⟩
    try dsimp only
    simp only [if_neg hc, if_neg hd]
    rintro _ μ2 ⟨rfl, h1, h2, h3, h4⟩
    repeat (first
      | (conv => whnf
         try dsimp only
         try simp (decide := true) only [h1, h2, h3, h4, zu_same, zu_ne1, zu_ne2, zuL_same, zuL_ne1, zuL_ne2, zrow_n1, zx0, zx1, zx2, zx3, zf_0_13, zf_0_14, zf_0_15, zf_1_3, zf_15_0, zf_16_0, zf_17_10, zf_86_3, zf_90_6, zf_90_7, zf_94_7, zf_100_6, zf_100_7, zf_118_0, zf_118_1, zf_118_2, zf_118_3, zg_119_0, zg_119_5, zg_119_9, zg_119_15, zg_119_19, zg_119_22, zg_119_1, zg_119_16, zg_120_0, zg_120_1, zg_120_2, zg_120_3, zg_121_0, zg_122_0, zg_124_0, zg_126_0, zg_127_0, zg_128_0, zg_129_0, zg_131_0, zg_131_1, zg_131_2, zg_131_3, Nat.reduceAdd, Nat.reduceMul, Int32.reduceAdd, Int32.reduceSub, Int32.reduceMul]
         first
         | refine ⟨vp_inb rfl, ?_⟩
         | refine ⟨fun h => absurd h (of_decide_eq_false rfl), fun _ => ?_⟩
         | refine ⟨fun _ => ?_, fun h => absurd (of_decide_eq_true rfl) h⟩
         | refine ⟨fun _ => ?_, fun h => absurd h (of_decide_eq_false rfl)⟩
         | refine ⟨fun h => absurd (of_decide_eq_true rfl) h, fun _ => ?_⟩
         | refine ⟨of_decide_eq_true rfl, ?_⟩
         | refine ⟨rfl, ?_⟩)
      | (conv => whnf
         fail_if_success refine Exists.intro ?_ ?_
         simp only [h1, h2, h3, h4]))
    try (conv => whnf)
    refine ⟨(μ2, ()), rfl, rfl, ⟨h1, trivial⟩, ?_⟩
    try dsimp only
    repeat (first
      | (conv => whnf
         try dsimp only
         try simp (decide := true) only [h1, h2, h3, h4, zu_same, zu_ne1, zu_ne2, zuL_same, zuL_ne1, zuL_ne2, zrow_n1, zx0, zx1, zx2, zx3, zf_0_13, zf_0_14, zf_0_15, zf_1_3, zf_15_0, zf_16_0, zf_17_10, zf_86_3, zf_90_6, zf_90_7, zf_94_7, zf_100_6, zf_100_7, zf_118_0, zf_118_1, zf_118_2, zf_118_3, zg_119_0, zg_119_5, zg_119_9, zg_119_15, zg_119_19, zg_119_22, zg_119_1, zg_119_16, zg_120_0, zg_120_1, zg_120_2, zg_120_3, zg_121_0, zg_122_0, zg_124_0, zg_126_0, zg_127_0, zg_128_0, zg_129_0, zg_131_0, zg_131_1, zg_131_2, zg_131_3, Nat.reduceAdd, Nat.reduceMul, Int32.reduceAdd, Int32.reduceSub, Int32.reduceMul]
         first
         | refine ⟨vp_inb rfl, ?_⟩
         | refine ⟨fun h => absurd h (of_decide_eq_false rfl), fun _ => ?_⟩
         | refine ⟨fun _ => ?_, fun h => absurd (of_decide_eq_true rfl) h⟩
         | refine ⟨fun _ => ?_, fun h => absurd h (of_decide_eq_false rfl)⟩
         | refine ⟨fun h => absurd (of_decide_eq_true rfl) h, fun _ => ?_⟩
         | refine ⟨of_decide_eq_true rfl, ?_⟩
         | refine ⟨rfl, ?_⟩)
      | (conv => whnf
         fail_if_success refine Exists.intro ?_ ?_
         simp only [h1, h2, h3, h4]))
    try (conv => whnf)
    refine hZ _ _ _ _ _ ?_
    refine hS 40 _ _ _ _ _ ?_
    repeat (conv => whnf
            try dsimp only
            try simp (decide := true) only [zu_same, zu_ne1, zu_ne2, zuL_same, zuL_ne1, zuL_ne2, zrow_n1, zx0, zx1, zx2, zx3, zf_0_13, zf_0_14, zf_0_15, zf_1_3, zf_15_0, zf_16_0, zf_17_10, zf_86_3, zf_90_6, zf_90_7, zf_94_7, zf_100_6, zf_100_7, zf_118_0, zf_118_1, zf_118_2, zf_118_3, zg_119_0, zg_119_5, zg_119_9, zg_119_15, zg_119_19, zg_119_22, zg_119_1, zg_119_16, zg_120_0, zg_120_1, zg_120_2, zg_120_3, zg_121_0, zg_122_0, zg_124_0, zg_126_0, zg_127_0, zg_128_0, zg_129_0, zg_131_0, zg_131_1, zg_131_2, zg_131_3, Nat.reduceAdd, Nat.reduceMul, Int32.reduceAdd, Int32.reduceSub, Int32.reduceMul]
            first
            | refine ⟨vp_inb rfl, ?_⟩
            | refine ⟨fun h => absurd h (of_decide_eq_false rfl), fun _ => ?_⟩
            | refine ⟨fun _ => ?_, fun h => absurd (of_decide_eq_true rfl) h⟩
            | refine ⟨fun _ => ?_, fun h => absurd h (of_decide_eq_false rfl)⟩
            | refine ⟨fun h => absurd (of_decide_eq_true rfl) h, fun _ => ?_⟩
            | refine ⟨of_decide_eq_true rfl, ?_⟩
            | refine ⟨rfl, ?_⟩)
    try (conv => whnf)
    first | exact rfl | exact ⟨rfl, rfl⟩
set_option maxRecDepth 100000 in
set_option maxHeartbeats 4000000 in
theorem zlc33 {p : Program} {e : Env} {s : State} {m : MethodId} {below : List Frame} {meth : Method} {c : Code} (l : Launch) (hlt : l.stackTraces = false) {b : Nat} {xs : Nat → Int32} {D : va_G} {cA : Nat → ClassId} (F9 : zLf p s m meth c b 7 xs D cA) : zLw p l e s m below meth c b D cA 2137 zl0 [] (234, 11049) (145, zSH, zRH, zs0, zt0) := by
  obtain ⟨F, hml, hNw, hX, -, -, -⟩ := id F9
  have hA : ∀ q : Nat, s.heap.size ≤ q → (fun q => s.heap.size ≤ q) q := fun _ h => h
  have hS := zlaw_step (l := l) (e := e) (below := below) F9 (zCL_law33 [(225, 1, 4, spL_amountOf, rmL_amountOf.cells, rmL_amountOf.slots), (227, 0, 2, spX8_amountOf, rmX8_amountOf.cells, rmX8_amountOf.slots), (113, 0, 0, spX8_thrown, rmX8_thrown.cells, rmX8_thrown.slots)]) (zscr xs) zpL_law33 [2219] zkL_law33 ⟨by decide +kernel, by decide +kernel, by decide +kernel, by decide +kernel⟩ rfl rfl zscr_sc zscr_sl ⟨zco_SW hX hA F hml hNw (zctW_X (ctL_amountOf l hlt D cA)) ⟨⟨zlL_law33_225, zwL_amountOf.1⟩, zwL_amountOf.2⟩ zdL_amountOf ⟨Nat.le_of_ble_eq_true rfl, Nat.le_of_ble_eq_true rfl⟩, zco_V hX hA F hml hNw (zct_X (ctX8_amountOf l D cA)) ⟨⟨zlL_law33_227, zwX8_amountOf.1.1, zwX8_amountOf.1.2⟩, zwX8_amountOf.2⟩ zdX8_amountOf ⟨Nat.le_of_ble_eq_true rfl, Nat.le_of_ble_eq_true rfl⟩ (ci := 8) (by decide) rfl (by rintro av μ K ⟨x, rfl, rfl, -⟩; exact ⟨_, _, rfl, rfl⟩), zco_V hX hA F hml hNw (zct_X (ctX8_thrown l D cA)) ⟨⟨zlL_law33_113, zwX8_thrown.1.1, zwX8_thrown.1.2⟩, zwX8_thrown.2⟩ zdX8_thrown ⟨Nat.le_of_ble_eq_true rfl, Nat.le_of_ble_eq_true rfl⟩ (ci := 8) (by decide) rfl (by rintro av μ K ⟨⟨μ0, x9⟩, rfl, rfl, h9, -⟩; exact ⟨_, _, rfl, congrArg Prod.fst h9.1⟩), trivial⟩
  have hZ := zLw_Z (p := p) (l := l) (e := e) (s := s) (m := m) (below := below) (meth := meth) (c := c) (b := b) (D := D) (cA := cA)
  generalize zLw p l e s m below meth c b D cA = Gl at hS hZ ⊢
  refine hS 400 _ _ _ _ _ ?_
  repeat (conv => whnf
          try dsimp only
          try simp (decide := true) only [zu_same, zu_ne1, zu_ne2, zuL_same, zuL_ne1, zuL_ne2, zrow_n1, zx0, zx1, zx2, zx3, zf_0_13, zf_0_14, zf_0_15, zf_1_3, zf_15_0, zf_16_0, zf_17_10, zf_86_3, zf_90_6, zf_90_7, zf_94_7, zf_100_6, zf_100_7, zf_118_0, zf_118_1, zf_118_2, zf_118_3, zg_119_0, zg_119_5, zg_119_9, zg_119_15, zg_119_19, zg_119_22, zg_119_1, zg_119_16, zg_120_0, zg_120_1, zg_120_2, zg_120_3, zg_121_0, zg_122_0, zg_124_0, zg_126_0, zg_127_0, zg_128_0, zg_129_0, zg_131_0, zg_131_1, zg_131_2, zg_131_3, Nat.reduceAdd, Nat.reduceMul, Int32.reduceAdd, Int32.reduceSub, Int32.reduceMul]
          first
          | refine ⟨vp_inb rfl, ?_⟩
          | refine ⟨fun h => absurd h (of_decide_eq_false rfl), fun _ => ?_⟩
          | refine ⟨fun _ => ?_, fun h => absurd (of_decide_eq_true rfl) h⟩
          | refine ⟨fun _ => ?_, fun h => absurd h (of_decide_eq_false rfl)⟩
          | refine ⟨fun h => absurd (of_decide_eq_true rfl) h, fun _ => ?_⟩
          | refine ⟨of_decide_eq_true rfl, ?_⟩
          | refine ⟨rfl, ?_⟩)
  try (conv => whnf)
  refine ⟨(xs 1, xs 2), rfl, rfl, trivial, ?_⟩
  try dsimp only
  rintro _ _ ⟨rfl, σ1, τ1, rfl⟩
  repeat (conv => whnf
          try dsimp only
          try simp (decide := true) only [zu_same, zu_ne1, zu_ne2, zuL_same, zuL_ne1, zuL_ne2, zrow_n1, zx0, zx1, zx2, zx3, zf_0_13, zf_0_14, zf_0_15, zf_1_3, zf_15_0, zf_16_0, zf_17_10, zf_86_3, zf_90_6, zf_90_7, zf_94_7, zf_100_6, zf_100_7, zf_118_0, zf_118_1, zf_118_2, zf_118_3, zg_119_0, zg_119_5, zg_119_9, zg_119_15, zg_119_19, zg_119_22, zg_119_1, zg_119_16, zg_120_0, zg_120_1, zg_120_2, zg_120_3, zg_121_0, zg_122_0, zg_124_0, zg_126_0, zg_127_0, zg_128_0, zg_129_0, zg_131_0, zg_131_1, zg_131_2, zg_131_3, Nat.reduceAdd, Nat.reduceMul, Int32.reduceAdd, Int32.reduceSub, Int32.reduceMul]
          first
          | refine ⟨vp_inb rfl, ?_⟩
          | refine ⟨fun h => absurd h (of_decide_eq_false rfl), fun _ => ?_⟩
          | refine ⟨fun _ => ?_, fun h => absurd (of_decide_eq_true rfl) h⟩
          | refine ⟨fun _ => ?_, fun h => absurd h (of_decide_eq_false rfl)⟩
          | refine ⟨fun h => absurd (of_decide_eq_true rfl) h, fun _ => ?_⟩
          | refine ⟨of_decide_eq_true rfl, ?_⟩
          | refine ⟨rfl, ?_⟩)
  try (conv => whnf)
  refine ⟨(xs 1, xs 2, σ1, τ1, 0), rfl, rfl, trivial, ?_⟩
  try dsimp only
  rintro _ μ2 ⟨rfl, h1, h2, h3, h4⟩
  repeat (first
    | (conv => whnf
       try dsimp only
       try simp (decide := true) only [h1, h2, h3, h4, zu_same, zu_ne1, zu_ne2, zuL_same, zuL_ne1, zuL_ne2, zrow_n1, zx0, zx1, zx2, zx3, zf_0_13, zf_0_14, zf_0_15, zf_1_3, zf_15_0, zf_16_0, zf_17_10, zf_86_3, zf_90_6, zf_90_7, zf_94_7, zf_100_6, zf_100_7, zf_118_0, zf_118_1, zf_118_2, zf_118_3, zg_119_0, zg_119_5, zg_119_9, zg_119_15, zg_119_19, zg_119_22, zg_119_1, zg_119_16, zg_120_0, zg_120_1, zg_120_2, zg_120_3, zg_121_0, zg_122_0, zg_124_0, zg_126_0, zg_127_0, zg_128_0, zg_129_0, zg_131_0, zg_131_1, zg_131_2, zg_131_3, Nat.reduceAdd, Nat.reduceMul, Int32.reduceAdd, Int32.reduceSub, Int32.reduceMul]
       first
       | refine ⟨vp_inb rfl, ?_⟩
       | refine ⟨fun h => absurd h (of_decide_eq_false rfl), fun _ => ?_⟩
       | refine ⟨fun _ => ?_, fun h => absurd (of_decide_eq_true rfl) h⟩
       | refine ⟨fun _ => ?_, fun h => absurd h (of_decide_eq_false rfl)⟩
       | refine ⟨fun h => absurd (of_decide_eq_true rfl) h, fun _ => ?_⟩
       | refine ⟨of_decide_eq_true rfl, ?_⟩
       | refine ⟨rfl, ?_⟩)
    | (conv => whnf
       fail_if_success refine Exists.intro ?_ ?_
       simp only [h1, h2, h3, h4]))
  try (conv => whnf)
  refine ⟨(μ2, ()), rfl, rfl, ⟨h1, trivial⟩, ?_⟩
  try dsimp only
  repeat (first
    | (conv => whnf
       try dsimp only
       try simp (decide := true) only [h1, h2, h3, h4, zu_same, zu_ne1, zu_ne2, zuL_same, zuL_ne1, zuL_ne2, zrow_n1, zx0, zx1, zx2, zx3, zf_0_13, zf_0_14, zf_0_15, zf_1_3, zf_15_0, zf_16_0, zf_17_10, zf_86_3, zf_90_6, zf_90_7, zf_94_7, zf_100_6, zf_100_7, zf_118_0, zf_118_1, zf_118_2, zf_118_3, zg_119_0, zg_119_5, zg_119_9, zg_119_15, zg_119_19, zg_119_22, zg_119_1, zg_119_16, zg_120_0, zg_120_1, zg_120_2, zg_120_3, zg_121_0, zg_122_0, zg_124_0, zg_126_0, zg_127_0, zg_128_0, zg_129_0, zg_131_0, zg_131_1, zg_131_2, zg_131_3, Nat.reduceAdd, Nat.reduceMul, Int32.reduceAdd, Int32.reduceSub, Int32.reduceMul]
       first
       | refine ⟨vp_inb rfl, ?_⟩
       | refine ⟨fun h => absurd h (of_decide_eq_false rfl), fun _ => ?_⟩
       | refine ⟨fun _ => ?_, fun h => absurd (of_decide_eq_true rfl) h⟩
       | refine ⟨fun _ => ?_, fun h => absurd h (of_decide_eq_false rfl)⟩
       | refine ⟨fun h => absurd (of_decide_eq_true rfl) h, fun _ => ?_⟩
       | refine ⟨of_decide_eq_true rfl, ?_⟩
       | refine ⟨rfl, ?_⟩)
    | (conv => whnf
       fail_if_success refine Exists.intro ?_ ?_
       simp only [h1, h2, h3, h4]))
  try (conv => whnf)
  refine hZ _ _ _ _ _ ?_
  refine hS 40 _ _ _ _ _ ?_
  repeat (conv => whnf
          try dsimp only
          try simp (decide := true) only [zu_same, zu_ne1, zu_ne2, zuL_same, zuL_ne1, zuL_ne2, zrow_n1, zx0, zx1, zx2, zx3, zf_0_13, zf_0_14, zf_0_15, zf_1_3, zf_15_0, zf_16_0, zf_17_10, zf_86_3, zf_90_6, zf_90_7, zf_94_7, zf_100_6, zf_100_7, zf_118_0, zf_118_1, zf_118_2, zf_118_3, zg_119_0, zg_119_5, zg_119_9, zg_119_15, zg_119_19, zg_119_22, zg_119_1, zg_119_16, zg_120_0, zg_120_1, zg_120_2, zg_120_3, zg_121_0, zg_122_0, zg_124_0, zg_126_0, zg_127_0, zg_128_0, zg_129_0, zg_131_0, zg_131_1, zg_131_2, zg_131_3, Nat.reduceAdd, Nat.reduceMul, Int32.reduceAdd, Int32.reduceSub, Int32.reduceMul]
          first
          | refine ⟨vp_inb rfl, ?_⟩
          | refine ⟨fun h => absurd h (of_decide_eq_false rfl), fun _ => ?_⟩
          | refine ⟨fun _ => ?_, fun h => absurd (of_decide_eq_true rfl) h⟩
          | refine ⟨fun _ => ?_, fun h => absurd h (of_decide_eq_false rfl)⟩
          | refine ⟨fun h => absurd (of_decide_eq_true rfl) h, fun _ => ?_⟩
          | refine ⟨of_decide_eq_true rfl, ?_⟩
          | refine ⟨rfl, ?_⟩)
  try (conv => whnf)
  first | exact rfl | exact ⟨rfl, rfl⟩
set_option maxRecDepth 100000 in
set_option maxHeartbeats 4000000 in
theorem zlc34 {p : Program} {e : Env} {s : State} {m : MethodId} {below : List Frame} {meth : Method} {c : Code} (l : Launch) (hlt : l.stackTraces = false) {b : Nat} {xs : Nat → Int32} {D : va_G} {cA : Nat → ClassId} (F9 : zLf p s m meth c b 7 xs D cA) : zLw p l e s m below meth c b D cA 2205 zl0 [] (234, 11049) (145, zSH, zRH, zs0, zt0) := by
  obtain ⟨F, hml, hNw, hX, -, -, -⟩ := id F9
  have hA : ∀ q : Nat, s.heap.size ≤ q → (fun q => s.heap.size ≤ q) q := fun _ h => h
  have hS := zlaw_step (l := l) (e := e) (below := below) F9 (zCL_law34 [(228, 0, 0, spX7_digest, rmX7_digest.cells, rmX7_digest.slots), (232, 0, 0, spX8_digest, rmX8_digest.cells, rmX8_digest.slots)]) (zscr xs) zpL_law34 [2219] zkL_law34 ⟨by decide +kernel, by decide +kernel, by decide +kernel, by decide +kernel⟩ rfl rfl zscr_sc zscr_sl ⟨zco_V hX hA F hml hNw (zct_X (ctX7_digest l D cA)) ⟨⟨zlL_law34_228, zwX7_digest.1.1, zwX7_digest.1.2⟩, zwX7_digest.2⟩ zdX7_digest ⟨Nat.le_of_ble_eq_true rfl, Nat.le_of_ble_eq_true rfl⟩ (ci := 7) (by decide) rfl (by rintro av μ K ⟨x, rfl, rfl, -⟩; exact ⟨_, _, rfl, rfl⟩), zco_V hX hA F hml hNw (zct_X (ctX8_digest l D cA)) ⟨⟨zlL_law34_232, zwX8_digest.1.1, zwX8_digest.1.2⟩, zwX8_digest.2⟩ zdX8_digest ⟨Nat.le_of_ble_eq_true rfl, Nat.le_of_ble_eq_true rfl⟩ (ci := 8) (by decide) rfl (by rintro av μ K ⟨x, rfl, rfl, -⟩; exact ⟨_, _, rfl, rfl⟩), trivial⟩
  have hZ := zLw_Z (p := p) (l := l) (e := e) (s := s) (m := m) (below := below) (meth := meth) (c := c) (b := b) (D := D) (cA := cA)
  generalize zLw p l e s m below meth c b D cA = Gl at hS hZ ⊢
  refine hS 400 _ _ _ _ _ ?_
  repeat (conv => whnf
          try dsimp only
          try simp (decide := true) only [zu_same, zu_ne1, zu_ne2, zuL_same, zuL_ne1, zuL_ne2, zrow_n1, zx0, zx1, zx2, zx3, zf_0_13, zf_0_14, zf_0_15, zf_1_3, zf_15_0, zf_16_0, zf_17_10, zf_86_3, zf_90_6, zf_90_7, zf_94_7, zf_100_6, zf_100_7, zf_118_0, zf_118_1, zf_118_2, zf_118_3, zg_119_0, zg_119_5, zg_119_9, zg_119_15, zg_119_19, zg_119_22, zg_119_1, zg_119_16, zg_120_0, zg_120_1, zg_120_2, zg_120_3, zg_121_0, zg_122_0, zg_124_0, zg_126_0, zg_127_0, zg_128_0, zg_129_0, zg_131_0, zg_131_1, zg_131_2, zg_131_3, Nat.reduceAdd, Nat.reduceMul, Int32.reduceAdd, Int32.reduceSub, Int32.reduceMul]
          first
          | refine ⟨vp_inb rfl, ?_⟩
          | refine ⟨fun h => absurd h (of_decide_eq_false rfl), fun _ => ?_⟩
          | refine ⟨fun _ => ?_, fun h => absurd (of_decide_eq_true rfl) h⟩
          | refine ⟨fun _ => ?_, fun h => absurd h (of_decide_eq_false rfl)⟩
          | refine ⟨fun h => absurd (of_decide_eq_true rfl) h, fun _ => ?_⟩
          | refine ⟨of_decide_eq_true rfl, ?_⟩
          | refine ⟨rfl, ?_⟩)
  try (conv => whnf)
  refine ⟨(), rfl, rfl, trivial, ?_⟩
  try dsimp only
  rintro _ _ ⟨rfl, σ1, τ1, rfl⟩
  repeat (conv => whnf
          try dsimp only
          try simp (decide := true) only [zu_same, zu_ne1, zu_ne2, zuL_same, zuL_ne1, zuL_ne2, zrow_n1, zx0, zx1, zx2, zx3, zf_0_13, zf_0_14, zf_0_15, zf_1_3, zf_15_0, zf_16_0, zf_17_10, zf_86_3, zf_90_6, zf_90_7, zf_94_7, zf_100_6, zf_100_7, zf_118_0, zf_118_1, zf_118_2, zf_118_3, zg_119_0, zg_119_5, zg_119_9, zg_119_15, zg_119_19, zg_119_22, zg_119_1, zg_119_16, zg_120_0, zg_120_1, zg_120_2, zg_120_3, zg_121_0, zg_122_0, zg_124_0, zg_126_0, zg_127_0, zg_128_0, zg_129_0, zg_131_0, zg_131_1, zg_131_2, zg_131_3, Nat.reduceAdd, Nat.reduceMul, Int32.reduceAdd, Int32.reduceSub, Int32.reduceMul]
          first
          | refine ⟨vp_inb rfl, ?_⟩
          | refine ⟨fun h => absurd h (of_decide_eq_false rfl), fun _ => ?_⟩
          | refine ⟨fun _ => ?_, fun h => absurd (of_decide_eq_true rfl) h⟩
          | refine ⟨fun _ => ?_, fun h => absurd h (of_decide_eq_false rfl)⟩
          | refine ⟨fun h => absurd (of_decide_eq_true rfl) h, fun _ => ?_⟩
          | refine ⟨of_decide_eq_true rfl, ?_⟩
          | refine ⟨rfl, ?_⟩)
  try (conv => whnf)
  refine ⟨(σ1, τ1, 0), rfl, rfl, trivial, ?_⟩
  try dsimp only
  rintro _ μ2 ⟨rfl, -⟩
  repeat (conv => whnf
          try dsimp only
          try simp (decide := true) only [zu_same, zu_ne1, zu_ne2, zuL_same, zuL_ne1, zuL_ne2, zrow_n1, zx0, zx1, zx2, zx3, zf_0_13, zf_0_14, zf_0_15, zf_1_3, zf_15_0, zf_16_0, zf_17_10, zf_86_3, zf_90_6, zf_90_7, zf_94_7, zf_100_6, zf_100_7, zf_118_0, zf_118_1, zf_118_2, zf_118_3, zg_119_0, zg_119_5, zg_119_9, zg_119_15, zg_119_19, zg_119_22, zg_119_1, zg_119_16, zg_120_0, zg_120_1, zg_120_2, zg_120_3, zg_121_0, zg_122_0, zg_124_0, zg_126_0, zg_127_0, zg_128_0, zg_129_0, zg_131_0, zg_131_1, zg_131_2, zg_131_3, Nat.reduceAdd, Nat.reduceMul, Int32.reduceAdd, Int32.reduceSub, Int32.reduceMul]
          first
          | refine ⟨vp_inb rfl, ?_⟩
          | refine ⟨fun h => absurd h (of_decide_eq_false rfl), fun _ => ?_⟩
          | refine ⟨fun _ => ?_, fun h => absurd (of_decide_eq_true rfl) h⟩
          | refine ⟨fun _ => ?_, fun h => absurd h (of_decide_eq_false rfl)⟩
          | refine ⟨fun h => absurd (of_decide_eq_true rfl) h, fun _ => ?_⟩
          | refine ⟨of_decide_eq_true rfl, ?_⟩
          | refine ⟨rfl, ?_⟩)
  try (conv => whnf)
  refine hZ _ _ _ _ _ ?_
  refine hS 40 _ _ _ _ _ ?_
  repeat (conv => whnf
          try dsimp only
          try simp (decide := true) only [zu_same, zu_ne1, zu_ne2, zuL_same, zuL_ne1, zuL_ne2, zrow_n1, zx0, zx1, zx2, zx3, zf_0_13, zf_0_14, zf_0_15, zf_1_3, zf_15_0, zf_16_0, zf_17_10, zf_86_3, zf_90_6, zf_90_7, zf_94_7, zf_100_6, zf_100_7, zf_118_0, zf_118_1, zf_118_2, zf_118_3, zg_119_0, zg_119_5, zg_119_9, zg_119_15, zg_119_19, zg_119_22, zg_119_1, zg_119_16, zg_120_0, zg_120_1, zg_120_2, zg_120_3, zg_121_0, zg_122_0, zg_124_0, zg_126_0, zg_127_0, zg_128_0, zg_129_0, zg_131_0, zg_131_1, zg_131_2, zg_131_3, Nat.reduceAdd, Nat.reduceMul, Int32.reduceAdd, Int32.reduceSub, Int32.reduceMul]
          first
          | refine ⟨vp_inb rfl, ?_⟩
          | refine ⟨fun h => absurd h (of_decide_eq_false rfl), fun _ => ?_⟩
          | refine ⟨fun _ => ?_, fun h => absurd (of_decide_eq_true rfl) h⟩
          | refine ⟨fun _ => ?_, fun h => absurd h (of_decide_eq_false rfl)⟩
          | refine ⟨fun h => absurd (of_decide_eq_true rfl) h, fun _ => ?_⟩
          | refine ⟨of_decide_eq_true rfl, ?_⟩
          | refine ⟨rfl, ?_⟩)
  try (conv => whnf)
  first | exact rfl | exact ⟨rfl, rfl⟩

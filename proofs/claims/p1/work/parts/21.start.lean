/-! ===== the law from its entry ===== -/
def zst0 : List Nat := [200, 318, 374, 442, 498, 578, 658, 714, 782, 850, 918, 931, 944, 957, 1025, 1038, 1106, 1162, 1175, 1243, 1256, 1312, 1380, 1443, 1499, 1512, 1616, 1696, 1797, 1853, 1957, 2025, 2081, 2137, 2205]
theorem zsw_all {x : Int} {K : Nat → Prop} : ∀ (ts : List Nat) (lo : Int), (∀ t ∈ ts, K t) → zsw x lo ts K
  | [], _, _ => trivial
  | t :: ts, lo, h => ⟨fun _ => h t List.mem_cons_self, zsw_all ts (lo + 1) fun t ht => h t (List.mem_cons_of_mem _ ht)⟩
set_option maxRecDepth 100000 in
set_option maxHeartbeats 4000000 in
theorem zhead (Gl : zK) (hS1 : (∀ f pc ll st κ μ, zrun (zCe (zCL_lawH [(103, 2, 0, spX7_init, rmX7_init.cells, rmX7_init.slots), (106, 2, 0, spX8_init, rmX8_init.cells, rmX8_init.slots)]) []) (room_1.cells, room_1.slots) [4, 28] Gl (fun r _ => r = some (.int 1)) (f + 1) pc ll st κ μ → Gl pc ll st κ μ)) (hE : ∀ pc ll st κ μ μ1, zsame μ μ1 → Gl pc ll st κ μ1 → Gl pc ll st κ μ) (h28 : Gl 28 zl0 [] (234, 11049) (145, zSH, zRH, zs0, zt0)) : Gl 0 (zent 9 [.ref zS]) [] (0, 0) ((0, zSH, zRH, zs0, zt0) : zM) := by
  refine hS1 100 _ _ _ _ _ ?_
  repeat (conv => whnf
          try dsimp only
          try simp (decide := true) only [zu_same, zu_ne1, zu_ne2, zuL_same, zuL_ne1, zuL_ne2, zrow_n1, zx0, zx1, zx2, zx3, zf_0_13, zf_0_14, zf_0_15, zf_1_3, zf_15_0, zf_16_0, zf_17_10, zf_86_3, zf_90_6, zf_90_7, zf_94_7, zf_100_6, zf_100_7, zf_118_0, zf_118_1, zf_118_2, zf_118_3, zg_119_0, zg_119_5, zg_119_9, zg_119_15, zg_119_19, zg_119_22, zg_119_1, zg_119_16, zg_120_0, zg_120_1, zg_120_2, zg_120_3, zg_121_0, zg_122_0, zg_124_0, zg_126_0, zg_127_0, zg_128_0, zg_129_0, zg_131_0, zg_131_1, zg_131_2, zg_131_3, Nat.reduceAdd, Nat.reduceMul, Int32.reduceAdd, Int32.reduceSub, Int32.reduceMul]
          first
          | refine ⟨vp_inb rfl, ?_⟩
          | refine ⟨fun h => absurd h (of_decide_eq_false rfl), fun _ => ?_⟩
          | refine ⟨fun _ => ?_, fun h => absurd (of_decide_eq_true rfl) h⟩
          | refine ⟨fun _ => ?_, fun h => absurd h (of_decide_eq_false rfl)⟩
          | refine ⟨fun h => absurd (of_decide_eq_true rfl) h, fun _ => ?_⟩
          | refine ⟨of_decide_eq_true rfl, ?_⟩
          | refine ⟨rfl, ?_⟩)
  try (conv => whnf)
  refine hE _ _ _ _ _ ((1, zSH, zQ0, zs0, zt0) : zM) ⟨rfl, zAll_of 1 _ ⟨trivial, ⟨rfl, rfl, rfl, rfl⟩⟩, rfl⟩ ?_
  refine hS1 100 _ _ _ _ _ ?_
  repeat (conv => whnf
          try dsimp only
          try simp (decide := true) only [zu_same, zu_ne1, zu_ne2, zuL_same, zuL_ne1, zuL_ne2, zrow_n1, zx0, zx1, zx2, zx3, zf_0_13, zf_0_14, zf_0_15, zf_1_3, zf_15_0, zf_16_0, zf_17_10, zf_86_3, zf_90_6, zf_90_7, zf_94_7, zf_100_6, zf_100_7, zf_118_0, zf_118_1, zf_118_2, zf_118_3, zg_119_0, zg_119_5, zg_119_9, zg_119_15, zg_119_19, zg_119_22, zg_119_1, zg_119_16, zg_120_0, zg_120_1, zg_120_2, zg_120_3, zg_121_0, zg_122_0, zg_124_0, zg_126_0, zg_127_0, zg_128_0, zg_129_0, zg_131_0, zg_131_1, zg_131_2, zg_131_3, Nat.reduceAdd, Nat.reduceMul, Int32.reduceAdd, Int32.reduceSub, Int32.reduceMul]
          first
          | refine ⟨vp_inb rfl, ?_⟩
          | refine ⟨fun h => absurd h (of_decide_eq_false rfl), fun _ => ?_⟩
          | refine ⟨fun _ => ?_, fun h => absurd (of_decide_eq_true rfl) h⟩
          | refine ⟨fun _ => ?_, fun h => absurd h (of_decide_eq_false rfl)⟩
          | refine ⟨fun h => absurd (of_decide_eq_true rfl) h, fun _ => ?_⟩
          | refine ⟨of_decide_eq_true rfl, ?_⟩
          | refine ⟨rfl, ?_⟩)
  try (conv => whnf)
  refine ⟨(), rfl, rfl, trivial, ?_⟩
  try dsimp only
  repeat (conv => whnf
          try dsimp only
          try simp (decide := true) only [zu_same, zu_ne1, zu_ne2, zuL_same, zuL_ne1, zuL_ne2, zrow_n1, zx0, zx1, zx2, zx3, zf_0_13, zf_0_14, zf_0_15, zf_1_3, zf_15_0, zf_16_0, zf_17_10, zf_86_3, zf_90_6, zf_90_7, zf_94_7, zf_100_6, zf_100_7, zf_118_0, zf_118_1, zf_118_2, zf_118_3, zg_119_0, zg_119_5, zg_119_9, zg_119_15, zg_119_19, zg_119_22, zg_119_1, zg_119_16, zg_120_0, zg_120_1, zg_120_2, zg_120_3, zg_121_0, zg_122_0, zg_124_0, zg_126_0, zg_127_0, zg_128_0, zg_129_0, zg_131_0, zg_131_1, zg_131_2, zg_131_3, Nat.reduceAdd, Nat.reduceMul, Int32.reduceAdd, Int32.reduceSub, Int32.reduceMul]
          first
          | refine ⟨vp_inb rfl, ?_⟩
          | refine ⟨fun h => absurd h (of_decide_eq_false rfl), fun _ => ?_⟩
          | refine ⟨fun _ => ?_, fun h => absurd (of_decide_eq_true rfl) h⟩
          | refine ⟨fun _ => ?_, fun h => absurd h (of_decide_eq_false rfl)⟩
          | refine ⟨fun h => absurd (of_decide_eq_true rfl) h, fun _ => ?_⟩
          | refine ⟨of_decide_eq_true rfl, ?_⟩
          | refine ⟨rfl, ?_⟩)
  try (conv => whnf)
  refine ⟨(), rfl, rfl, trivial, ?_⟩
  try dsimp only
  repeat (conv => whnf
          try dsimp only
          try simp (decide := true) only [zu_same, zu_ne1, zu_ne2, zuL_same, zuL_ne1, zuL_ne2, zrow_n1, zx0, zx1, zx2, zx3, zf_0_13, zf_0_14, zf_0_15, zf_1_3, zf_15_0, zf_16_0, zf_17_10, zf_86_3, zf_90_6, zf_90_7, zf_94_7, zf_100_6, zf_100_7, zf_118_0, zf_118_1, zf_118_2, zf_118_3, zg_119_0, zg_119_5, zg_119_9, zg_119_15, zg_119_19, zg_119_22, zg_119_1, zg_119_16, zg_120_0, zg_120_1, zg_120_2, zg_120_3, zg_121_0, zg_122_0, zg_124_0, zg_126_0, zg_127_0, zg_128_0, zg_129_0, zg_131_0, zg_131_1, zg_131_2, zg_131_3, Nat.reduceAdd, Nat.reduceMul, Int32.reduceAdd, Int32.reduceSub, Int32.reduceMul]
          first
          | refine ⟨vp_inb rfl, ?_⟩
          | refine ⟨fun h => absurd h (of_decide_eq_false rfl), fun _ => ?_⟩
          | refine ⟨fun _ => ?_, fun h => absurd (of_decide_eq_true rfl) h⟩
          | refine ⟨fun _ => ?_, fun h => absurd h (of_decide_eq_false rfl)⟩
          | refine ⟨fun h => absurd (of_decide_eq_true rfl) h, fun _ => ?_⟩
          | refine ⟨of_decide_eq_true rfl, ?_⟩
          | refine ⟨rfl, ?_⟩)
  try (conv => whnf)
  refine hE _ _ _ _ _ (145, zSH, zRH, zs0, zt0) ⟨rfl, zAll_of 145 _ ?_, rfl⟩ ?_
  · skip
    repeat (first
    | exact True.intro
    | refine And.intro ?_ (by first
        | exact ⟨rfl, rfl, rfl, rfl⟩
        | exact ⟨rfl, by first | rfl | exact zfe 64 (by decide +kernel) (fun _ => rfl), by first | rfl | exact zfe 64 (by decide +kernel) (fun _ => rfl), rfl⟩))
  exact h28
set_option maxRecDepth 100000 in
set_option maxHeartbeats 4000000 in
theorem zloop7 (Gl : zK) {xs : Nat → Int32} (hS2 : (∀ f pc ll st κ μ, zrun (zCe (zCL_lawH [(103, 2, 0, spX7_init, rmX7_init.cells, rmX7_init.slots), (106, 2, 0, spX8_init, rmX8_init.cells, rmX8_init.slots)]) (zscr xs)) (room_1.cells, room_1.slots) zst0 Gl (fun r _ => r = some (.int 1)) (f + 1) pc ll st κ μ → Gl pc ll st κ μ)) (hC : ∀ t ∈ zst0, Gl t zl0 [] (234, 11049) (145, zSH, zRH, zs0, zt0)) : Gl 28 zl0 [] (234, 11049) (145, zSH, zRH, zs0, zt0) := by
  refine hS2 100 _ _ _ _ _ ?_
  repeat (conv => whnf
          try dsimp only
          try simp (decide := true) only [zu_same, zu_ne1, zu_ne2, zuL_same, zuL_ne1, zuL_ne2, zrow_n1, zx0, zx1, zx2, zx3, zf_0_13, zf_0_14, zf_0_15, zf_1_3, zf_15_0, zf_16_0, zf_17_10, zf_86_3, zf_90_6, zf_90_7, zf_94_7, zf_100_6, zf_100_7, zf_118_0, zf_118_1, zf_118_2, zf_118_3, zg_119_0, zg_119_5, zg_119_9, zg_119_15, zg_119_19, zg_119_22, zg_119_1, zg_119_16, zg_120_0, zg_120_1, zg_120_2, zg_120_3, zg_121_0, zg_122_0, zg_124_0, zg_126_0, zg_127_0, zg_128_0, zg_129_0, zg_131_0, zg_131_1, zg_131_2, zg_131_3, Nat.reduceAdd, Nat.reduceMul, Int32.reduceAdd, Int32.reduceSub, Int32.reduceMul]
          first
          | refine ⟨vp_inb rfl, ?_⟩
          | refine ⟨fun h => absurd h (of_decide_eq_false rfl), fun _ => ?_⟩
          | refine ⟨fun _ => ?_, fun h => absurd (of_decide_eq_true rfl) h⟩
          | refine ⟨fun _ => ?_, fun h => absurd h (of_decide_eq_false rfl)⟩
          | refine ⟨fun h => absurd (of_decide_eq_true rfl) h, fun _ => ?_⟩
          | refine ⟨of_decide_eq_true rfl, ?_⟩
          | refine ⟨rfl, ?_⟩)
  try (conv => whnf)
  refine ⟨fun _ => ?_, zsw_all _ _ ?_⟩
  · skip
    repeat (conv => whnf
            try dsimp only
            try simp (decide := true) only [zu_same, zu_ne1, zu_ne2, zuL_same, zuL_ne1, zuL_ne2, zrow_n1, zx0, zx1, zx2, zx3, zf_0_13, zf_0_14, zf_0_15, zf_1_3, zf_15_0, zf_16_0, zf_17_10, zf_86_3, zf_90_6, zf_90_7, zf_94_7, zf_100_6, zf_100_7, zf_118_0, zf_118_1, zf_118_2, zf_118_3, zg_119_0, zg_119_5, zg_119_9, zg_119_15, zg_119_19, zg_119_22, zg_119_1, zg_119_16, zg_120_0, zg_120_1, zg_120_2, zg_120_3, zg_121_0, zg_122_0, zg_124_0, zg_126_0, zg_127_0, zg_128_0, zg_129_0, zg_131_0, zg_131_1, zg_131_2, zg_131_3, Nat.reduceAdd, Nat.reduceMul, Int32.reduceAdd, Int32.reduceSub, Int32.reduceMul]
            first
            | refine ⟨vp_inb rfl, ?_⟩
            | refine ⟨fun h => absurd h (of_decide_eq_false rfl), fun _ => ?_⟩
            | refine ⟨fun _ => ?_, fun h => absurd (of_decide_eq_true rfl) h⟩
            | refine ⟨fun _ => ?_, fun h => absurd h (of_decide_eq_false rfl)⟩
            | refine ⟨fun h => absurd (of_decide_eq_true rfl) h, fun _ => ?_⟩
            | refine ⟨of_decide_eq_true rfl, ?_⟩
            | refine ⟨rfl, ?_⟩)
    try (conv => whnf)
    first | exact rfl | exact ⟨rfl, rfl⟩
  · intro t ht
    have ht1 : t ∈ zst0 := ht
    simp only [List.mem_cons, List.not_mem_nil, or_false] at ht
    rcases ht with rfl | rfl | rfl | rfl | rfl | rfl | rfl | rfl | rfl | rfl | rfl | rfl | rfl | rfl | rfl | rfl | rfl | rfl | rfl | rfl | rfl | rfl | rfl | rfl | rfl | rfl | rfl | rfl | rfl | rfl | rfl | rfl | rfl | rfl | rfl
    all_goals
      conv => whnf
      exact hC _ ht1
set_option maxRecDepth 100000 in
set_option maxHeartbeats 4000000 in
theorem zloopL (Gl : zK) {L : Nat} (hL : L < 7) (hS2 : (∀ f pc ll st κ μ, zrun (zCe (zCL_lawH [(103, 2, 0, spX7_init, rmX7_init.cells, rmX7_init.slots), (106, 2, 0, spX8_init, rmX8_init.cells, rmX8_init.slots)]) [(299999, Int32.ofNat L)]) (room_1.cells, room_1.slots) zst0 Gl (fun r _ => r = some (.int 1)) (f + 1) pc ll st κ μ → Gl pc ll st κ μ)) : Gl 28 zl0 [] (234, 11049) (145, zSH, zRH, zs0, zt0) := by
  rcases (show L = 0 ∨ L = 1 ∨ L = 2 ∨ L = 3 ∨ L = 4 ∨ L = 5 ∨ L = 6 by omega) with rfl | rfl | rfl | rfl | rfl | rfl | rfl
  all_goals
    refine hS2 100 _ _ _ _ _ ?_
    repeat (conv => whnf
            try dsimp only
            try simp (decide := true) only [zu_same, zu_ne1, zu_ne2, zuL_same, zuL_ne1, zuL_ne2, zrow_n1, zx0, zx1, zx2, zx3, zf_0_13, zf_0_14, zf_0_15, zf_1_3, zf_15_0, zf_16_0, zf_17_10, zf_86_3, zf_90_6, zf_90_7, zf_94_7, zf_100_6, zf_100_7, zf_118_0, zf_118_1, zf_118_2, zf_118_3, zg_119_0, zg_119_5, zg_119_9, zg_119_15, zg_119_19, zg_119_22, zg_119_1, zg_119_16, zg_120_0, zg_120_1, zg_120_2, zg_120_3, zg_121_0, zg_122_0, zg_124_0, zg_126_0, zg_127_0, zg_128_0, zg_129_0, zg_131_0, zg_131_1, zg_131_2, zg_131_3, Nat.reduceAdd, Nat.reduceMul, Int32.reduceAdd, Int32.reduceSub, Int32.reduceMul]
            first
            | refine ⟨vp_inb rfl, ?_⟩
            | refine ⟨fun h => absurd h (of_decide_eq_false rfl), fun _ => ?_⟩
            | refine ⟨fun _ => ?_, fun h => absurd (of_decide_eq_true rfl) h⟩
            | refine ⟨fun _ => ?_, fun h => absurd h (of_decide_eq_false rfl)⟩
            | refine ⟨fun h => absurd (of_decide_eq_true rfl) h, fun _ => ?_⟩
            | refine ⟨of_decide_eq_true rfl, ?_⟩
            | refine ⟨rfl, ?_⟩)
    try (conv => whnf)
    first | exact rfl | exact ⟨rfl, rfl⟩
theorem zcases {p : Program} {e : Env} {s : State} {m : MethodId} {below : List Frame} {meth : Method} {c : Code} (l : Launch) (hlt : l.stackTraces = false) {b : Nat} {xs : Nat → Int32} {D : va_G} {cA : Nat → ClassId} (F9 : zLf p s m meth c b 7 xs D cA) : ∀ t ∈ zst0, zLw p l e s m below meth c b D cA t zl0 [] (234, 11049) (145, zSH, zRH, zs0, zt0) := by
  intro t ht
  simp only [zst0, List.mem_cons, List.not_mem_nil, or_false] at ht
  rcases ht with rfl | rfl | rfl | rfl | rfl | rfl | rfl | rfl | rfl | rfl | rfl | rfl | rfl | rfl | rfl | rfl | rfl | rfl | rfl | rfl | rfl | rfl | rfl | rfl | rfl | rfl | rfl | rfl | rfl | rfl | rfl | rfl | rfl | rfl | rfl
  · exact zlc0 l hlt F9
  · exact zlc1 l hlt F9
  · exact zlc2 l hlt F9
  · exact zlc3 l hlt F9
  · exact zlc4 l hlt F9
  · exact zlc5 l hlt F9
  · exact zlc6 l hlt F9
  · exact zlc7 l hlt F9
  · exact zlc8 l hlt F9
  · exact zlc9 l hlt F9
  · exact zlc10 l hlt F9
  · exact zlc11 l hlt F9
  · exact zlc12 l hlt F9
  · exact zlc13 l hlt F9
  · exact zlc14 l hlt F9
  · exact zlc15 l hlt F9
  · exact zlc16 l hlt F9
  · exact zlc17 l hlt F9
  · exact zlc18 l hlt F9
  · exact zlc19 l hlt F9
  · exact zlc20 l hlt F9
  · exact zlc21 l hlt F9
  · exact zlc22 l hlt F9
  · exact zlc23 l hlt F9
  · exact zlc24 l hlt F9
  · exact zlc25 l hlt F9
  · exact zlc26 l hlt F9
  · exact zlc27 l hlt F9
  · exact zlc28 l hlt F9
  · exact zlc29 l hlt F9
  · exact zlc30 l hlt F9
  · exact zlc31 l hlt F9
  · exact zlc32 l hlt F9
  · exact zlc33 l hlt F9
  · exact zlc34 l hlt F9
/-- from the entry, for every script of at most 7 ints, the law comes to its end with true -/
theorem whole_start {p : Program} {e : Env} {s : State} {m : MethodId} {below : List Frame} {meth : Method} {c : Code} (l : Launch) (hflags : l.flags = flags0) {b L : Nat} {xs : Nat → Int32} (hL : L ≤ 7) (C0 : lw_At p s m meth c b L xs) : W p l e room_1 s m #[Value.ref b] below meth c s.heap [] 0 0 (lw_Z below #[Value.ref b] s) (entryFrame m ([Value.ref b] : List Value).toArray 9) := by
  have hlt : l.stackTraces = false := by
    unfold Launch.stackTraces
    rw [hflags]
    decide
  obtain ⟨D, cA, F9⟩ := zLf_of hL C0
  obtain ⟨F, hml, hNw, hX, -, -, -⟩ := id F9
  have hA : ∀ q : Nat, s.heap.size ≤ q → (fun q => s.heap.size ≤ q) q := fun _ h => h
  have hcalls : zCalls (zLw p l e s m below meth c b D cA) (zLX p l e s m below meth c b D cA) room_1 code (zCL_lawH [(103, 2, 0, spX7_init, rmX7_init.cells, rmX7_init.slots), (106, 2, 0, spX8_init, rmX8_init.cells, rmX8_init.slots)]).2.2.2.2.1 :=
    ⟨zco_I hX hA F hml hNw (zct_X (ctX7_init l D cA)) ⟨⟨zlL_lawH_103, zwX7_init.1.1, zwX7_init.1.2⟩, zwX7_init.2⟩ zdX7_init ⟨Nat.le_of_ble_eq_true rfl, Nat.le_of_ble_eq_true rfl⟩ (by rintro av μ K ⟨x, rfl, rfl, -⟩; exact ⟨_, _, rfl⟩),
     zco_I hX hA F hml hNw (zct_X (ctX8_init l D cA)) ⟨⟨zlL_lawH_106, zwX8_init.1.1, zwX8_init.1.2⟩, zwX8_init.2⟩ zdX8_init ⟨Nat.le_of_ble_eq_true rfl, Nat.le_of_ble_eq_true rfl⟩ (by rintro av μ K ⟨x, rfl, rfl, -⟩; exact ⟨_, _, rfl⟩), trivial⟩
  have hS1 := zlaw_step (l := l) (e := e) (below := below) F9 (zCL_lawH [(103, 2, 0, spX7_init, rmX7_init.cells, rmX7_init.slots), (106, 2, 0, spX8_init, rmX8_init.cells, rmX8_init.slots)]) [] zpL_lawH [4, 28] zkL_lawH ⟨by decide +kernel, by decide +kernel, by decide +kernel, by decide +kernel⟩ rfl rfl (fun j v h => (List.not_mem_nil h).elim) (fun v h => (List.not_mem_nil h).elim) hcalls
  have hE : ∀ pc ll st κ μ μ1, zsame μ μ1 → zLw p l e s m below meth c b D cA pc ll st κ μ1 → zLw p l e s m below meth c b D cA pc ll st κ μ := fun pc ll st κ μ μ1 h k => zG_same h k
  have h28 : zLw p l e s m below meth c b D cA 28 zl0 [] (234, 11049) (145, zSH, zRH, zs0, zt0) := by
    by_cases h7 : L = 7
    · subst h7
      exact zloop7 _ (zlaw_step (l := l) (e := e) (below := below) F9 (zCL_lawH [(103, 2, 0, spX7_init, rmX7_init.cells, rmX7_init.slots), (106, 2, 0, spX8_init, rmX8_init.cells, rmX8_init.slots)]) (zscr xs) zpL_lawH zst0 zkL_lawH ⟨by decide +kernel, by decide +kernel, by decide +kernel, by decide +kernel⟩ rfl rfl zscr_sc zscr_sl hcalls) (zcases l hlt F9)
    · exact zloopL _ (L := L) (by omega) (zlaw_step (l := l) (e := e) (below := below) F9 (zCL_lawH [(103, 2, 0, spX7_init, rmX7_init.cells, rmX7_init.slots), (106, 2, 0, spX8_init, rmX8_init.cells, rmX8_init.slots)]) [(299999, Int32.ofNat L)] zpL_lawH zst0 zkL_lawH ⟨by decide +kernel, by decide +kernel, by decide +kernel, by decide +kernel⟩ rfl rfl (fun j v h => by
        simp only [List.mem_cons, List.not_mem_nil, or_false, Prod.mk.injEq] at h
        omega) (fun v h => by
        simp only [List.mem_cons, List.not_mem_nil, or_false, Prod.mk.injEq] at h
        exact h.2.symm) hcalls)
  have key := zhead _ hS1 hE h28
  rw [lg_entry_eq]
  have hl := lv_entry ([.ref b]) (n := 9) (Nat.le_of_ble_eq_true rfl)
  exact key (fun _ => b) s.heap [] _ ⟨fun _ _ => rfl, rfl, Nat.le_refl _, rfl, Nat.le_of_ble_eq_true rfl⟩ (Nat.le_refl _) ⟨fun v hv => (List.not_mem_nil hv).elim, fun i v hv => (by
    have h9 := zent_mem [.ref zS] 9 i v hv
    simp only [List.mem_cons, List.not_mem_nil, or_false] at h9
    subst h9
    exact Or.inr rfl), fun r j b hr => absurd hr (Nat.not_lt_zero r)⟩ ⟨Nat.zero_le _, Nat.zero_le _⟩ (fun k q h => by simp [zw] at h) ⟨fun i j p q h => by simp [zw] at h, fun k q h => by simp [zw] at h⟩ va_S.rf ⟨hl.1, hl.2.1, fun i v hv => hl.2.2 _ (by have := zent_ok (fun _ => b) [.ref zS] 9 i 0 v hv; rwa [Nat.zero_add] at this)⟩

/-! ===== units, variables, formulas, settings ===== -/
def spX7_unit : zSp := zDQ (X := zIn × zLo × Nat × Nat × Nat × Int32 × Int32 × Int32 × Int32 × Int32 × Int32) (fun x => match x with | (σ, τ, n, pc, un, a, b, c, d, p, q) => [.ref 0, .int a, .int b, .int c, .int d, .int p, .int q]) (fun x => match x with | (σ, τ, n, pc, un, a, b, c, d, p, q) => (119, zSH, zRH, σ, τ)) (fun x => match x with | (σ, τ, n, pc, un, a, b, c, d, p, q) => cI σ τ n pc un ∧ un < 12 ∧ (-3 ≤ a ∧ a ≤ 3) ∧ (-3 ≤ b ∧ b ≤ 3) ∧ (-3 ≤ c ∧ c ≤ 3) ∧ (-3 ≤ d ∧ d ≤ 3) ∧ (1 ≤ p ∧ p ≤ 100000) ∧ (1 ≤ q ∧ q ≤ 100000)) (fun x r9 μ9 => match x with | (σ, τ, n, pc, un, a, b, c, d, p, q) => r9 = some (.int (nI un)) ∧ ∃ σ1 : zIn, μ9 = (119, zSH, zRH, σ1, τ) ∧ cI σ1 τ n pc (un + 1) ∧ (∀ r, r ≠ 1 → r < 3 ∨ 16 < r → σ1 r = σ r) ∧ (∀ u, u ≠ un → σ1 15 u = σ 15 u ∧ σ1 16 u = σ 16 u) ∧ σ1 15 un = p ∧ σ1 16 un = q)
abbrev rmX7_unit : Room := ({ frames := 1, cells := 0, slots := 0, locals := 26 } : Room)
set_option maxRecDepth 100000 in
set_option maxHeartbeats 4000000 in
theorem ctX7_unit (l : Launch) (D : va_G) (cA : Nat → ClassId) : zCt false l D cA yX7_unit cX7_unit 7 (some .int) rmX7_unit spX7_unit := by
  refine zct_Q (zCX7_unit [(85, 1, 1, spX7_isUnitExponent, rmX7_isUnitExponent.cells, rmX7_isUnitExponent.slots), (100, 0, 6, spX5_add, rmX5_add.cells, rmX5_add.slots)]) zpX7_unit [] (by decide +kernel) zkX7_unit (Or.inr (by decide +kernel)) trivial ⟨by decide +kernel, by decide +kernel⟩ (fun x ad => Nat.le_of_ble_eq_true rfl) ?_ ?_
  · intro p e s m args below meth c A H0 ad0 n0 Q F hml hNw hA hX
    exact ⟨zco_S hX hA F hml hNw (ctX7_isUnitExponent l D cA) ⟨⟨zlX7_unit_85, zwX7_isUnitExponent.1⟩, zwX7_isUnitExponent.2⟩ zdX7_isUnitExponent ⟨Nat.le_of_ble_eq_true rfl, Nat.le_of_ble_eq_true rfl⟩, zco_V hX hA F hml hNw (ctX5_add l D cA) ⟨⟨zlX7_unit_100, zwX5_add.1.1, zwX5_add.1.2⟩, zwX5_add.2⟩ zdX5_add ⟨Nat.le_of_ble_eq_true rfl, Nat.le_of_ble_eq_true rfl⟩ (ci := 5) (by decide) rfl (by rintro av μ K ⟨x, rfl, rfl, -⟩; exact ⟨_, _, rfl, rfl⟩), trivial⟩
  · rintro ⟨σ, τ, n, pc, un, a, b, c, d, p, q⟩ Ret hP hK Gl hG
    try dsimp only at hP hK
    show Gl 0 (zent 7 [.ref 0, .int a, .int b, .int c, .int d, .int p, .int q]) [] (0, 0) ((119, zSH, zRH, σ, τ))
    obtain ⟨hI, h12, ha, hb, hc, hd, hp, hq⟩ := hP
    have hun := hI.2.2.1.2.1
    refine hG 100 _ _ _ _ _ ?_
    repeat (conv => whnf
            try dsimp only
            try simp (decide := true) only [zu_same, zu_ne1, zu_ne2, zu_row, zuL_same, zuL_ne1, zuL_ne2, zrow_n1, zx0, zx1, zx2, zx3, nI_1, Nat.reduceAdd, Nat.reduceMul, Int32.reduceAdd, Int32.reduceSub, Int32.reduceMul]
            first
            | refine ⟨vp_inb (by decide), ?_⟩
            | refine ⟨by with_reducible exact zi (by omega), ?_⟩
            | refine ⟨fun h => absurd h (by with_reducible exact nI_ge (by omega) (by omega)), fun _ => ?_⟩
            | refine ⟨fun _ => ?_, fun h => absurd (by with_reducible exact nI_le (by omega) (by omega)) h⟩
            | refine ⟨fun h => absurd h (by with_reducible exact nI_nlt (by omega) (by omega)), fun _ => ?_⟩
            | refine ⟨fun _ => ?_, fun h => absurd (by with_reducible exact nI_lt (by omega) (by omega)) h⟩
            | refine ⟨fun h => absurd h (by with_reducible exact nI_pos (by omega)), fun _ => ?_⟩
            | refine ⟨fun _ => ?_, fun h => absurd (by with_reducible exact nI_0le (by omega)) h⟩
            | refine ⟨fun h => absurd h (by decide), fun _ => ?_⟩
            | refine ⟨fun _ => ?_, fun h => absurd (by decide) h⟩
            | refine ⟨fun _ => ?_, fun h => absurd h (by decide)⟩
            | refine ⟨fun h => absurd (by decide) h, fun _ => ?_⟩
            | refine ⟨by decide, ?_⟩
            | refine ⟨rfl, ?_⟩)
    try (conv => whnf)
    refine ⟨(a, _), rfl, rfl, trivial, ?_⟩
    try dsimp only [cond_true, cond_false]
    rw [if_pos ha]
    repeat (conv => whnf
            try dsimp only
            try simp (decide := true) only [zu_same, zu_ne1, zu_ne2, zu_row, zuL_same, zuL_ne1, zuL_ne2, zrow_n1, zx0, zx1, zx2, zx3, nI_1, Nat.reduceAdd, Nat.reduceMul, Int32.reduceAdd, Int32.reduceSub, Int32.reduceMul]
            first
            | refine ⟨vp_inb (by decide), ?_⟩
            | refine ⟨by with_reducible exact zi (by omega), ?_⟩
            | refine ⟨fun h => absurd h (by with_reducible exact nI_ge (by omega) (by omega)), fun _ => ?_⟩
            | refine ⟨fun _ => ?_, fun h => absurd (by with_reducible exact nI_le (by omega) (by omega)) h⟩
            | refine ⟨fun h => absurd h (by with_reducible exact nI_nlt (by omega) (by omega)), fun _ => ?_⟩
            | refine ⟨fun _ => ?_, fun h => absurd (by with_reducible exact nI_lt (by omega) (by omega)) h⟩
            | refine ⟨fun h => absurd h (by with_reducible exact nI_pos (by omega)), fun _ => ?_⟩
            | refine ⟨fun _ => ?_, fun h => absurd (by with_reducible exact nI_0le (by omega)) h⟩
            | refine ⟨fun h => absurd h (by decide), fun _ => ?_⟩
            | refine ⟨fun _ => ?_, fun h => absurd (by decide) h⟩
            | refine ⟨fun _ => ?_, fun h => absurd h (by decide)⟩
            | refine ⟨fun h => absurd (by decide) h, fun _ => ?_⟩
            | refine ⟨by decide, ?_⟩
            | refine ⟨rfl, ?_⟩)
    try (conv => whnf)
    refine ⟨(b, _), rfl, rfl, trivial, ?_⟩
    try dsimp only [cond_true, cond_false]
    rw [if_pos hb]
    repeat (conv => whnf
            try dsimp only
            try simp (decide := true) only [zu_same, zu_ne1, zu_ne2, zu_row, zuL_same, zuL_ne1, zuL_ne2, zrow_n1, zx0, zx1, zx2, zx3, nI_1, Nat.reduceAdd, Nat.reduceMul, Int32.reduceAdd, Int32.reduceSub, Int32.reduceMul]
            first
            | refine ⟨vp_inb (by decide), ?_⟩
            | refine ⟨by with_reducible exact zi (by omega), ?_⟩
            | refine ⟨fun h => absurd h (by with_reducible exact nI_ge (by omega) (by omega)), fun _ => ?_⟩
            | refine ⟨fun _ => ?_, fun h => absurd (by with_reducible exact nI_le (by omega) (by omega)) h⟩
            | refine ⟨fun h => absurd h (by with_reducible exact nI_nlt (by omega) (by omega)), fun _ => ?_⟩
            | refine ⟨fun _ => ?_, fun h => absurd (by with_reducible exact nI_lt (by omega) (by omega)) h⟩
            | refine ⟨fun h => absurd h (by with_reducible exact nI_pos (by omega)), fun _ => ?_⟩
            | refine ⟨fun _ => ?_, fun h => absurd (by with_reducible exact nI_0le (by omega)) h⟩
            | refine ⟨fun h => absurd h (by decide), fun _ => ?_⟩
            | refine ⟨fun _ => ?_, fun h => absurd (by decide) h⟩
            | refine ⟨fun _ => ?_, fun h => absurd h (by decide)⟩
            | refine ⟨fun h => absurd (by decide) h, fun _ => ?_⟩
            | refine ⟨by decide, ?_⟩
            | refine ⟨rfl, ?_⟩)
    try (conv => whnf)
    refine ⟨(c, _), rfl, rfl, trivial, ?_⟩
    try dsimp only [cond_true, cond_false]
    rw [if_pos hc]
    repeat (conv => whnf
            try dsimp only
            try simp (decide := true) only [zu_same, zu_ne1, zu_ne2, zu_row, zuL_same, zuL_ne1, zuL_ne2, zrow_n1, zx0, zx1, zx2, zx3, nI_1, Nat.reduceAdd, Nat.reduceMul, Int32.reduceAdd, Int32.reduceSub, Int32.reduceMul]
            first
            | refine ⟨vp_inb (by decide), ?_⟩
            | refine ⟨by with_reducible exact zi (by omega), ?_⟩
            | refine ⟨fun h => absurd h (by with_reducible exact nI_ge (by omega) (by omega)), fun _ => ?_⟩
            | refine ⟨fun _ => ?_, fun h => absurd (by with_reducible exact nI_le (by omega) (by omega)) h⟩
            | refine ⟨fun h => absurd h (by with_reducible exact nI_nlt (by omega) (by omega)), fun _ => ?_⟩
            | refine ⟨fun _ => ?_, fun h => absurd (by with_reducible exact nI_lt (by omega) (by omega)) h⟩
            | refine ⟨fun h => absurd h (by with_reducible exact nI_pos (by omega)), fun _ => ?_⟩
            | refine ⟨fun _ => ?_, fun h => absurd (by with_reducible exact nI_0le (by omega)) h⟩
            | refine ⟨fun h => absurd h (by decide), fun _ => ?_⟩
            | refine ⟨fun _ => ?_, fun h => absurd (by decide) h⟩
            | refine ⟨fun _ => ?_, fun h => absurd h (by decide)⟩
            | refine ⟨fun h => absurd (by decide) h, fun _ => ?_⟩
            | refine ⟨by decide, ?_⟩
            | refine ⟨rfl, ?_⟩)
    try (conv => whnf)
    refine ⟨(d, _), rfl, rfl, trivial, ?_⟩
    try dsimp only [cond_true, cond_false]
    rw [if_pos hd]
    repeat (conv => whnf
            try dsimp only
            try simp (decide := true) only [zu_same, zu_ne1, zu_ne2, zu_row, zuL_same, zuL_ne1, zuL_ne2, zrow_n1, zx0, zx1, zx2, zx3, nI_1, Nat.reduceAdd, Nat.reduceMul, Int32.reduceAdd, Int32.reduceSub, Int32.reduceMul]
            first
            | refine ⟨vp_inb (by decide), ?_⟩
            | refine ⟨by with_reducible exact zi (by omega), ?_⟩
            | refine ⟨fun h => absurd h (by with_reducible exact nI_ge (by omega) (by omega)), fun _ => ?_⟩
            | refine ⟨fun _ => ?_, fun h => absurd (by with_reducible exact nI_le (by omega) (by omega)) h⟩
            | refine ⟨fun h => absurd h (by with_reducible exact nI_nlt (by omega) (by omega)), fun _ => ?_⟩
            | refine ⟨fun _ => ?_, fun h => absurd (by with_reducible exact nI_lt (by omega) (by omega)) h⟩
            | refine ⟨fun h => absurd h (by with_reducible exact nI_pos (by omega)), fun _ => ?_⟩
            | refine ⟨fun _ => ?_, fun h => absurd (by with_reducible exact nI_0le (by omega)) h⟩
            | refine ⟨fun h => absurd h (by decide), fun _ => ?_⟩
            | refine ⟨fun _ => ?_, fun h => absurd (by decide) h⟩
            | refine ⟨fun _ => ?_, fun h => absurd h (by decide)⟩
            | refine ⟨fun h => absurd (by decide) h, fun _ => ?_⟩
            | refine ⟨by decide, ?_⟩
            | refine ⟨rfl, ?_⟩)
    try (conv => whnf)
    refine ⟨fun h => absurd hp.1 (Int32.not_le.mpr h), fun _ => ?_⟩
    repeat (conv => whnf
            try dsimp only
            try simp (decide := true) only [zu_same, zu_ne1, zu_ne2, zu_row, zuL_same, zuL_ne1, zuL_ne2, zrow_n1, zx0, zx1, zx2, zx3, nI_1, Nat.reduceAdd, Nat.reduceMul, Int32.reduceAdd, Int32.reduceSub, Int32.reduceMul]
            first
            | refine ⟨vp_inb (by decide), ?_⟩
            | refine ⟨by with_reducible exact zi (by omega), ?_⟩
            | refine ⟨fun h => absurd h (by with_reducible exact nI_ge (by omega) (by omega)), fun _ => ?_⟩
            | refine ⟨fun _ => ?_, fun h => absurd (by with_reducible exact nI_le (by omega) (by omega)) h⟩
            | refine ⟨fun h => absurd h (by with_reducible exact nI_nlt (by omega) (by omega)), fun _ => ?_⟩
            | refine ⟨fun _ => ?_, fun h => absurd (by with_reducible exact nI_lt (by omega) (by omega)) h⟩
            | refine ⟨fun h => absurd h (by with_reducible exact nI_pos (by omega)), fun _ => ?_⟩
            | refine ⟨fun _ => ?_, fun h => absurd (by with_reducible exact nI_0le (by omega)) h⟩
            | refine ⟨fun h => absurd h (by decide), fun _ => ?_⟩
            | refine ⟨fun _ => ?_, fun h => absurd (by decide) h⟩
            | refine ⟨fun _ => ?_, fun h => absurd h (by decide)⟩
            | refine ⟨fun h => absurd (by decide) h, fun _ => ?_⟩
            | refine ⟨by decide, ?_⟩
            | refine ⟨rfl, ?_⟩)
    try (conv => whnf)
    refine ⟨fun h => absurd hp.2 (Int32.not_le.mpr h), fun _ => ?_⟩
    repeat (conv => whnf
            try dsimp only
            try simp (decide := true) only [zu_same, zu_ne1, zu_ne2, zu_row, zuL_same, zuL_ne1, zuL_ne2, zrow_n1, zx0, zx1, zx2, zx3, nI_1, Nat.reduceAdd, Nat.reduceMul, Int32.reduceAdd, Int32.reduceSub, Int32.reduceMul]
            first
            | refine ⟨vp_inb (by decide), ?_⟩
            | refine ⟨by with_reducible exact zi (by omega), ?_⟩
            | refine ⟨fun h => absurd h (by with_reducible exact nI_ge (by omega) (by omega)), fun _ => ?_⟩
            | refine ⟨fun _ => ?_, fun h => absurd (by with_reducible exact nI_le (by omega) (by omega)) h⟩
            | refine ⟨fun h => absurd h (by with_reducible exact nI_nlt (by omega) (by omega)), fun _ => ?_⟩
            | refine ⟨fun _ => ?_, fun h => absurd (by with_reducible exact nI_lt (by omega) (by omega)) h⟩
            | refine ⟨fun h => absurd h (by with_reducible exact nI_pos (by omega)), fun _ => ?_⟩
            | refine ⟨fun _ => ?_, fun h => absurd (by with_reducible exact nI_0le (by omega)) h⟩
            | refine ⟨fun h => absurd h (by decide), fun _ => ?_⟩
            | refine ⟨fun _ => ?_, fun h => absurd (by decide) h⟩
            | refine ⟨fun _ => ?_, fun h => absurd h (by decide)⟩
            | refine ⟨fun h => absurd (by decide) h, fun _ => ?_⟩
            | refine ⟨by decide, ?_⟩
            | refine ⟨rfl, ?_⟩)
    try (conv => whnf)
    refine ⟨fun h => absurd hq.1 (Int32.not_le.mpr h), fun _ => ?_⟩
    repeat (conv => whnf
            try dsimp only
            try simp (decide := true) only [zu_same, zu_ne1, zu_ne2, zu_row, zuL_same, zuL_ne1, zuL_ne2, zrow_n1, zx0, zx1, zx2, zx3, nI_1, Nat.reduceAdd, Nat.reduceMul, Int32.reduceAdd, Int32.reduceSub, Int32.reduceMul]
            first
            | refine ⟨vp_inb (by decide), ?_⟩
            | refine ⟨by with_reducible exact zi (by omega), ?_⟩
            | refine ⟨fun h => absurd h (by with_reducible exact nI_ge (by omega) (by omega)), fun _ => ?_⟩
            | refine ⟨fun _ => ?_, fun h => absurd (by with_reducible exact nI_le (by omega) (by omega)) h⟩
            | refine ⟨fun h => absurd h (by with_reducible exact nI_nlt (by omega) (by omega)), fun _ => ?_⟩
            | refine ⟨fun _ => ?_, fun h => absurd (by with_reducible exact nI_lt (by omega) (by omega)) h⟩
            | refine ⟨fun h => absurd h (by with_reducible exact nI_pos (by omega)), fun _ => ?_⟩
            | refine ⟨fun _ => ?_, fun h => absurd (by with_reducible exact nI_0le (by omega)) h⟩
            | refine ⟨fun h => absurd h (by decide), fun _ => ?_⟩
            | refine ⟨fun _ => ?_, fun h => absurd (by decide) h⟩
            | refine ⟨fun _ => ?_, fun h => absurd h (by decide)⟩
            | refine ⟨fun h => absurd (by decide) h, fun _ => ?_⟩
            | refine ⟨by decide, ?_⟩
            | refine ⟨rfl, ?_⟩)
    try (conv => whnf)
    refine ⟨fun _ => ?_, fun h => absurd hq.2 h⟩
    repeat (first
      | (conv => whnf
         try dsimp only
         try simp (decide := true) only [hun, nI12, zu_same, zu_ne1, zu_ne2, zu_row, zuL_same, zuL_ne1, zuL_ne2, zrow_n1, zx0, zx1, zx2, zx3, nI_1, Nat.reduceAdd, Nat.reduceMul, Int32.reduceAdd, Int32.reduceSub, Int32.reduceMul]
         first
         | refine ⟨vp_inb (by decide), ?_⟩
         | refine ⟨by with_reducible exact zi (by omega), ?_⟩
         | refine ⟨fun h => absurd h (by with_reducible exact nI_ge (by omega) (by omega)), fun _ => ?_⟩
         | refine ⟨fun _ => ?_, fun h => absurd (by with_reducible exact nI_le (by omega) (by omega)) h⟩
         | refine ⟨fun h => absurd h (by with_reducible exact nI_nlt (by omega) (by omega)), fun _ => ?_⟩
         | refine ⟨fun _ => ?_, fun h => absurd (by with_reducible exact nI_lt (by omega) (by omega)) h⟩
         | refine ⟨fun h => absurd h (by with_reducible exact nI_pos (by omega)), fun _ => ?_⟩
         | refine ⟨fun _ => ?_, fun h => absurd (by with_reducible exact nI_0le (by omega)) h⟩
         | refine ⟨fun h => absurd h (by decide), fun _ => ?_⟩
         | refine ⟨fun _ => ?_, fun h => absurd (by decide) h⟩
         | refine ⟨fun _ => ?_, fun h => absurd h (by decide)⟩
         | refine ⟨fun h => absurd (by decide) h, fun _ => ?_⟩
         | refine ⟨by decide, ?_⟩
         | refine ⟨rfl, ?_⟩)
      | (conv => whnf
         fail_if_success refine Exists.intro ?_ ?_
         simp only [hun, nI12]))
    try (conv => whnf)
    refine ⟨(σ, τ, un, a, b, c, d, p, q), rfl, rfl, ⟨hun, h12⟩, ?_⟩
    try dsimp only [cond_true, cond_false]
    rintro _ _ ⟨rfl, σ1, rfl, f, f1, fu, fp, fq⟩
    repeat (conv => whnf
            try dsimp only
            try simp (decide := true) only [zu_same, zu_ne1, zu_ne2, zu_row, zuL_same, zuL_ne1, zuL_ne2, zrow_n1, zx0, zx1, zx2, zx3, nI_1, Nat.reduceAdd, Nat.reduceMul, Int32.reduceAdd, Int32.reduceSub, Int32.reduceMul]
            first
            | refine ⟨vp_inb (by decide), ?_⟩
            | refine ⟨by with_reducible exact zi (by omega), ?_⟩
            | refine ⟨fun h => absurd h (by with_reducible exact nI_ge (by omega) (by omega)), fun _ => ?_⟩
            | refine ⟨fun _ => ?_, fun h => absurd (by with_reducible exact nI_le (by omega) (by omega)) h⟩
            | refine ⟨fun h => absurd h (by with_reducible exact nI_nlt (by omega) (by omega)), fun _ => ?_⟩
            | refine ⟨fun _ => ?_, fun h => absurd (by with_reducible exact nI_lt (by omega) (by omega)) h⟩
            | refine ⟨fun h => absurd h (by with_reducible exact nI_pos (by omega)), fun _ => ?_⟩
            | refine ⟨fun _ => ?_, fun h => absurd (by with_reducible exact nI_0le (by omega)) h⟩
            | refine ⟨fun h => absurd h (by decide), fun _ => ?_⟩
            | refine ⟨fun _ => ?_, fun h => absurd (by decide) h⟩
            | refine ⟨fun _ => ?_, fun h => absurd h (by decide)⟩
            | refine ⟨fun h => absurd (by decide) h, fun _ => ?_⟩
            | refine ⟨by decide, ?_⟩
            | refine ⟨rfl, ?_⟩)
    try (conv => whnf)
    refine hK _ _ ⟨rfl, σ1, rfl, ?_, f, fu, fp, fq⟩
    obtain ⟨⟨t1, t2, t3, t4, t5, t6⟩, w, cc, vv, uu, kk, pp⟩ := hI
    have hpt : ∀ r, 18 ≤ r → r ≤ 21 → σ1 r = σ r := fun r h1 h2 => f r (by omega) (by omega)
    have h88 := f 88 (by decide) (by decide)
    refine ⟨⟨by rw [f 86 (by decide) (by decide)]; exact t1, t2, t3, ?_, by rw [h88]; exact t5, fun g hg => pIn_cg hpt (t6 g hg)⟩, ?_, ⟨by rw [f 17 (by decide) (by decide)]; exact cc.1, f1, by omega⟩, ?_, ?_, by rw [f 103 (by decide) (by decide)]; exact kk, pp⟩
    · show pNu n pc (zPT σ1, σ1 88, σ1 87, σ1 15, σ1 16, σ1 100 6, σ1 100 7, σ1 90 7)
      rw [zPT_cg hpt, h88, f 100 (by decide) (by decide)]
      exact t4
    · show pWf n pc (σ1 85) (zPT σ1, σ1 88, σ1 87, σ1 15, σ1 16, σ1 100 6, σ1 100 7, σ1 90 7)
      rw [zPT_cg hpt, h88, f 85 (by decide) (by decide)]
      exact w
    · rw [f 87 (by decide) (by decide), f 89 (by decide) (by decide)]
      intro v hv
      obtain ⟨⟨u, h1, h2⟩, h3⟩ := vv v hv
      exact ⟨⟨u, h1, by omega⟩, h3⟩
    · intro u hu
      have e1 := Int32.le_iff_toInt_le.mp hp.1
      have e2 := Int32.le_iff_toInt_le.mp hp.2
      have e3 := Int32.le_iff_toInt_le.mp hq.1
      have e4 := Int32.le_iff_toInt_le.mp hq.2
      by_cases e : u = un
      · rw [e, fp, fq]
        exact ⟨⟨e1, e2⟩, e3, e4⟩
      · rw [(fu u e).1, (fu u e).2]
        exact uu u (by omega)
def spX7_variable : zSp := zDQ (X := zIn × zLo × Nat × Nat × Nat × Nat) (fun x => match x with | (σ, τ, n, pc, un, u) => [.ref 0, .int (nI u)]) (fun x => match x with | (σ, τ, n, pc, un, u) => (119, zSH, zRH, σ, τ)) (fun x => match x with | (σ, τ, n, pc, un, u) => cI σ τ n pc un ∧ n < 16 ∧ u < un) (fun x r9 μ9 => match x with | (σ, τ, n, pc, un, u) => r9 = some (.int (nI n)) ∧ ∃ σ1 : zIn, μ9 = (119, zSH, zRH, σ1, τ) ∧ cI σ1 τ (n + 1) pc un ∧ (σ1 0 13 = 0 ∧ σ1 0 14 = 0 ∧ σ1 0 15 = 0) ∧ (∀ r, r ≠ 0 → r < 86 ∨ 89 < r → σ1 r = σ r) ∧ (∀ v, v ≠ n → σ1 87 v = σ 87 v ∧ σ1 88 v = σ 88 v ∧ σ1 89 v = σ 89 v) ∧ σ1 87 n = nI u ∧ σ1 88 n = -1 ∧ σ1 89 n = 0)
abbrev rmX7_variable : Room := ({ frames := 2, cells := 0, slots := 0, locals := 42 } : Room)
set_option maxRecDepth 100000 in
set_option maxHeartbeats 4000000 in
theorem ctX7_variable (l : Launch) (D : va_G) (cA : Nat → ClassId) : zCt false l D cA yX7_variable cX7_variable 2 (some .int) rmX7_variable spX7_variable := by
  refine zct_Q (zCX7_variable [(104, 0, 1, spX7_needUnit, rmX7_needUnit.cells, rmX7_needUnit.slots), (109, 0, 0, spX7_forgetOrder, rmX7_forgetOrder.cells, rmX7_forgetOrder.slots), (112, 0, 1, spX6_add, rmX6_add.cells, rmX6_add.slots)]) zpX7_variable [] (by decide +kernel) zkX7_variable (Or.inr (by decide +kernel)) trivial ⟨by decide +kernel, by decide +kernel⟩ (fun x ad => Nat.le_of_ble_eq_true rfl) ?_ ?_
  · intro p e s m args below meth c A H0 ad0 n0 Q F hml hNw hA hX
    exact ⟨zco_V hX hA F hml hNw (ctX7_needUnit l D cA) ⟨⟨zlX7_variable_104, zwX7_needUnit.1.1, zwX7_needUnit.1.2⟩, zwX7_needUnit.2⟩ zdX7_needUnit ⟨Nat.le_of_ble_eq_true rfl, Nat.le_of_ble_eq_true rfl⟩ (ci := 7) (by decide) rfl (by rintro av μ K ⟨x, rfl, rfl, -⟩; exact ⟨_, _, rfl, rfl⟩), zco_V hX hA F hml hNw (ctX7_forgetOrder l D cA) ⟨⟨zlX7_variable_109, zwX7_forgetOrder.1.1, zwX7_forgetOrder.1.2⟩, zwX7_forgetOrder.2⟩ zdX7_forgetOrder ⟨Nat.le_of_ble_eq_true rfl, Nat.le_of_ble_eq_true rfl⟩ (ci := 7) (by decide) rfl (by rintro av μ K ⟨x, rfl, rfl, -⟩; exact ⟨_, _, rfl, rfl⟩), zco_V hX hA F hml hNw (ctX6_add l D cA) ⟨⟨zlX7_variable_112, zwX6_add.1.1, zwX6_add.1.2⟩, zwX6_add.2⟩ zdX6_add ⟨Nat.le_of_ble_eq_true rfl, Nat.le_of_ble_eq_true rfl⟩ (ci := 6) (by decide) rfl (by rintro av μ K ⟨x, rfl, rfl, -⟩; exact ⟨_, _, rfl, rfl⟩), trivial⟩
  · rintro ⟨σ, τ, n, pc, un, u⟩ Ret hP hK Gl hG
    try dsimp only at hP hK
    show Gl 0 (zent 2 [.ref 0, .int (nI u)]) [] (0, 0) ((119, zSH, zRH, σ, τ))
    obtain ⟨hI, h16, hu⟩ := hP
    have hun := hI.2.2.1.2.1
    have h12 := hI.2.2.1.2.2
    have hn := hI.1.1
    refine hG 100 _ _ _ _ _ ?_
    repeat (conv => whnf
            try dsimp only
            try simp (decide := true) only [zu_same, zu_ne1, zu_ne2, zu_row, zuL_same, zuL_ne1, zuL_ne2, zrow_n1, zx0, zx1, zx2, zx3, nI_1, Nat.reduceAdd, Nat.reduceMul, Int32.reduceAdd, Int32.reduceSub, Int32.reduceMul]
            first
            | refine ⟨vp_inb (by decide), ?_⟩
            | refine ⟨by with_reducible exact zi (by omega), ?_⟩
            | refine ⟨fun h => absurd h (by with_reducible exact nI_ge (by omega) (by omega)), fun _ => ?_⟩
            | refine ⟨fun _ => ?_, fun h => absurd (by with_reducible exact nI_le (by omega) (by omega)) h⟩
            | refine ⟨fun h => absurd h (by with_reducible exact nI_nlt (by omega) (by omega)), fun _ => ?_⟩
            | refine ⟨fun _ => ?_, fun h => absurd (by with_reducible exact nI_lt (by omega) (by omega)) h⟩
            | refine ⟨fun h => absurd h (by with_reducible exact nI_pos (by omega)), fun _ => ?_⟩
            | refine ⟨fun _ => ?_, fun h => absurd (by with_reducible exact nI_0le (by omega)) h⟩
            | refine ⟨fun h => absurd h (by decide), fun _ => ?_⟩
            | refine ⟨fun _ => ?_, fun h => absurd (by decide) h⟩
            | refine ⟨fun _ => ?_, fun h => absurd h (by decide)⟩
            | refine ⟨fun h => absurd (by decide) h, fun _ => ?_⟩
            | refine ⟨by decide, ?_⟩
            | refine ⟨rfl, ?_⟩)
    try (conv => whnf)
    refine ⟨(σ, τ, un, u), rfl, rfl, ⟨hun, h12, hu⟩, ?_⟩
    try dsimp only [cond_true, cond_false]
    repeat (first
      | (conv => whnf
         try dsimp only
         try simp (decide := true) only [hn, nI16, zu_same, zu_ne1, zu_ne2, zu_row, zuL_same, zuL_ne1, zuL_ne2, zrow_n1, zx0, zx1, zx2, zx3, nI_1, Nat.reduceAdd, Nat.reduceMul, Int32.reduceAdd, Int32.reduceSub, Int32.reduceMul]
         first
         | refine ⟨vp_inb (by decide), ?_⟩
         | refine ⟨by with_reducible exact zi (by omega), ?_⟩
         | refine ⟨fun h => absurd h (by with_reducible exact nI_ge (by omega) (by omega)), fun _ => ?_⟩
         | refine ⟨fun _ => ?_, fun h => absurd (by with_reducible exact nI_le (by omega) (by omega)) h⟩
         | refine ⟨fun h => absurd h (by with_reducible exact nI_nlt (by omega) (by omega)), fun _ => ?_⟩
         | refine ⟨fun _ => ?_, fun h => absurd (by with_reducible exact nI_lt (by omega) (by omega)) h⟩
         | refine ⟨fun h => absurd h (by with_reducible exact nI_pos (by omega)), fun _ => ?_⟩
         | refine ⟨fun _ => ?_, fun h => absurd (by with_reducible exact nI_0le (by omega)) h⟩
         | refine ⟨fun h => absurd h (by decide), fun _ => ?_⟩
         | refine ⟨fun _ => ?_, fun h => absurd (by decide) h⟩
         | refine ⟨fun _ => ?_, fun h => absurd h (by decide)⟩
         | refine ⟨fun h => absurd (by decide) h, fun _ => ?_⟩
         | refine ⟨by decide, ?_⟩
         | refine ⟨rfl, ?_⟩)
      | (conv => whnf
         fail_if_success refine Exists.intro ?_ ?_
         simp only [hn, nI16]))
    try (conv => whnf)
    refine ⟨(σ, τ), rfl, rfl, trivial, ?_⟩
    try dsimp only [cond_true, cond_false]
    repeat (conv => whnf
            try dsimp only
            try simp (decide := true) only [zu_same, zu_ne1, zu_ne2, zu_row, zuL_same, zuL_ne1, zuL_ne2, zrow_n1, zx0, zx1, zx2, zx3, nI_1, Nat.reduceAdd, Nat.reduceMul, Int32.reduceAdd, Int32.reduceSub, Int32.reduceMul]
            first
            | refine ⟨vp_inb (by decide), ?_⟩
            | refine ⟨by with_reducible exact zi (by omega), ?_⟩
            | refine ⟨fun h => absurd h (by with_reducible exact nI_ge (by omega) (by omega)), fun _ => ?_⟩
            | refine ⟨fun _ => ?_, fun h => absurd (by with_reducible exact nI_le (by omega) (by omega)) h⟩
            | refine ⟨fun h => absurd h (by with_reducible exact nI_nlt (by omega) (by omega)), fun _ => ?_⟩
            | refine ⟨fun _ => ?_, fun h => absurd (by with_reducible exact nI_lt (by omega) (by omega)) h⟩
            | refine ⟨fun h => absurd h (by with_reducible exact nI_pos (by omega)), fun _ => ?_⟩
            | refine ⟨fun _ => ?_, fun h => absurd (by with_reducible exact nI_0le (by omega)) h⟩
            | refine ⟨fun h => absurd h (by decide), fun _ => ?_⟩
            | refine ⟨fun _ => ?_, fun h => absurd (by decide) h⟩
            | refine ⟨fun _ => ?_, fun h => absurd h (by decide)⟩
            | refine ⟨fun h => absurd (by decide) h, fun _ => ?_⟩
            | refine ⟨by decide, ?_⟩
            | refine ⟨rfl, ?_⟩)
    try (conv => whnf)
    refine ⟨(zu (zu (zu σ 0 13 0) 0 14 0) 0 15 0, τ, n, nI u), rfl, rfl, ⟨by rw [zu_ne1 (by decide), zu_ne1 (by decide), zu_ne1 (by decide)]; exact hn, h16⟩, ?_⟩
    try dsimp only [cond_true, cond_false]
    generalize hs : zu (zu (zu σ 0 13 0) 0 14 0) 0 15 0 = σ2
    have g : ∀ r, r ≠ 0 → σ2 r = σ r := fun r h => by rw [← hs, zu_row h, zu_row h, zu_row h]
    have g0 : σ2 0 13 = 0 ∧ σ2 0 14 = 0 ∧ σ2 0 15 = 0 := by
      rw [← hs]
      exact ⟨by rw [zu_ne2 (by decide), zu_ne2 (by decide), zu_same], by rw [zu_ne2 (by decide), zu_same], zu_same⟩
    repeat (conv => whnf
            try dsimp only
            try simp (decide := true) only [zu_same, zu_ne1, zu_ne2, zu_row, zuL_same, zuL_ne1, zuL_ne2, zrow_n1, zx0, zx1, zx2, zx3, nI_1, Nat.reduceAdd, Nat.reduceMul, Int32.reduceAdd, Int32.reduceSub, Int32.reduceMul]
            first
            | refine ⟨vp_inb (by decide), ?_⟩
            | refine ⟨by with_reducible exact zi (by omega), ?_⟩
            | refine ⟨fun h => absurd h (by with_reducible exact nI_ge (by omega) (by omega)), fun _ => ?_⟩
            | refine ⟨fun _ => ?_, fun h => absurd (by with_reducible exact nI_le (by omega) (by omega)) h⟩
            | refine ⟨fun h => absurd h (by with_reducible exact nI_nlt (by omega) (by omega)), fun _ => ?_⟩
            | refine ⟨fun _ => ?_, fun h => absurd (by with_reducible exact nI_lt (by omega) (by omega)) h⟩
            | refine ⟨fun h => absurd h (by with_reducible exact nI_pos (by omega)), fun _ => ?_⟩
            | refine ⟨fun _ => ?_, fun h => absurd (by with_reducible exact nI_0le (by omega)) h⟩
            | refine ⟨fun h => absurd h (by decide), fun _ => ?_⟩
            | refine ⟨fun _ => ?_, fun h => absurd (by decide) h⟩
            | refine ⟨fun _ => ?_, fun h => absurd h (by decide)⟩
            | refine ⟨fun h => absurd (by decide) h, fun _ => ?_⟩
            | refine ⟨by decide, ?_⟩
            | refine ⟨rfl, ?_⟩)
    try (conv => whnf)
    generalize hs3 : zu (zu (zu (zu σ2 87 n (nI u)) 88 n (-1)) 89 n 0) 86 3 (nI (n + 1)) = σ1
    have f : ∀ r, r < 86 ∨ 89 < r → σ1 r = σ2 r := fun r h => by rw [← hs3, zu_row (by omega), zu_row (by omega), zu_row (by omega), zu_row (by omega)]
    have fv : ∀ v, v ≠ n → σ1 87 v = σ 87 v ∧ σ1 88 v = σ 88 v ∧ σ1 89 v = σ 89 v := fun v hv => by
      rw [← hs3, ← g 87 (by decide), ← g 88 (by decide), ← g 89 (by decide)]
      refine ⟨?_, ?_, ?_⟩
      · rw [zu_ne1 (by decide), zu_ne1 (by decide), zu_ne1 (by decide), zu_ne2 hv]
      · rw [zu_ne1 (by decide), zu_ne1 (by decide), zu_ne2 hv, zu_ne1 (by decide)]
      · rw [zu_ne1 (by decide), zu_ne2 hv, zu_ne1 (by decide), zu_ne1 (by decide)]
    have f87 : σ1 87 n = nI u := by rw [← hs3, zu_ne1 (by decide), zu_ne1 (by decide), zu_ne1 (by decide), zu_same]
    have f88 : σ1 88 n = -1 := by rw [← hs3, zu_ne1 (by decide), zu_ne1 (by decide), zu_same]
    have f89 : σ1 89 n = 0 := by rw [← hs3, zu_ne1 (by decide), zu_same]
    have f86 : σ1 86 3 = nI (n + 1) := by rw [← hs3, zu_same]
    have ff : ∀ r, r ≠ 0 → r < 86 ∨ 89 < r → σ1 r = σ r := fun r h0 h => (f r h).trans (g r h0)
    refine hK _ _ ⟨rfl, σ1, rfl, ?_, by rw [f 0 (by decide)]; exact g0, ff, fv, f87, f88, f89⟩
    obtain ⟨⟨t1, t2, t3, t4, t5, t6⟩, w, cc, vv, uu, kk, pp⟩ := hI
    have hpt : ∀ r, 18 ≤ r → r ≤ 21 → σ1 r = σ r := fun r h1 h2 => ff r (by omega) (by omega)
    have hng : (-1 : Int32) < 0 := by decide
    have hfo : ∀ v, v < n + 1 → ¬ σ1 88 v < 0 → ∃ g, σ1 88 v = nI g ∧ g < pc := fun v hv hc => by
      by_cases e : v = n
      · rw [e, f88] at hc
        exact absurd hng hc
      · rw [(fv v e).2.1] at hc ⊢
        exact t5 v (by omega) hc
    have hfc : ∀ v, v < n + 1 → ¬ σ1 88 v < 0 → (σ1 88 v).toNatClampNeg < pc := fun v hv hc => by
      obtain ⟨g, h1, h2⟩ := hfo v hv hc
      rw [h1, nI_clamp (by omega)]
      exact h2
    refine ⟨⟨f86, by omega, t3, ⟨?_, ?_, hfc, ?_⟩, hfo, fun g hg => pIn_cg hpt (t6 g hg)⟩, ⟨by omega, ?_, hfc, ?_⟩, ⟨by rw [ff 17 (by decide) (by decide)]; exact cc.1, by rw [ff 1 (by decide) (by decide)]; exact cc.2.1, cc.2.2⟩, ?_, by rw [ff 15 (by decide) (by decide), ff 16 (by decide) (by decide)]; exact uu, by rw [ff 103 (by decide) (by decide)]; exact kk, pp⟩
    · show ∀ k, k < pc → pRef (zPT σ1) k
      rw [zPT_cg hpt]
      exact t4.1
    · show pNm (n + 1) pc (zPT σ1)
      rw [zPT_cg hpt]
      exact fun k hk => ⟨(t4.2.1 k hk).1, fun q => Nat.lt_succ_of_lt ((t4.2.1 k hk).2 q)⟩
    · show 1 ≤ (σ1 100 7).toInt ∧ (σ1 100 7).toInt ≤ 100
      rw [ff 100 (by decide) (by decide)]
      exact t4.2.2.2
    · show ∀ k, k < pc → pLn (zPT σ1) (σ1 85) k
      rw [zPT_cg hpt, ff 85 (by decide) (by decide)]
      exact w.2.1
    · rw [ff 85 (by decide) (by decide)]
      exact fun k hk u hu => Nat.lt_succ_of_lt (w.2.2.2 k hk u hu)
    · intro v hv
      by_cases e : v = n
      · rw [e, f87, f89]
        exact ⟨⟨u, rfl, hu⟩, kp0⟩
      · rw [(fv v e).1, (fv v e).2.2]
        exact vv v (by omega)
def spX7_define : zSp := zDQ (X := zIn × zLo × Nat × Nat × Nat × Nat × Int32) (fun x => match x with | (σ, τ, n, pc, un, v, p) => [.ref 0, .int (nI v), .int p]) (fun x => match x with | (σ, τ, n, pc, un, v, p) => (119, zSH, zRH, σ, τ)) (fun x => match x with | (σ, τ, n, pc, un, v, p) => cI σ τ n pc un ∧ v < n ∧ (p = -1 ∨ ∃ g, p = nI g ∧ g < pc)) (fun x r9 μ9 => match x with | (σ, τ, n, pc, un, v, p) => r9 = some (.int (σ 88 v)) ∧ ∃ σ1 : zIn, μ9 = (119, zSH, zRH, σ1, τ) ∧ cI σ1 τ n pc un ∧ (σ1 0 13 = 0 ∧ σ1 0 14 = 0 ∧ σ1 0 15 = 0) ∧ (∀ r, r ≠ 0 → r ≠ 88 → σ1 r = σ r) ∧ σ1 88 = fun w => if w = v then p else σ 88 w)
abbrev rmX7_define : Room := ({ frames := 2, cells := 0, slots := 0, locals := 42 } : Room)
set_option maxRecDepth 100000 in
set_option maxHeartbeats 4000000 in
theorem ctX7_define (l : Launch) (D : va_G) (cA : Nat → ClassId) : zCt false l D cA yX7_define cX7_define 4 (some .int) rmX7_define spX7_define := by
  refine zct_Q (zCX7_define [(132, 0, 1, spX7_needVariable, rmX7_needVariable.cells, rmX7_needVariable.slots), (138, 0, 1, spX7_needPart, rmX7_needPart.cells, rmX7_needPart.slots), (109, 0, 0, spX7_forgetOrder, rmX7_forgetOrder.cells, rmX7_forgetOrder.slots)]) zpX7_define [15] (by decide +kernel) zkX7_define (Or.inr (by decide +kernel)) trivial ⟨by decide +kernel, by decide +kernel⟩ (fun x ad => Nat.le_of_ble_eq_true rfl) ?_ ?_
  · intro p e s m args below meth c A H0 ad0 n0 Q F hml hNw hA hX
    exact ⟨zco_V hX hA F hml hNw (ctX7_needVariable l D cA) ⟨⟨zlX7_define_132, zwX7_needVariable.1.1, zwX7_needVariable.1.2⟩, zwX7_needVariable.2⟩ zdX7_needVariable ⟨Nat.le_of_ble_eq_true rfl, Nat.le_of_ble_eq_true rfl⟩ (ci := 7) (by decide) rfl (by rintro av μ K ⟨x, rfl, rfl, -⟩; exact ⟨_, _, rfl, rfl⟩), zco_V hX hA F hml hNw (ctX7_needPart l D cA) ⟨⟨zlX7_define_138, zwX7_needPart.1.1, zwX7_needPart.1.2⟩, zwX7_needPart.2⟩ zdX7_needPart ⟨Nat.le_of_ble_eq_true rfl, Nat.le_of_ble_eq_true rfl⟩ (ci := 7) (by decide) rfl (by rintro av μ K ⟨x, rfl, rfl, -⟩; exact ⟨_, _, rfl, rfl⟩), zco_V hX hA F hml hNw (ctX7_forgetOrder l D cA) ⟨⟨zlX7_define_109, zwX7_forgetOrder.1.1, zwX7_forgetOrder.1.2⟩, zwX7_forgetOrder.2⟩ zdX7_forgetOrder ⟨Nat.le_of_ble_eq_true rfl, Nat.le_of_ble_eq_true rfl⟩ (ci := 7) (by decide) rfl (by rintro av μ K ⟨x, rfl, rfl, -⟩; exact ⟨_, _, rfl, rfl⟩), trivial⟩
  · rintro ⟨σ, τ, n, pc, un, v, p⟩ Ret hP hK Gl hG
    try dsimp only at hP hK
    show Gl 0 (zent 4 [.ref 0, .int (nI v), .int p]) [] (0, 0) ((119, zSH, zRH, σ, τ))
    obtain ⟨hI, hv, hp⟩ := hP
    have hn := hI.1.1
    have h16 := hI.1.2.1
    have fin : Gl 15 [some (.ref 0), some (.int (nI v)), some (.int p), none] [] (0, 0) (119, zSH, zRH, σ, τ) := by
      refine hG 100 _ _ _ _ _ ?_
      repeat (first
        | (conv => whnf
           try dsimp only
           try simp (decide := true) only [nI_clamp (show v < 2 ^ 31 by omega), zu_same, zu_ne1, zu_ne2, zu_row, zuL_same, zuL_ne1, zuL_ne2, zrow_n1, zx0, zx1, zx2, zx3, nI_1, Nat.reduceAdd, Nat.reduceMul, Int32.reduceAdd, Int32.reduceSub, Int32.reduceMul]
           first
           | refine ⟨vp_inb (by decide), ?_⟩
           | refine ⟨by with_reducible exact zi (by omega), ?_⟩
           | refine ⟨fun h => absurd h (by with_reducible exact nI_ge (by omega) (by omega)), fun _ => ?_⟩
           | refine ⟨fun _ => ?_, fun h => absurd (by with_reducible exact nI_le (by omega) (by omega)) h⟩
           | refine ⟨fun h => absurd h (by with_reducible exact nI_nlt (by omega) (by omega)), fun _ => ?_⟩
           | refine ⟨fun _ => ?_, fun h => absurd (by with_reducible exact nI_lt (by omega) (by omega)) h⟩
           | refine ⟨fun h => absurd h (by with_reducible exact nI_pos (by omega)), fun _ => ?_⟩
           | refine ⟨fun _ => ?_, fun h => absurd (by with_reducible exact nI_0le (by omega)) h⟩
           | refine ⟨fun h => absurd h (by decide), fun _ => ?_⟩
           | refine ⟨fun _ => ?_, fun h => absurd (by decide) h⟩
           | refine ⟨fun _ => ?_, fun h => absurd h (by decide)⟩
           | refine ⟨fun h => absurd (by decide) h, fun _ => ?_⟩
           | refine ⟨by decide, ?_⟩
           | refine ⟨rfl, ?_⟩)
        | (conv => whnf
           fail_if_success refine Exists.intro ?_ ?_
           simp only [nI_clamp (show v < 2 ^ 31 by omega)]))
      try (conv => whnf)
      refine ⟨(zu σ 88 v p, τ), rfl, rfl, trivial, ?_⟩
      try dsimp only [cond_true, cond_false]
      repeat (first
        | (conv => whnf
           try dsimp only
           try simp (decide := true) only [nI_clamp (show v < 2 ^ 31 by omega), zu_same, zu_ne1, zu_ne2, zu_row, zuL_same, zuL_ne1, zuL_ne2, zrow_n1, zx0, zx1, zx2, zx3, nI_1, Nat.reduceAdd, Nat.reduceMul, Int32.reduceAdd, Int32.reduceSub, Int32.reduceMul]
           first
           | refine ⟨vp_inb (by decide), ?_⟩
           | refine ⟨by with_reducible exact zi (by omega), ?_⟩
           | refine ⟨fun h => absurd h (by with_reducible exact nI_ge (by omega) (by omega)), fun _ => ?_⟩
           | refine ⟨fun _ => ?_, fun h => absurd (by with_reducible exact nI_le (by omega) (by omega)) h⟩
           | refine ⟨fun h => absurd h (by with_reducible exact nI_nlt (by omega) (by omega)), fun _ => ?_⟩
           | refine ⟨fun _ => ?_, fun h => absurd (by with_reducible exact nI_lt (by omega) (by omega)) h⟩
           | refine ⟨fun h => absurd h (by with_reducible exact nI_pos (by omega)), fun _ => ?_⟩
           | refine ⟨fun _ => ?_, fun h => absurd (by with_reducible exact nI_0le (by omega)) h⟩
           | refine ⟨fun h => absurd h (by decide), fun _ => ?_⟩
           | refine ⟨fun _ => ?_, fun h => absurd (by decide) h⟩
           | refine ⟨fun _ => ?_, fun h => absurd h (by decide)⟩
           | refine ⟨fun h => absurd (by decide) h, fun _ => ?_⟩
           | refine ⟨by decide, ?_⟩
           | refine ⟨rfl, ?_⟩)
        | (conv => whnf
           fail_if_success refine Exists.intro ?_ ?_
           simp only [nI_clamp (show v < 2 ^ 31 by omega)]))
      try (conv => whnf)
      generalize hs : zu (zu (zu (zu σ 88 v p) 0 13 0) 0 14 0) 0 15 0 = σ1
      have f : ∀ r, r ≠ 0 → r ≠ 88 → σ1 r = σ r := fun r h0 h => by rw [← hs, zu_row h0, zu_row h0, zu_row h0, zu_row h]
      have f88 : σ1 88 = fun w => if w = v then p else σ 88 w := by rw [← hs, zu_row (by decide), zu_row (by decide), zu_row (by decide), zu_row_eq]
      have g0 : σ1 0 13 = 0 ∧ σ1 0 14 = 0 ∧ σ1 0 15 = 0 := by
        rw [← hs]
        exact ⟨by rw [zu_ne2 (by decide), zu_ne2 (by decide), zu_same], by rw [zu_ne2 (by decide), zu_same], zu_same⟩
      refine hK _ _ ⟨rfl, σ1, rfl, ?_, g0, f, f88⟩
      obtain ⟨⟨t1, t2, t3, t4, t5, t6⟩, w, cc, vv, uu, kk, pp⟩ := hI
      have hpt : ∀ r, 18 ≤ r → r ≤ 21 → σ1 r = σ r := fun r h1 h2 => f r (by omega) (by omega)
      have hfo : ∀ v, v < n → ¬ σ1 88 v < 0 → ∃ g, σ1 88 v = nI g ∧ g < pc := fun w hw hc => by
        rw [f88] at hc ⊢
        dsimp only at hc ⊢
        by_cases e : w = v
        · rw [if_pos e] at hc ⊢
          rcases hp with q | q
          · rw [q] at hc
            exact absurd (by decide) hc
          · exact q
        · rw [if_neg e] at hc ⊢
          exact t5 w hw hc
      have hfc : ∀ v, v < n → ¬ σ1 88 v < 0 → (σ1 88 v).toNatClampNeg < pc := fun v hv hc => by
        obtain ⟨g, h1, h2⟩ := hfo v hv hc
        rw [h1, nI_clamp (by omega)]
        exact h2
      refine ⟨⟨by rw [f 86 (by decide) (by decide)]; exact t1, t2, t3, ⟨?_, ?_, hfc, ?_⟩, hfo, fun g hg => pIn_cg hpt (t6 g hg)⟩, ⟨w.1, ?_, hfc, ?_⟩, ⟨by rw [f 17 (by decide) (by decide)]; exact cc.1, by rw [f 1 (by decide) (by decide)]; exact cc.2.1, cc.2.2⟩, ?_, by rw [f 15 (by decide) (by decide), f 16 (by decide) (by decide)]; exact uu, by rw [f 103 (by decide) (by decide)]; exact kk, pp⟩
      · show ∀ k, k < pc → pRef (zPT σ1) k
        rw [zPT_cg hpt]
        exact t4.1
      · show pNm n pc (zPT σ1)
        rw [zPT_cg hpt]
        exact t4.2.1
      · show 1 ≤ (σ1 100 7).toInt ∧ (σ1 100 7).toInt ≤ 100
        rw [f 100 (by decide) (by decide)]
        exact t4.2.2.2
      · show ∀ k, k < pc → pLn (zPT σ1) (σ1 85) k
        rw [zPT_cg hpt, f 85 (by decide) (by decide)]
        exact w.2.1
      · rw [f 85 (by decide) (by decide)]
        exact w.2.2.2
      · rw [f 87 (by decide) (by decide), f 89 (by decide) (by decide)]
        exact vv
    refine hG 100 _ _ _ _ _ ?_
    repeat (conv => whnf
            try dsimp only
            try simp (decide := true) only [zu_same, zu_ne1, zu_ne2, zu_row, zuL_same, zuL_ne1, zuL_ne2, zrow_n1, zx0, zx1, zx2, zx3, nI_1, Nat.reduceAdd, Nat.reduceMul, Int32.reduceAdd, Int32.reduceSub, Int32.reduceMul]
            first
            | refine ⟨vp_inb (by decide), ?_⟩
            | refine ⟨by with_reducible exact zi (by omega), ?_⟩
            | refine ⟨fun h => absurd h (by with_reducible exact nI_ge (by omega) (by omega)), fun _ => ?_⟩
            | refine ⟨fun _ => ?_, fun h => absurd (by with_reducible exact nI_le (by omega) (by omega)) h⟩
            | refine ⟨fun h => absurd h (by with_reducible exact nI_nlt (by omega) (by omega)), fun _ => ?_⟩
            | refine ⟨fun _ => ?_, fun h => absurd (by with_reducible exact nI_lt (by omega) (by omega)) h⟩
            | refine ⟨fun h => absurd h (by with_reducible exact nI_pos (by omega)), fun _ => ?_⟩
            | refine ⟨fun _ => ?_, fun h => absurd (by with_reducible exact nI_0le (by omega)) h⟩
            | refine ⟨fun h => absurd h (by decide), fun _ => ?_⟩
            | refine ⟨fun _ => ?_, fun h => absurd (by decide) h⟩
            | refine ⟨fun _ => ?_, fun h => absurd h (by decide)⟩
            | refine ⟨fun h => absurd (by decide) h, fun _ => ?_⟩
            | refine ⟨by decide, ?_⟩
            | refine ⟨rfl, ?_⟩)
    try (conv => whnf)
    refine ⟨(σ, τ, n, v), rfl, rfl, ⟨hn, h16, hv⟩, ?_⟩
    try dsimp only [cond_true, cond_false]
    rcases hp with rfl | ⟨g, rfl, hg⟩
    · skip
      repeat (conv => whnf
              try dsimp only
              try simp (decide := true) only [zu_same, zu_ne1, zu_ne2, zu_row, zuL_same, zuL_ne1, zuL_ne2, zrow_n1, zx0, zx1, zx2, zx3, nI_1, Nat.reduceAdd, Nat.reduceMul, Int32.reduceAdd, Int32.reduceSub, Int32.reduceMul]
              first
              | refine ⟨vp_inb (by decide), ?_⟩
              | refine ⟨by with_reducible exact zi (by omega), ?_⟩
              | refine ⟨fun h => absurd h (by with_reducible exact nI_ge (by omega) (by omega)), fun _ => ?_⟩
              | refine ⟨fun _ => ?_, fun h => absurd (by with_reducible exact nI_le (by omega) (by omega)) h⟩
              | refine ⟨fun h => absurd h (by with_reducible exact nI_nlt (by omega) (by omega)), fun _ => ?_⟩
              | refine ⟨fun _ => ?_, fun h => absurd (by with_reducible exact nI_lt (by omega) (by omega)) h⟩
              | refine ⟨fun h => absurd h (by with_reducible exact nI_pos (by omega)), fun _ => ?_⟩
              | refine ⟨fun _ => ?_, fun h => absurd (by with_reducible exact nI_0le (by omega)) h⟩
              | refine ⟨fun h => absurd h (by decide), fun _ => ?_⟩
              | refine ⟨fun _ => ?_, fun h => absurd (by decide) h⟩
              | refine ⟨fun _ => ?_, fun h => absurd h (by decide)⟩
              | refine ⟨fun h => absurd (by decide) h, fun _ => ?_⟩
              | refine ⟨by decide, ?_⟩
              | refine ⟨rfl, ?_⟩)
      try (conv => whnf)
      exact fin
    · skip
      repeat (conv => whnf
              try dsimp only
              try simp (decide := true) only [zu_same, zu_ne1, zu_ne2, zu_row, zuL_same, zuL_ne1, zuL_ne2, zrow_n1, zx0, zx1, zx2, zx3, nI_1, Nat.reduceAdd, Nat.reduceMul, Int32.reduceAdd, Int32.reduceSub, Int32.reduceMul]
              first
              | refine ⟨vp_inb (by decide), ?_⟩
              | refine ⟨by with_reducible exact zi (by omega), ?_⟩
              | refine ⟨fun h => absurd h (by with_reducible exact nI_ge (by omega) (by omega)), fun _ => ?_⟩
              | refine ⟨fun _ => ?_, fun h => absurd (by with_reducible exact nI_le (by omega) (by omega)) h⟩
              | refine ⟨fun h => absurd h (by with_reducible exact nI_nlt (by omega) (by omega)), fun _ => ?_⟩
              | refine ⟨fun _ => ?_, fun h => absurd (by with_reducible exact nI_lt (by omega) (by omega)) h⟩
              | refine ⟨fun h => absurd h (by with_reducible exact nI_pos (by omega)), fun _ => ?_⟩
              | refine ⟨fun _ => ?_, fun h => absurd (by with_reducible exact nI_0le (by omega)) h⟩
              | refine ⟨fun h => absurd h (by decide), fun _ => ?_⟩
              | refine ⟨fun _ => ?_, fun h => absurd (by decide) h⟩
              | refine ⟨fun _ => ?_, fun h => absurd h (by decide)⟩
              | refine ⟨fun h => absurd (by decide) h, fun _ => ?_⟩
              | refine ⟨by decide, ?_⟩
              | refine ⟨rfl, ?_⟩)
      try (conv => whnf)
      refine ⟨fun e => ?_, fun _ => ?_⟩
      · exact absurd (show nI g < 0 by rw [e]; decide) (nI_pos (by have := hI.1.2.2.1; omega))
      · skip
        repeat (conv => whnf
                try dsimp only
                try simp (decide := true) only [zu_same, zu_ne1, zu_ne2, zu_row, zuL_same, zuL_ne1, zuL_ne2, zrow_n1, zx0, zx1, zx2, zx3, nI_1, Nat.reduceAdd, Nat.reduceMul, Int32.reduceAdd, Int32.reduceSub, Int32.reduceMul]
                first
                | refine ⟨vp_inb (by decide), ?_⟩
                | refine ⟨by with_reducible exact zi (by omega), ?_⟩
                | refine ⟨fun h => absurd h (by with_reducible exact nI_ge (by omega) (by omega)), fun _ => ?_⟩
                | refine ⟨fun _ => ?_, fun h => absurd (by with_reducible exact nI_le (by omega) (by omega)) h⟩
                | refine ⟨fun h => absurd h (by with_reducible exact nI_nlt (by omega) (by omega)), fun _ => ?_⟩
                | refine ⟨fun _ => ?_, fun h => absurd (by with_reducible exact nI_lt (by omega) (by omega)) h⟩
                | refine ⟨fun h => absurd h (by with_reducible exact nI_pos (by omega)), fun _ => ?_⟩
                | refine ⟨fun _ => ?_, fun h => absurd (by with_reducible exact nI_0le (by omega)) h⟩
                | refine ⟨fun h => absurd h (by decide), fun _ => ?_⟩
                | refine ⟨fun _ => ?_, fun h => absurd (by decide) h⟩
                | refine ⟨fun _ => ?_, fun h => absurd h (by decide)⟩
                | refine ⟨fun h => absurd (by decide) h, fun _ => ?_⟩
                | refine ⟨by decide, ?_⟩
                | refine ⟨rfl, ?_⟩)
        try (conv => whnf)
        refine ⟨(σ, τ, pc, g), rfl, rfl, ⟨hI.2.2.1.1, hI.1.2.2.1, hg⟩, ?_⟩
        try dsimp only [cond_true, cond_false]
        repeat (conv => whnf
                try dsimp only
                try simp (decide := true) only [zu_same, zu_ne1, zu_ne2, zu_row, zuL_same, zuL_ne1, zuL_ne2, zrow_n1, zx0, zx1, zx2, zx3, nI_1, Nat.reduceAdd, Nat.reduceMul, Int32.reduceAdd, Int32.reduceSub, Int32.reduceMul]
                first
                | refine ⟨vp_inb (by decide), ?_⟩
                | refine ⟨by with_reducible exact zi (by omega), ?_⟩
                | refine ⟨fun h => absurd h (by with_reducible exact nI_ge (by omega) (by omega)), fun _ => ?_⟩
                | refine ⟨fun _ => ?_, fun h => absurd (by with_reducible exact nI_le (by omega) (by omega)) h⟩
                | refine ⟨fun h => absurd h (by with_reducible exact nI_nlt (by omega) (by omega)), fun _ => ?_⟩
                | refine ⟨fun _ => ?_, fun h => absurd (by with_reducible exact nI_lt (by omega) (by omega)) h⟩
                | refine ⟨fun h => absurd h (by with_reducible exact nI_pos (by omega)), fun _ => ?_⟩
                | refine ⟨fun _ => ?_, fun h => absurd (by with_reducible exact nI_0le (by omega)) h⟩
                | refine ⟨fun h => absurd h (by decide), fun _ => ?_⟩
                | refine ⟨fun _ => ?_, fun h => absurd (by decide) h⟩
                | refine ⟨fun _ => ?_, fun h => absurd h (by decide)⟩
                | refine ⟨fun h => absurd (by decide) h, fun _ => ?_⟩
                | refine ⟨by decide, ?_⟩
                | refine ⟨rfl, ?_⟩)
        try (conv => whnf)
        exact fin
def spX7_set : zSp := zDQ (X := zIn × zLo × Nat × Nat × Nat × Nat × Int32) (fun x => match x with | (σ, τ, n, pc, un, v, a) => [.ref 0, .int (nI v), .int a]) (fun x => match x with | (σ, τ, n, pc, un, v, a) => (119, zSH, zRH, σ, τ)) (fun x => match x with | (σ, τ, n, pc, un, v, a) => cI σ τ n pc un ∧ v < n ∧ σ 88 v < 0 ∧ -1000000000 ≤ a ∧ a ≤ 1000000000) (fun x r9 μ9 => match x with | (σ, τ, n, pc, un, v, a) => r9 = some (.int (pWo (σ 15) (σ 16) a (σ 87 v))) ∧ ∃ σ1 : zIn, μ9 = (119, zSH, zRH, σ1, τ) ∧ cI σ1 τ n pc un ∧ (σ1 0 13 = σ 0 13 ∧ σ1 0 14 = 0 ∧ σ1 0 15 = 0) ∧ (∀ r, r ≠ 0 → r ≠ 89 → σ1 r = σ r) ∧ σ1 89 = fun w => if w = v then a else σ 89 w)
abbrev rmX7_set : Room := ({ frames := 2, cells := 0, slots := 0, locals := 43 } : Room)
set_option maxRecDepth 100000 in
set_option maxHeartbeats 4000000 in
theorem ctX7_set (l : Launch) (D : va_G) (cA : Nat → ClassId) : zCt false l D cA yX7_set cX7_set 3 (some .int) rmX7_set spX7_set := by
  refine zct_Q (zCX7_set [(132, 0, 1, spX7_needVariable, rmX7_needVariable.cells, rmX7_needVariable.slots), (115, 0, 1, spX7_needAmount, rmX7_needAmount.cells, rmX7_needAmount.slots), (148, 0, 1, spX7_needInput, rmX7_needInput.cells, rmX7_needInput.slots), (154, 0, 0, spX7_forgetAmounts, rmX7_forgetAmounts.cells, rmX7_forgetAmounts.slots), (121, 0, 2, spX5_withoutUnit, rmX5_withoutUnit.cells, rmX5_withoutUnit.slots)]) zpX7_set [] (by decide +kernel) zkX7_set (Or.inr (by decide +kernel)) trivial ⟨by decide +kernel, by decide +kernel⟩ (fun x ad => Nat.le_of_ble_eq_true rfl) ?_ ?_
  · intro p e s m args below meth c A H0 ad0 n0 Q F hml hNw hA hX
    exact ⟨zco_V hX hA F hml hNw (ctX7_needVariable l D cA) ⟨⟨zlX7_set_132, zwX7_needVariable.1.1, zwX7_needVariable.1.2⟩, zwX7_needVariable.2⟩ zdX7_needVariable ⟨Nat.le_of_ble_eq_true rfl, Nat.le_of_ble_eq_true rfl⟩ (ci := 7) (by decide) rfl (by rintro av μ K ⟨x, rfl, rfl, -⟩; exact ⟨_, _, rfl, rfl⟩), zco_V hX hA F hml hNw (ctX7_needAmount l D cA) ⟨⟨zlX7_set_115, zwX7_needAmount.1.1, zwX7_needAmount.1.2⟩, zwX7_needAmount.2⟩ zdX7_needAmount ⟨Nat.le_of_ble_eq_true rfl, Nat.le_of_ble_eq_true rfl⟩ (ci := 7) (by decide) rfl (by rintro av μ K ⟨x, rfl, rfl, -⟩; exact ⟨_, _, rfl, rfl⟩), zco_V hX hA F hml hNw (ctX7_needInput l D cA) ⟨⟨zlX7_set_148, zwX7_needInput.1.1, zwX7_needInput.1.2⟩, zwX7_needInput.2⟩ zdX7_needInput ⟨Nat.le_of_ble_eq_true rfl, Nat.le_of_ble_eq_true rfl⟩ (ci := 7) (by decide) rfl (by rintro av μ K ⟨x, rfl, rfl, -⟩; exact ⟨_, _, rfl, rfl⟩), zco_V hX hA F hml hNw (ctX7_forgetAmounts l D cA) ⟨⟨zlX7_set_154, zwX7_forgetAmounts.1.1, zwX7_forgetAmounts.1.2⟩, zwX7_forgetAmounts.2⟩ zdX7_forgetAmounts ⟨Nat.le_of_ble_eq_true rfl, Nat.le_of_ble_eq_true rfl⟩ (ci := 7) (by decide) rfl (by rintro av μ K ⟨x, rfl, rfl, -⟩; exact ⟨_, _, rfl, rfl⟩), zco_V hX hA F hml hNw (ctX5_withoutUnit l D cA) ⟨⟨zlX7_set_121, zwX5_withoutUnit.1.1, zwX5_withoutUnit.1.2⟩, zwX5_withoutUnit.2⟩ zdX5_withoutUnit ⟨Nat.le_of_ble_eq_true rfl, Nat.le_of_ble_eq_true rfl⟩ (ci := 5) (by decide) rfl (by rintro av μ K ⟨x, rfl, rfl, -⟩; exact ⟨_, _, rfl, rfl⟩), trivial⟩
  · rintro ⟨σ, τ, n, pc, un, v, a⟩ Ret hP hK Gl hG
    try dsimp only at hP hK
    show Gl 0 (zent 3 [.ref 0, .int (nI v), .int a]) [] (0, 0) ((119, zSH, zRH, σ, τ))
    obtain ⟨hI, hv, hc, ha⟩ := hP
    have hn := hI.1.1
    have h16 := hI.1.2.1
    obtain ⟨u, hu, hu12, hq⟩ := cI_nz hI v hv
    refine hG 100 _ _ _ _ _ ?_
    repeat (conv => whnf
            try dsimp only
            try simp (decide := true) only [zu_same, zu_ne1, zu_ne2, zu_row, zuL_same, zuL_ne1, zuL_ne2, zrow_n1, zx0, zx1, zx2, zx3, nI_1, Nat.reduceAdd, Nat.reduceMul, Int32.reduceAdd, Int32.reduceSub, Int32.reduceMul]
            first
            | refine ⟨vp_inb (by decide), ?_⟩
            | refine ⟨by with_reducible exact zi (by omega), ?_⟩
            | refine ⟨fun h => absurd h (by with_reducible exact nI_ge (by omega) (by omega)), fun _ => ?_⟩
            | refine ⟨fun _ => ?_, fun h => absurd (by with_reducible exact nI_le (by omega) (by omega)) h⟩
            | refine ⟨fun h => absurd h (by with_reducible exact nI_nlt (by omega) (by omega)), fun _ => ?_⟩
            | refine ⟨fun _ => ?_, fun h => absurd (by with_reducible exact nI_lt (by omega) (by omega)) h⟩
            | refine ⟨fun h => absurd h (by with_reducible exact nI_pos (by omega)), fun _ => ?_⟩
            | refine ⟨fun _ => ?_, fun h => absurd (by with_reducible exact nI_0le (by omega)) h⟩
            | refine ⟨fun h => absurd h (by decide), fun _ => ?_⟩
            | refine ⟨fun _ => ?_, fun h => absurd (by decide) h⟩
            | refine ⟨fun _ => ?_, fun h => absurd h (by decide)⟩
            | refine ⟨fun h => absurd (by decide) h, fun _ => ?_⟩
            | refine ⟨by decide, ?_⟩
            | refine ⟨rfl, ?_⟩)
    try (conv => whnf)
    refine ⟨(σ, τ, n, v), rfl, rfl, ⟨hn, h16, hv⟩, ?_⟩
    try dsimp only [cond_true, cond_false]
    repeat (conv => whnf
            try dsimp only
            try simp (decide := true) only [zu_same, zu_ne1, zu_ne2, zu_row, zuL_same, zuL_ne1, zuL_ne2, zrow_n1, zx0, zx1, zx2, zx3, nI_1, Nat.reduceAdd, Nat.reduceMul, Int32.reduceAdd, Int32.reduceSub, Int32.reduceMul]
            first
            | refine ⟨vp_inb (by decide), ?_⟩
            | refine ⟨by with_reducible exact zi (by omega), ?_⟩
            | refine ⟨fun h => absurd h (by with_reducible exact nI_ge (by omega) (by omega)), fun _ => ?_⟩
            | refine ⟨fun _ => ?_, fun h => absurd (by with_reducible exact nI_le (by omega) (by omega)) h⟩
            | refine ⟨fun h => absurd h (by with_reducible exact nI_nlt (by omega) (by omega)), fun _ => ?_⟩
            | refine ⟨fun _ => ?_, fun h => absurd (by with_reducible exact nI_lt (by omega) (by omega)) h⟩
            | refine ⟨fun h => absurd h (by with_reducible exact nI_pos (by omega)), fun _ => ?_⟩
            | refine ⟨fun _ => ?_, fun h => absurd (by with_reducible exact nI_0le (by omega)) h⟩
            | refine ⟨fun h => absurd h (by decide), fun _ => ?_⟩
            | refine ⟨fun _ => ?_, fun h => absurd (by decide) h⟩
            | refine ⟨fun _ => ?_, fun h => absurd h (by decide)⟩
            | refine ⟨fun h => absurd (by decide) h, fun _ => ?_⟩
            | refine ⟨by decide, ?_⟩
            | refine ⟨rfl, ?_⟩)
    try (conv => whnf)
    refine ⟨(σ, τ, a), rfl, rfl, ha, ?_⟩
    try dsimp only [cond_true, cond_false]
    repeat (conv => whnf
            try dsimp only
            try simp (decide := true) only [zu_same, zu_ne1, zu_ne2, zu_row, zuL_same, zuL_ne1, zuL_ne2, zrow_n1, zx0, zx1, zx2, zx3, nI_1, Nat.reduceAdd, Nat.reduceMul, Int32.reduceAdd, Int32.reduceSub, Int32.reduceMul]
            first
            | refine ⟨vp_inb (by decide), ?_⟩
            | refine ⟨by with_reducible exact zi (by omega), ?_⟩
            | refine ⟨fun h => absurd h (by with_reducible exact nI_ge (by omega) (by omega)), fun _ => ?_⟩
            | refine ⟨fun _ => ?_, fun h => absurd (by with_reducible exact nI_le (by omega) (by omega)) h⟩
            | refine ⟨fun h => absurd h (by with_reducible exact nI_nlt (by omega) (by omega)), fun _ => ?_⟩
            | refine ⟨fun _ => ?_, fun h => absurd (by with_reducible exact nI_lt (by omega) (by omega)) h⟩
            | refine ⟨fun h => absurd h (by with_reducible exact nI_pos (by omega)), fun _ => ?_⟩
            | refine ⟨fun _ => ?_, fun h => absurd (by with_reducible exact nI_0le (by omega)) h⟩
            | refine ⟨fun h => absurd h (by decide), fun _ => ?_⟩
            | refine ⟨fun _ => ?_, fun h => absurd (by decide) h⟩
            | refine ⟨fun _ => ?_, fun h => absurd h (by decide)⟩
            | refine ⟨fun h => absurd (by decide) h, fun _ => ?_⟩
            | refine ⟨by decide, ?_⟩
            | refine ⟨rfl, ?_⟩)
    try (conv => whnf)
    refine ⟨(σ, τ, v), rfl, rfl, ⟨by omega, hc⟩, ?_⟩
    try dsimp only [cond_true, cond_false]
    repeat (first
      | (conv => whnf
         try dsimp only
         try simp (decide := true) only [nI_clamp (show v < 2 ^ 31 by omega), zu_same, zu_ne1, zu_ne2, zu_row, zuL_same, zuL_ne1, zuL_ne2, zrow_n1, zx0, zx1, zx2, zx3, nI_1, Nat.reduceAdd, Nat.reduceMul, Int32.reduceAdd, Int32.reduceSub, Int32.reduceMul]
         first
         | refine ⟨vp_inb (by decide), ?_⟩
         | refine ⟨by with_reducible exact zi (by omega), ?_⟩
         | refine ⟨fun h => absurd h (by with_reducible exact nI_ge (by omega) (by omega)), fun _ => ?_⟩
         | refine ⟨fun _ => ?_, fun h => absurd (by with_reducible exact nI_le (by omega) (by omega)) h⟩
         | refine ⟨fun h => absurd h (by with_reducible exact nI_nlt (by omega) (by omega)), fun _ => ?_⟩
         | refine ⟨fun _ => ?_, fun h => absurd (by with_reducible exact nI_lt (by omega) (by omega)) h⟩
         | refine ⟨fun h => absurd h (by with_reducible exact nI_pos (by omega)), fun _ => ?_⟩
         | refine ⟨fun _ => ?_, fun h => absurd (by with_reducible exact nI_0le (by omega)) h⟩
         | refine ⟨fun h => absurd h (by decide), fun _ => ?_⟩
         | refine ⟨fun _ => ?_, fun h => absurd (by decide) h⟩
         | refine ⟨fun _ => ?_, fun h => absurd h (by decide)⟩
         | refine ⟨fun h => absurd (by decide) h, fun _ => ?_⟩
         | refine ⟨by decide, ?_⟩
         | refine ⟨rfl, ?_⟩)
      | (conv => whnf
         fail_if_success refine Exists.intro ?_ ?_
         simp only [nI_clamp (show v < 2 ^ 31 by omega)]))
    try (conv => whnf)
    refine ⟨(zu σ 89 v a, τ), rfl, rfl, trivial, ?_⟩
    try dsimp only [cond_true, cond_false]
    repeat (first
      | (conv => whnf
         try dsimp only
         try simp (decide := true) only [hu, nI_clamp (show v < 2 ^ 31 by omega), zu_same, zu_ne1, zu_ne2, zu_row, zuL_same, zuL_ne1, zuL_ne2, zrow_n1, zx0, zx1, zx2, zx3, nI_1, Nat.reduceAdd, Nat.reduceMul, Int32.reduceAdd, Int32.reduceSub, Int32.reduceMul]
         first
         | refine ⟨vp_inb (by decide), ?_⟩
         | refine ⟨by with_reducible exact zi (by omega), ?_⟩
         | refine ⟨fun h => absurd h (by with_reducible exact nI_ge (by omega) (by omega)), fun _ => ?_⟩
         | refine ⟨fun _ => ?_, fun h => absurd (by with_reducible exact nI_le (by omega) (by omega)) h⟩
         | refine ⟨fun h => absurd h (by with_reducible exact nI_nlt (by omega) (by omega)), fun _ => ?_⟩
         | refine ⟨fun _ => ?_, fun h => absurd (by with_reducible exact nI_lt (by omega) (by omega)) h⟩
         | refine ⟨fun h => absurd h (by with_reducible exact nI_pos (by omega)), fun _ => ?_⟩
         | refine ⟨fun _ => ?_, fun h => absurd (by with_reducible exact nI_0le (by omega)) h⟩
         | refine ⟨fun h => absurd h (by decide), fun _ => ?_⟩
         | refine ⟨fun _ => ?_, fun h => absurd (by decide) h⟩
         | refine ⟨fun _ => ?_, fun h => absurd h (by decide)⟩
         | refine ⟨fun h => absurd (by decide) h, fun _ => ?_⟩
         | refine ⟨by decide, ?_⟩
         | refine ⟨rfl, ?_⟩)
      | (conv => whnf
         fail_if_success refine Exists.intro ?_ ?_
         simp only [hu, nI_clamp (show v < 2 ^ 31 by omega)]))
    try (conv => whnf)
    generalize hs : zu (zu (zu σ 89 v a) 0 14 0) 0 15 0 = σ1
    have f : ∀ r, r ≠ 0 → r ≠ 89 → σ1 r = σ r := fun r h0 h => by rw [← hs, zu_row h0, zu_row h0, zu_row h]
    have f89 : σ1 89 = fun w => if w = v then a else σ 89 w := by rw [← hs, zu_row (by decide), zu_row (by decide), zu_row_eq]
    have g0 : σ1 0 13 = σ 0 13 ∧ σ1 0 14 = 0 ∧ σ1 0 15 = 0 := by
      rw [← hs]
      exact ⟨by rw [zu_ne2 (by decide), zu_ne2 (by decide), zu_ne1 (by decide)], by rw [zu_ne2 (by decide), zu_same], zu_same⟩
    refine ⟨(σ1, τ, a, nI u), rfl, rfl, ⟨zi (by omega), by rw [f 16 (by decide) (by decide), nI_clamp (by omega)]; exact hq⟩, ?_⟩
    try dsimp only [cond_true, cond_false]
    repeat (conv => whnf
            try dsimp only
            try simp (decide := true) only [zu_same, zu_ne1, zu_ne2, zu_row, zuL_same, zuL_ne1, zuL_ne2, zrow_n1, zx0, zx1, zx2, zx3, nI_1, Nat.reduceAdd, Nat.reduceMul, Int32.reduceAdd, Int32.reduceSub, Int32.reduceMul]
            first
            | refine ⟨vp_inb (by decide), ?_⟩
            | refine ⟨by with_reducible exact zi (by omega), ?_⟩
            | refine ⟨fun h => absurd h (by with_reducible exact nI_ge (by omega) (by omega)), fun _ => ?_⟩
            | refine ⟨fun _ => ?_, fun h => absurd (by with_reducible exact nI_le (by omega) (by omega)) h⟩
            | refine ⟨fun h => absurd h (by with_reducible exact nI_nlt (by omega) (by omega)), fun _ => ?_⟩
            | refine ⟨fun _ => ?_, fun h => absurd (by with_reducible exact nI_lt (by omega) (by omega)) h⟩
            | refine ⟨fun h => absurd h (by with_reducible exact nI_pos (by omega)), fun _ => ?_⟩
            | refine ⟨fun _ => ?_, fun h => absurd (by with_reducible exact nI_0le (by omega)) h⟩
            | refine ⟨fun h => absurd h (by decide), fun _ => ?_⟩
            | refine ⟨fun _ => ?_, fun h => absurd (by decide) h⟩
            | refine ⟨fun _ => ?_, fun h => absurd h (by decide)⟩
            | refine ⟨fun h => absurd (by decide) h, fun _ => ?_⟩
            | refine ⟨by decide, ?_⟩
            | refine ⟨rfl, ?_⟩)
    try (conv => whnf)
    refine hK _ _ ⟨?_, σ1, rfl, ?_, g0, f, f89⟩
    · rw [hu]
      unfold fWo
      rw [f 15 (by decide) (by decide), f 16 (by decide) (by decide)]
      rfl
    · obtain ⟨⟨t1, t2, t3, t4, t5, t6⟩, w, cc, vv, uu, kk, pp⟩ := hI
      have hpt : ∀ r, 18 ≤ r → r ≤ 21 → σ1 r = σ r := fun r h1 h2 => f r (by omega) (by omega)
      refine ⟨⟨by rw [f 86 (by decide) (by decide)]; exact t1, t2, t3, ?_, by rw [f 88 (by decide) (by decide)]; exact t5, fun g hg => pIn_cg hpt (t6 g hg)⟩, ?_, ⟨by rw [f 17 (by decide) (by decide)]; exact cc.1, by rw [f 1 (by decide) (by decide)]; exact cc.2.1, cc.2.2⟩, ?_, by rw [f 15 (by decide) (by decide), f 16 (by decide) (by decide)]; exact uu, by rw [f 103 (by decide) (by decide)]; exact kk, pp⟩
      · show pNu n pc (zPT σ1, σ1 88, σ1 87, σ1 15, σ1 16, σ1 100 6, σ1 100 7, σ1 90 7)
        rw [zPT_cg hpt, f 88 (by decide) (by decide), f 100 (by decide) (by decide)]
        exact t4
      · show pWf n pc (σ1 85) (zPT σ1, σ1 88, σ1 87, σ1 15, σ1 16, σ1 100 6, σ1 100 7, σ1 90 7)
        rw [zPT_cg hpt, f 88 (by decide) (by decide), f 85 (by decide) (by decide)]
        exact w
      · rw [f 87 (by decide) (by decide), f89]
        intro x hx
        refine ⟨(vv x hx).1, ?_⟩
        dsimp only
        by_cases e : x = v
        · rw [if_pos e]
          exact ⟨Int32.le_iff_toInt_le.mp ha.1, Int32.le_iff_toInt_le.mp ha.2⟩
        · rw [if_neg e]
          exact (vv x hx).2
def spX7_setTurns : zSp := zDQ (X := zIn × zLo × Nat × Nat × Nat × Int32 × Int32) (fun x => match x with | (σ, τ, n, pc, un, s, d) => [.ref 0, .int s, .int d]) (fun x => match x with | (σ, τ, n, pc, un, s, d) => (119, zSH, zRH, σ, τ)) (fun x => match x with | (σ, τ, n, pc, un, s, d) => cI σ τ n pc un ∧ (0 ≤ s ∧ s ≤ 10000) ∧ (1 ≤ d ∧ d ≤ 100)) (fun x r9 μ9 => match x with | (σ, τ, n, pc, un, s, d) => r9 = some (.int (σ 100 6)) ∧ ∃ σ1 : zIn, μ9 = (119, zSH, zRH, σ1, τ) ∧ cI σ1 τ n pc un ∧ (σ1 0 13 = σ 0 13 ∧ σ1 0 14 = 0 ∧ σ1 0 15 = 0) ∧ (∀ r, r ≠ 0 → r ≠ 100 → σ1 r = σ r) ∧ σ1 100 6 = s)
abbrev rmX7_setTurns : Room := ({ frames := 1, cells := 0, slots := 0, locals := 20 } : Room)
set_option maxRecDepth 100000 in
set_option maxHeartbeats 4000000 in
theorem ctX7_setTurns (l : Launch) (D : va_G) (cA : Nat → ClassId) : zCt false l D cA yX7_setTurns cX7_setTurns 4 (some .int) rmX7_setTurns spX7_setTurns := by
  refine zct_Q (zCX7_setTurns [(154, 0, 0, spX7_forgetAmounts, rmX7_forgetAmounts.cells, rmX7_forgetAmounts.slots)]) zpX7_setTurns [] (by decide +kernel) zkX7_setTurns (Or.inr (by decide +kernel)) trivial ⟨by decide +kernel, by decide +kernel⟩ (fun x ad => Nat.le_of_ble_eq_true rfl) ?_ ?_
  · intro p e s m args below meth c A H0 ad0 n0 Q F hml hNw hA hX
    exact ⟨zco_V hX hA F hml hNw (ctX7_forgetAmounts l D cA) ⟨⟨zlX7_setTurns_154, zwX7_forgetAmounts.1.1, zwX7_forgetAmounts.1.2⟩, zwX7_forgetAmounts.2⟩ zdX7_forgetAmounts ⟨Nat.le_of_ble_eq_true rfl, Nat.le_of_ble_eq_true rfl⟩ (ci := 7) (by decide) rfl (by rintro av μ K ⟨x, rfl, rfl, -⟩; exact ⟨_, _, rfl, rfl⟩), trivial⟩
  · rintro ⟨σ, τ, n, pc, un, s, d⟩ Ret hP hK Gl hG
    try dsimp only at hP hK
    show Gl 0 (zent 4 [.ref 0, .int s, .int d]) [] (0, 0) ((119, zSH, zRH, σ, τ))
    obtain ⟨hI, hs, hd⟩ := hP
    refine hG 100 _ _ _ _ _ ?_
    repeat (conv => whnf
            try dsimp only
            try simp (decide := true) only [zu_same, zu_ne1, zu_ne2, zu_row, zuL_same, zuL_ne1, zuL_ne2, zrow_n1, zx0, zx1, zx2, zx3, nI_1, Nat.reduceAdd, Nat.reduceMul, Int32.reduceAdd, Int32.reduceSub, Int32.reduceMul]
            first
            | refine ⟨vp_inb (by decide), ?_⟩
            | refine ⟨by with_reducible exact zi (by omega), ?_⟩
            | refine ⟨fun h => absurd h (by with_reducible exact nI_ge (by omega) (by omega)), fun _ => ?_⟩
            | refine ⟨fun _ => ?_, fun h => absurd (by with_reducible exact nI_le (by omega) (by omega)) h⟩
            | refine ⟨fun h => absurd h (by with_reducible exact nI_nlt (by omega) (by omega)), fun _ => ?_⟩
            | refine ⟨fun _ => ?_, fun h => absurd (by with_reducible exact nI_lt (by omega) (by omega)) h⟩
            | refine ⟨fun h => absurd h (by with_reducible exact nI_pos (by omega)), fun _ => ?_⟩
            | refine ⟨fun _ => ?_, fun h => absurd (by with_reducible exact nI_0le (by omega)) h⟩
            | refine ⟨fun h => absurd h (by decide), fun _ => ?_⟩
            | refine ⟨fun _ => ?_, fun h => absurd (by decide) h⟩
            | refine ⟨fun _ => ?_, fun h => absurd h (by decide)⟩
            | refine ⟨fun h => absurd (by decide) h, fun _ => ?_⟩
            | refine ⟨by decide, ?_⟩
            | refine ⟨rfl, ?_⟩)
    try (conv => whnf)
    refine ⟨fun h => absurd hs.1 (Int32.not_le.mpr h), fun _ => ?_⟩
    repeat (conv => whnf
            try dsimp only
            try simp (decide := true) only [zu_same, zu_ne1, zu_ne2, zu_row, zuL_same, zuL_ne1, zuL_ne2, zrow_n1, zx0, zx1, zx2, zx3, nI_1, Nat.reduceAdd, Nat.reduceMul, Int32.reduceAdd, Int32.reduceSub, Int32.reduceMul]
            first
            | refine ⟨vp_inb (by decide), ?_⟩
            | refine ⟨by with_reducible exact zi (by omega), ?_⟩
            | refine ⟨fun h => absurd h (by with_reducible exact nI_ge (by omega) (by omega)), fun _ => ?_⟩
            | refine ⟨fun _ => ?_, fun h => absurd (by with_reducible exact nI_le (by omega) (by omega)) h⟩
            | refine ⟨fun h => absurd h (by with_reducible exact nI_nlt (by omega) (by omega)), fun _ => ?_⟩
            | refine ⟨fun _ => ?_, fun h => absurd (by with_reducible exact nI_lt (by omega) (by omega)) h⟩
            | refine ⟨fun h => absurd h (by with_reducible exact nI_pos (by omega)), fun _ => ?_⟩
            | refine ⟨fun _ => ?_, fun h => absurd (by with_reducible exact nI_0le (by omega)) h⟩
            | refine ⟨fun h => absurd h (by decide), fun _ => ?_⟩
            | refine ⟨fun _ => ?_, fun h => absurd (by decide) h⟩
            | refine ⟨fun _ => ?_, fun h => absurd h (by decide)⟩
            | refine ⟨fun h => absurd (by decide) h, fun _ => ?_⟩
            | refine ⟨by decide, ?_⟩
            | refine ⟨rfl, ?_⟩)
    try (conv => whnf)
    refine ⟨fun h => absurd hs.2 (Int32.not_le.mpr h), fun _ => ?_⟩
    repeat (conv => whnf
            try dsimp only
            try simp (decide := true) only [zu_same, zu_ne1, zu_ne2, zu_row, zuL_same, zuL_ne1, zuL_ne2, zrow_n1, zx0, zx1, zx2, zx3, nI_1, Nat.reduceAdd, Nat.reduceMul, Int32.reduceAdd, Int32.reduceSub, Int32.reduceMul]
            first
            | refine ⟨vp_inb (by decide), ?_⟩
            | refine ⟨by with_reducible exact zi (by omega), ?_⟩
            | refine ⟨fun h => absurd h (by with_reducible exact nI_ge (by omega) (by omega)), fun _ => ?_⟩
            | refine ⟨fun _ => ?_, fun h => absurd (by with_reducible exact nI_le (by omega) (by omega)) h⟩
            | refine ⟨fun h => absurd h (by with_reducible exact nI_nlt (by omega) (by omega)), fun _ => ?_⟩
            | refine ⟨fun _ => ?_, fun h => absurd (by with_reducible exact nI_lt (by omega) (by omega)) h⟩
            | refine ⟨fun h => absurd h (by with_reducible exact nI_pos (by omega)), fun _ => ?_⟩
            | refine ⟨fun _ => ?_, fun h => absurd (by with_reducible exact nI_0le (by omega)) h⟩
            | refine ⟨fun h => absurd h (by decide), fun _ => ?_⟩
            | refine ⟨fun _ => ?_, fun h => absurd (by decide) h⟩
            | refine ⟨fun _ => ?_, fun h => absurd h (by decide)⟩
            | refine ⟨fun h => absurd (by decide) h, fun _ => ?_⟩
            | refine ⟨by decide, ?_⟩
            | refine ⟨rfl, ?_⟩)
    try (conv => whnf)
    refine ⟨fun h => absurd hd.1 (Int32.not_le.mpr h), fun _ => ?_⟩
    repeat (conv => whnf
            try dsimp only
            try simp (decide := true) only [zu_same, zu_ne1, zu_ne2, zu_row, zuL_same, zuL_ne1, zuL_ne2, zrow_n1, zx0, zx1, zx2, zx3, nI_1, Nat.reduceAdd, Nat.reduceMul, Int32.reduceAdd, Int32.reduceSub, Int32.reduceMul]
            first
            | refine ⟨vp_inb (by decide), ?_⟩
            | refine ⟨by with_reducible exact zi (by omega), ?_⟩
            | refine ⟨fun h => absurd h (by with_reducible exact nI_ge (by omega) (by omega)), fun _ => ?_⟩
            | refine ⟨fun _ => ?_, fun h => absurd (by with_reducible exact nI_le (by omega) (by omega)) h⟩
            | refine ⟨fun h => absurd h (by with_reducible exact nI_nlt (by omega) (by omega)), fun _ => ?_⟩
            | refine ⟨fun _ => ?_, fun h => absurd (by with_reducible exact nI_lt (by omega) (by omega)) h⟩
            | refine ⟨fun h => absurd h (by with_reducible exact nI_pos (by omega)), fun _ => ?_⟩
            | refine ⟨fun _ => ?_, fun h => absurd (by with_reducible exact nI_0le (by omega)) h⟩
            | refine ⟨fun h => absurd h (by decide), fun _ => ?_⟩
            | refine ⟨fun _ => ?_, fun h => absurd (by decide) h⟩
            | refine ⟨fun _ => ?_, fun h => absurd h (by decide)⟩
            | refine ⟨fun h => absurd (by decide) h, fun _ => ?_⟩
            | refine ⟨by decide, ?_⟩
            | refine ⟨rfl, ?_⟩)
    try (conv => whnf)
    refine ⟨fun _ => ?_, fun h => absurd hd.2 h⟩
    repeat (conv => whnf
            try dsimp only
            try simp (decide := true) only [zu_same, zu_ne1, zu_ne2, zu_row, zuL_same, zuL_ne1, zuL_ne2, zrow_n1, zx0, zx1, zx2, zx3, nI_1, Nat.reduceAdd, Nat.reduceMul, Int32.reduceAdd, Int32.reduceSub, Int32.reduceMul]
            first
            | refine ⟨vp_inb (by decide), ?_⟩
            | refine ⟨by with_reducible exact zi (by omega), ?_⟩
            | refine ⟨fun h => absurd h (by with_reducible exact nI_ge (by omega) (by omega)), fun _ => ?_⟩
            | refine ⟨fun _ => ?_, fun h => absurd (by with_reducible exact nI_le (by omega) (by omega)) h⟩
            | refine ⟨fun h => absurd h (by with_reducible exact nI_nlt (by omega) (by omega)), fun _ => ?_⟩
            | refine ⟨fun _ => ?_, fun h => absurd (by with_reducible exact nI_lt (by omega) (by omega)) h⟩
            | refine ⟨fun h => absurd h (by with_reducible exact nI_pos (by omega)), fun _ => ?_⟩
            | refine ⟨fun _ => ?_, fun h => absurd (by with_reducible exact nI_0le (by omega)) h⟩
            | refine ⟨fun h => absurd h (by decide), fun _ => ?_⟩
            | refine ⟨fun _ => ?_, fun h => absurd (by decide) h⟩
            | refine ⟨fun _ => ?_, fun h => absurd h (by decide)⟩
            | refine ⟨fun h => absurd (by decide) h, fun _ => ?_⟩
            | refine ⟨by decide, ?_⟩
            | refine ⟨rfl, ?_⟩)
    try (conv => whnf)
    refine ⟨(zu (zu σ 100 6 s) 100 7 d, τ), rfl, rfl, trivial, ?_⟩
    try dsimp only [cond_true, cond_false]
    repeat (conv => whnf
            try dsimp only
            try simp (decide := true) only [zu_same, zu_ne1, zu_ne2, zu_row, zuL_same, zuL_ne1, zuL_ne2, zrow_n1, zx0, zx1, zx2, zx3, nI_1, Nat.reduceAdd, Nat.reduceMul, Int32.reduceAdd, Int32.reduceSub, Int32.reduceMul]
            first
            | refine ⟨vp_inb (by decide), ?_⟩
            | refine ⟨by with_reducible exact zi (by omega), ?_⟩
            | refine ⟨fun h => absurd h (by with_reducible exact nI_ge (by omega) (by omega)), fun _ => ?_⟩
            | refine ⟨fun _ => ?_, fun h => absurd (by with_reducible exact nI_le (by omega) (by omega)) h⟩
            | refine ⟨fun h => absurd h (by with_reducible exact nI_nlt (by omega) (by omega)), fun _ => ?_⟩
            | refine ⟨fun _ => ?_, fun h => absurd (by with_reducible exact nI_lt (by omega) (by omega)) h⟩
            | refine ⟨fun h => absurd h (by with_reducible exact nI_pos (by omega)), fun _ => ?_⟩
            | refine ⟨fun _ => ?_, fun h => absurd (by with_reducible exact nI_0le (by omega)) h⟩
            | refine ⟨fun h => absurd h (by decide), fun _ => ?_⟩
            | refine ⟨fun _ => ?_, fun h => absurd (by decide) h⟩
            | refine ⟨fun _ => ?_, fun h => absurd h (by decide)⟩
            | refine ⟨fun h => absurd (by decide) h, fun _ => ?_⟩
            | refine ⟨by decide, ?_⟩
            | refine ⟨rfl, ?_⟩)
    try (conv => whnf)
    generalize hs : zu (zu (zu (zu σ 100 6 s) 100 7 d) 0 14 0) 0 15 0 = σ1
    have f : ∀ r, r ≠ 0 → r ≠ 100 → σ1 r = σ r := fun r h0 h => by rw [← hs, zu_row h0, zu_row h0, zu_row h, zu_row h]
    have f6 : σ1 100 6 = s := by rw [← hs, zu_ne1 (by decide), zu_ne1 (by decide), zu_ne2 (by decide), zu_same]
    have f7 : σ1 100 7 = d := by rw [← hs, zu_ne1 (by decide), zu_ne1 (by decide), zu_same]
    have g0 : σ1 0 13 = σ 0 13 ∧ σ1 0 14 = 0 ∧ σ1 0 15 = 0 := by
      rw [← hs]
      exact ⟨by rw [zu_ne2 (by decide), zu_ne2 (by decide), zu_ne1 (by decide), zu_ne1 (by decide)], by rw [zu_ne2 (by decide), zu_same], zu_same⟩
    refine hK _ _ ⟨rfl, σ1, rfl, ?_, g0, f, f6⟩
    obtain ⟨⟨t1, t2, t3, t4, t5, t6⟩, w, cc, vv, uu, kk, pp⟩ := hI
    have hpt : ∀ r, 18 ≤ r → r ≤ 21 → σ1 r = σ r := fun r h1 h2 => f r (by omega) (by omega)
    refine ⟨⟨by rw [f 86 (by decide) (by decide)]; exact t1, t2, t3, ⟨?_, ?_, ?_, ?_⟩, by rw [f 88 (by decide) (by decide)]; exact t5, fun g hg => pIn_cg hpt (t6 g hg)⟩, ?_, ⟨by rw [f 17 (by decide) (by decide)]; exact cc.1, by rw [f 1 (by decide) (by decide)]; exact cc.2.1, cc.2.2⟩, ?_, by rw [f 15 (by decide) (by decide), f 16 (by decide) (by decide)]; exact uu, by rw [f 103 (by decide) (by decide)]; exact kk, pp⟩
    · show ∀ k, k < pc → pRef (zPT σ1) k
      rw [zPT_cg hpt]
      exact t4.1
    · show pNm n pc (zPT σ1)
      rw [zPT_cg hpt]
      exact t4.2.1
    · show ∀ v, v < n → ¬ σ1 88 v < 0 → (σ1 88 v).toNatClampNeg < pc
      rw [f 88 (by decide) (by decide)]
      exact t4.2.2.1
    · show 1 ≤ (σ1 100 7).toInt ∧ (σ1 100 7).toInt ≤ 100
      rw [f7]
      exact ⟨Int32.le_iff_toInt_le.mp hd.1, Int32.le_iff_toInt_le.mp hd.2⟩
    · show pWf n pc (σ1 85) (zPT σ1, σ1 88, σ1 87, σ1 15, σ1 16, σ1 100 6, σ1 100 7, σ1 90 7)
      rw [zPT_cg hpt, f 88 (by decide) (by decide), f 85 (by decide) (by decide)]
      exact w
    · rw [f 87 (by decide) (by decide), f 89 (by decide) (by decide)]
      exact vv

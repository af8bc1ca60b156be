/-! ===== the law: the best of some settings ===== -/
set_option maxRecDepth 100000
set_option maxHeartbeats 4000000
theorem k700 : ∀ k, k < 4 → (-1000000000 : Int32) ≤ 700 * nI k ∧ 700 * nI k ≤ 1000000000 := by decide +kernel
theorem lw_K (Gl : zK) (hG : zSt (zCL_lawK calK) [846, 864, 925, 931] Gl) {q ti st m pc dr a b : Nat} {c5 c9 c10 c14 c15 : Int32} {Dg : Int64} (hκ : a ≤ 200000 ∧ b ≤ 2000000) {sh : zSh} {rf : zRf} {σ0 : zIn} {τ : zLo} (hS : lS m 4 6 sh rf) (h0 : gS σ0 τ 6 pc 4) {i v : Nat} (hi : i < 6) (hv : v < 6) (hneg : σ0 88 i < 0)
    (h931 : ∀ (l16 l17 : Option Value) (s : zIn) (t : zLo), wS m pc dr sh rf s t σ0 τ → Gl 931 [some (.ref zS), some (.int (nI ti)), some (.ref 0), some (.ref 1), some (.int (nI st)), some (.int c5), some (.long Dg), none, some (.int 63), some (.int c9), some (.int c10), some (.ref q), some (.int (nI i)), some (.int (nI v)), some (.int c14), some (.int c15), l16, l17] [] (a, b) (m, sh, rf, s, t)) :
    ∀ (l16 l17 : Option Value) (s : zIn) (t : zLo), wS m pc dr sh rf s t σ0 τ → Gl 846 [some (.ref zS), some (.int (nI ti)), some (.ref 0), some (.ref 1), some (.int (nI st)), some (.int c5), some (.long Dg), none, some (.int 63), some (.int c9), some (.int c10), some (.ref q), some (.int (nI i)), some (.int (nI v)), some (.int c14), some (.int c15), l16, l17] [] (a, b) (m, sh, rf, s, t) := by
  obtain ⟨⟨hm, -⟩, hBs, h999, ⟨g0, -, h121, -⟩, ⟨r0, r1, -, r6, -⟩, -, hv9⟩ := id hS
  intro l16 l17 s t hw
  refine hG 100 _ _ _ _ _ ?_
  repeat (conv => whnf
          try dsimp only
          try simp (decide := true) only [zu_same, zu_ne1, zu_ne2, zu_row, zuL_same, zuL_ne1, zuL_ne2, zrow_n1, zx0, zx1, zx2, zx3, nI_1, Nat.reduceAdd, Nat.reduceMul, Int32.reduceAdd, Int32.reduceSub, Int32.reduceMul]
          first
          | refine ⟨zrm (by assumption), ?_⟩
          | refine ⟨vp_inb (by decide), ?_⟩
          | refine ⟨by with_reducible exact zi (by omega), ?_⟩
          | refine ⟨fun h => absurd h (by with_reducible exact nI_ge (by omega) (by omega)), fun _ => ?_⟩
          | refine ⟨fun _ => ?_, fun h => absurd (by with_reducible exact nI_le (by omega) (by omega)) h⟩
          | refine ⟨fun h => absurd h (by with_reducible exact nI_nlt (by omega) (by omega)), fun _ => ?_⟩
          | refine ⟨fun _ => ?_, fun h => absurd (by with_reducible exact nI_lt (by omega) (by omega)) h⟩
          | refine ⟨fun h => absurd h (by with_reducible exact nI_pos (by omega)), fun _ => ?_⟩
          | refine ⟨fun _ => ?_, fun h => absurd (by with_reducible exact nI_0le (by omega)) h⟩
          | refine ⟨fun h => absurd h (by decide), fun _ => ?_⟩
          | refine ⟨fun _ => ?_, fun h => absurd (by decide) h⟩
          | refine ⟨fun _ => ?_, fun h => absurd h (by decide)⟩
          | refine ⟨fun h => absurd (by decide) h, fun _ => ?_⟩
          | refine ⟨by decide, ?_⟩
          | refine ⟨rfl, ?_⟩)
  try (conv => whnf)
  obtain ⟨-, σx, hDx, hqx⟩ := id hw
  refine ⟨[.ref 0, .int (nI i), .int (nI v), .int 0, .int 700, .int 4], σx, τ, rfl, rfl, hBs, hDx.1, (by show 120 ≤ m; omega), (σx, τ, 6, pc, 4, i, v), rfl, rfl, ⟨wS_gS h0 hqx, hi, hv, by rw [hqx 88 (by decide) (by decide)]; exact hneg⟩, ?_⟩
  try dsimp only
  rintro _ _ ⟨⟨σ1, rfl, h1q⟩, (rfl | ⟨w, hw4, rfl, hwb, hwm⟩)⟩
  · refine ⟨σ1, τ, rfl, rfl, fun s2 t2 hc hfr => ?_⟩
    replace hw := wS_q hS hDx hqx hc hfr h1q
    clear hc hfr hDx h1q hqx
    have h864 : Gl 864 [some (.ref zS), some (.int (nI ti)), some (.ref 0), some (.ref 1), some (.int (nI st)), some (.int c5), some (.long Dg), none, some (.int 63), some (.int c9), some (.int c10), some (.ref q), some (.int (nI i)), some (.int (nI v)), some (.int c14), some (.int c15), some (.int (-1)), some (.int 0)] [] (a, b) (m, sh, rf, s2, t2) := by
      refine hG 40 _ _ _ _ _ ?_
      repeat (conv => whnf
              try dsimp only
              try simp (decide := true) only [zu_same, zu_ne1, zu_ne2, zu_row, zuL_same, zuL_ne1, zuL_ne2, zrow_n1, zx0, zx1, zx2, zx3, nI_1, Nat.reduceAdd, Nat.reduceMul, Int32.reduceAdd, Int32.reduceSub, Int32.reduceMul]
              first
              | refine ⟨zrm (by assumption), ?_⟩
              | refine ⟨vp_inb (by decide), ?_⟩
              | refine ⟨by with_reducible exact zi (by omega), ?_⟩
              | refine ⟨fun h => absurd h (by with_reducible exact nI_ge (by omega) (by omega)), fun _ => ?_⟩
              | refine ⟨fun _ => ?_, fun h => absurd (by with_reducible exact nI_le (by omega) (by omega)) h⟩
              | refine ⟨fun h => absurd h (by with_reducible exact nI_nlt (by omega) (by omega)), fun _ => ?_⟩
              | refine ⟨fun _ => ?_, fun h => absurd (by with_reducible exact nI_lt (by omega) (by omega)) h⟩
              | refine ⟨fun h => absurd h (by with_reducible exact nI_pos (by omega)), fun _ => ?_⟩
              | refine ⟨fun _ => ?_, fun h => absurd (by with_reducible exact nI_0le (by omega)) h⟩
              | refine ⟨fun h => absurd h (by decide), fun _ => ?_⟩
              | refine ⟨fun _ => ?_, fun h => absurd (by decide) h⟩
              | refine ⟨fun _ => ?_, fun h => absurd h (by decide)⟩
              | refine ⟨fun h => absurd (by decide) h, fun _ => ?_⟩
              | refine ⟨by decide, ?_⟩
              | refine ⟨rfl, ?_⟩)
      try (conv => whnf)
      exact h931 _ _ s2 t2 hw
    repeat (conv => whnf
            try dsimp only
            try simp (decide := true) only [zu_same, zu_ne1, zu_ne2, zu_row, zuL_same, zuL_ne1, zuL_ne2, zrow_n1, zx0, zx1, zx2, zx3, nI_1, Nat.reduceAdd, Nat.reduceMul, Int32.reduceAdd, Int32.reduceSub, Int32.reduceMul]
            first
            | refine ⟨zrm (by assumption), ?_⟩
            | refine ⟨vp_inb (by decide), ?_⟩
            | refine ⟨by with_reducible exact zi (by omega), ?_⟩
            | refine ⟨fun h => absurd h (by with_reducible exact nI_ge (by omega) (by omega)), fun _ => ?_⟩
            | refine ⟨fun _ => ?_, fun h => absurd (by with_reducible exact nI_le (by omega) (by omega)) h⟩
            | refine ⟨fun h => absurd h (by with_reducible exact nI_nlt (by omega) (by omega)), fun _ => ?_⟩
            | refine ⟨fun _ => ?_, fun h => absurd (by with_reducible exact nI_lt (by omega) (by omega)) h⟩
            | refine ⟨fun h => absurd h (by with_reducible exact nI_pos (by omega)), fun _ => ?_⟩
            | refine ⟨fun _ => ?_, fun h => absurd (by with_reducible exact nI_0le (by omega)) h⟩
            | refine ⟨fun h => absurd h (by decide), fun _ => ?_⟩
            | refine ⟨fun _ => ?_, fun h => absurd (by decide) h⟩
            | refine ⟨fun _ => ?_, fun h => absurd h (by decide)⟩
            | refine ⟨fun h => absurd (by decide) h, fun _ => ?_⟩
            | refine ⟨by decide, ?_⟩
            | refine ⟨rfl, ?_⟩)
    try (conv => whnf)
    exact h864
  · refine ⟨σ1, τ, rfl, rfl, fun s2 t2 hc hfr => ?_⟩
    rw [cW_q hqx] at hwb
    replace hwm : ∀ k, k < 4 → ¬ cW σ0 6 i v (700 * nI w) < cW σ0 6 i v (700 * nI k) := fun k hk => by
      have := hwm k hk
      rw [cW_q hqx, cW_q hqx] at this
      exact this
    replace hw := wS_q hS hDx hqx hc hfr h1q
    clear hc hfr hDx h1q hqx
    have hwn : ¬ cW σ0 6 i v (700 * nI w) = zBRK := fun q => by
      rw [q] at hwb
      exact Int32.lt_irrefl hwb
    have eb : fSh (cW σ0 6 i v (700 * nI w)) = cW σ0 6 i v (700 * nI w) := if_neg hwn
    have loop : ∀ (f k : Nat) (s : zIn) (t : zLo), k + f = 4 → wS m pc dr sh rf s t σ0 τ → Gl 864 [some (.ref zS), some (.int (nI ti)), some (.ref 0), some (.ref 1), some (.int (nI st)), some (.int c5), some (.long Dg), none, some (.int 63), some (.int c9), some (.int c10), some (.ref q), some (.int (nI i)), some (.int (nI v)), some (.int c14), some (.int c15), some (.int (nI w)), some (.int (nI k))] [] (a, b) (m, sh, rf, s, t) := by
      intro f
      induction f with
      | zero =>
        intro k s t hk hw
        rw [show k = 4 by omega]
        refine hG 40 _ _ _ _ _ ?_
        repeat (first
          | (conv => whnf
             try dsimp only
             try simp (decide := true) only [show (4 : Int32) = nI 4 from rfl, zu_same, zu_ne1, zu_ne2, zu_row, zuL_same, zuL_ne1, zuL_ne2, zrow_n1, zx0, zx1, zx2, zx3, nI_1, Nat.reduceAdd, Nat.reduceMul, Int32.reduceAdd, Int32.reduceSub, Int32.reduceMul]
             first
             | refine ⟨zrm (by assumption), ?_⟩
             | refine ⟨vp_inb (by decide), ?_⟩
             | refine ⟨by with_reducible exact zi (by omega), ?_⟩
             | refine ⟨fun h => absurd h (by with_reducible exact nI_ge (by omega) (by omega)), fun _ => ?_⟩
             | refine ⟨fun _ => ?_, fun h => absurd (by with_reducible exact nI_le (by omega) (by omega)) h⟩
             | refine ⟨fun h => absurd h (by with_reducible exact nI_nlt (by omega) (by omega)), fun _ => ?_⟩
             | refine ⟨fun _ => ?_, fun h => absurd (by with_reducible exact nI_lt (by omega) (by omega)) h⟩
             | refine ⟨fun h => absurd h (by with_reducible exact nI_pos (by omega)), fun _ => ?_⟩
             | refine ⟨fun _ => ?_, fun h => absurd (by with_reducible exact nI_0le (by omega)) h⟩
             | refine ⟨fun h => absurd h (by decide), fun _ => ?_⟩
             | refine ⟨fun _ => ?_, fun h => absurd (by decide) h⟩
             | refine ⟨fun _ => ?_, fun h => absurd h (by decide)⟩
             | refine ⟨fun h => absurd (by decide) h, fun _ => ?_⟩
             | refine ⟨by decide, ?_⟩
             | refine ⟨rfl, ?_⟩)
          | (conv => whnf
             fail_if_success refine Exists.intro ?_ ?_
             simp only [show (4 : Int32) = nI 4 from rfl]))
        try (conv => whnf)
        exact h931 _ _ s t hw
      | succ f ih =>
        intro k s t hk hw
        have hk4 : k < 4 := by omega
        have h925 : ∀ (s : zIn) (t : zLo), wS m pc dr sh rf s t σ0 τ → Gl 925 [some (.ref zS), some (.int (nI ti)), some (.ref 0), some (.ref 1), some (.int (nI st)), some (.int c5), some (.long Dg), none, some (.int 63), some (.int c9), some (.int c10), some (.ref q), some (.int (nI i)), some (.int (nI v)), some (.int c14), some (.int c15), some (.int (nI w)), some (.int (nI k))] [] (a, b) (m, sh, rf, s, t) := by
          intro s t hw
          refine hG 40 _ _ _ _ _ ?_
          repeat (conv => whnf
                  try dsimp only
                  try simp (decide := true) only [zu_same, zu_ne1, zu_ne2, zu_row, zuL_same, zuL_ne1, zuL_ne2, zrow_n1, zx0, zx1, zx2, zx3, nI_1, Nat.reduceAdd, Nat.reduceMul, Int32.reduceAdd, Int32.reduceSub, Int32.reduceMul]
                  first
                  | refine ⟨zrm (by assumption), ?_⟩
                  | refine ⟨vp_inb (by decide), ?_⟩
                  | refine ⟨by with_reducible exact zi (by omega), ?_⟩
                  | refine ⟨fun h => absurd h (by with_reducible exact nI_ge (by omega) (by omega)), fun _ => ?_⟩
                  | refine ⟨fun _ => ?_, fun h => absurd (by with_reducible exact nI_le (by omega) (by omega)) h⟩
                  | refine ⟨fun h => absurd h (by with_reducible exact nI_nlt (by omega) (by omega)), fun _ => ?_⟩
                  | refine ⟨fun _ => ?_, fun h => absurd (by with_reducible exact nI_lt (by omega) (by omega)) h⟩
                  | refine ⟨fun h => absurd h (by with_reducible exact nI_pos (by omega)), fun _ => ?_⟩
                  | refine ⟨fun _ => ?_, fun h => absurd (by with_reducible exact nI_0le (by omega)) h⟩
                  | refine ⟨fun h => absurd h (by decide), fun _ => ?_⟩
                  | refine ⟨fun _ => ?_, fun h => absurd (by decide) h⟩
                  | refine ⟨fun _ => ?_, fun h => absurd h (by decide)⟩
                  | refine ⟨fun h => absurd (by decide) h, fun _ => ?_⟩
                  | refine ⟨by decide, ?_⟩
                  | refine ⟨rfl, ?_⟩)
          try (conv => whnf)
          try dsimp only
          try simp (decide := true) only [zu_same, zu_ne1, zu_ne2, zu_row, zuL_same, zuL_ne1, zuL_ne2, zrow_n1, zx0, zx1, zx2, zx3, nI_1, Nat.reduceAdd, Nat.reduceMul, Int32.reduceAdd, Int32.reduceSub, Int32.reduceMul]
          exact ih (k + 1) s t (by omega) hw
        refine hG 100 _ _ _ _ _ ?_
        repeat (first
          | (conv => whnf
             try dsimp only
             try simp (decide := true) only [show (4 : Int32) = nI 4 from rfl, zu_same, zu_ne1, zu_ne2, zu_row, zuL_same, zuL_ne1, zuL_ne2, zrow_n1, zx0, zx1, zx2, zx3, nI_1, Nat.reduceAdd, Nat.reduceMul, Int32.reduceAdd, Int32.reduceSub, Int32.reduceMul]
             first
             | refine ⟨zrm (by assumption), ?_⟩
             | refine ⟨vp_inb (by decide), ?_⟩
             | refine ⟨by with_reducible exact zi (by omega), ?_⟩
             | refine ⟨fun h => absurd h (by with_reducible exact nI_ge (by omega) (by omega)), fun _ => ?_⟩
             | refine ⟨fun _ => ?_, fun h => absurd (by with_reducible exact nI_le (by omega) (by omega)) h⟩
             | refine ⟨fun h => absurd h (by with_reducible exact nI_nlt (by omega) (by omega)), fun _ => ?_⟩
             | refine ⟨fun _ => ?_, fun h => absurd (by with_reducible exact nI_lt (by omega) (by omega)) h⟩
             | refine ⟨fun h => absurd h (by with_reducible exact nI_pos (by omega)), fun _ => ?_⟩
             | refine ⟨fun _ => ?_, fun h => absurd (by with_reducible exact nI_0le (by omega)) h⟩
             | refine ⟨fun h => absurd h (by decide), fun _ => ?_⟩
             | refine ⟨fun _ => ?_, fun h => absurd (by decide) h⟩
             | refine ⟨fun _ => ?_, fun h => absurd h (by decide)⟩
             | refine ⟨fun h => absurd (by decide) h, fun _ => ?_⟩
             | refine ⟨by decide, ?_⟩
             | refine ⟨rfl, ?_⟩)
          | (conv => whnf
             fail_if_success refine Exists.intro ?_ ?_
             simp only [show (4 : Int32) = nI 4 from rfl]))
        try (conv => whnf)
        obtain ⟨-, σx, hDx, hqx⟩ := id hw
        refine ⟨[.ref 0, .int (nI i), .int (nI v), .int (700 * nI k)], σx, τ, rfl, rfl, hBs, hDx.1, (by show 120 ≤ m; omega), (σx, τ, 6, pc, 4, i, v, 700 * nI k), rfl, rfl, ⟨wS_gS h0 hqx, hi, hv, by rw [hqx 88 (by decide) (by decide)]; exact hneg, k700 k hk4⟩, ?_⟩
        try dsimp only
        rintro _ _ ⟨rfl, σ1, rfl, h1q⟩
        refine ⟨σ1, τ, rfl, rfl, fun s2 t2 hc hfr => ?_⟩
        replace hw := wS_q hS hDx hqx hc hfr h1q
        try replace hq := wq_f hfr hq
        clear hc hfr hDx h1q
        rw [cW_q hqx]
        clear hqx
        repeat (conv => whnf
                try dsimp only
                try simp (decide := true) only [zu_same, zu_ne1, zu_ne2, zu_row, zuL_same, zuL_ne1, zuL_ne2, zrow_n1, zx0, zx1, zx2, zx3, nI_1, Nat.reduceAdd, Nat.reduceMul, Int32.reduceAdd, Int32.reduceSub, Int32.reduceMul]
                first
                | refine ⟨zrm (by assumption), ?_⟩
                | refine ⟨vp_inb (by decide), ?_⟩
                | refine ⟨by with_reducible exact zi (by omega), ?_⟩
                | refine ⟨fun h => absurd h (by with_reducible exact nI_ge (by omega) (by omega)), fun _ => ?_⟩
                | refine ⟨fun _ => ?_, fun h => absurd (by with_reducible exact nI_le (by omega) (by omega)) h⟩
                | refine ⟨fun h => absurd h (by with_reducible exact nI_nlt (by omega) (by omega)), fun _ => ?_⟩
                | refine ⟨fun _ => ?_, fun h => absurd (by with_reducible exact nI_lt (by omega) (by omega)) h⟩
                | refine ⟨fun h => absurd h (by with_reducible exact nI_pos (by omega)), fun _ => ?_⟩
                | refine ⟨fun _ => ?_, fun h => absurd (by with_reducible exact nI_0le (by omega)) h⟩
                | refine ⟨fun h => absurd h (by decide), fun _ => ?_⟩
                | refine ⟨fun _ => ?_, fun h => absurd (by decide) h⟩
                | refine ⟨fun _ => ?_, fun h => absurd h (by decide)⟩
                | refine ⟨fun h => absurd (by decide) h, fun _ => ?_⟩
                | refine ⟨by decide, ?_⟩
                | refine ⟨rfl, ?_⟩)
        try (conv => whnf)
        obtain ⟨-, σx, hDx, hqx⟩ := id hw
        refine ⟨[.ref 0, .int (nI i), .int (nI v), .int (700 * nI w)], σx, τ, rfl, rfl, hBs, hDx.1, (by show 120 ≤ m; omega), (σx, τ, 6, pc, 4, i, v, 700 * nI w), rfl, rfl, ⟨wS_gS h0 hqx, hi, hv, by rw [hqx 88 (by decide) (by decide)]; exact hneg, k700 w hw4⟩, ?_⟩
        try dsimp only
        rintro _ _ ⟨rfl, σ1, rfl, h1q⟩
        refine ⟨σ1, τ, rfl, rfl, fun s2 t2 hc hfr => ?_⟩
        replace hw := wS_q hS hDx hqx hc hfr h1q
        try replace hq := wq_f hfr hq
        clear hc hfr hDx h1q
        rw [cW_q hqx, eb]
        clear hqx
        repeat (conv => whnf
                try dsimp only
                try simp (decide := true) only [zu_same, zu_ne1, zu_ne2, zu_row, zuL_same, zuL_ne1, zuL_ne2, zrow_n1, zx0, zx1, zx2, zx3, nI_1, Nat.reduceAdd, Nat.reduceMul, Int32.reduceAdd, Int32.reduceSub, Int32.reduceMul]
                first
                | refine ⟨zrm (by assumption), ?_⟩
                | refine ⟨vp_inb (by decide), ?_⟩
                | refine ⟨by with_reducible exact zi (by omega), ?_⟩
                | refine ⟨fun h => absurd h (by with_reducible exact nI_ge (by omega) (by omega)), fun _ => ?_⟩
                | refine ⟨fun _ => ?_, fun h => absurd (by with_reducible exact nI_le (by omega) (by omega)) h⟩
                | refine ⟨fun h => absurd h (by with_reducible exact nI_nlt (by omega) (by omega)), fun _ => ?_⟩
                | refine ⟨fun _ => ?_, fun h => absurd (by with_reducible exact nI_lt (by omega) (by omega)) h⟩
                | refine ⟨fun h => absurd h (by with_reducible exact nI_pos (by omega)), fun _ => ?_⟩
                | refine ⟨fun _ => ?_, fun h => absurd (by with_reducible exact nI_0le (by omega)) h⟩
                | refine ⟨fun h => absurd h (by decide), fun _ => ?_⟩
                | refine ⟨fun _ => ?_, fun h => absurd (by decide) h⟩
                | refine ⟨fun _ => ?_, fun h => absurd h (by decide)⟩
                | refine ⟨fun h => absurd (by decide) h, fun _ => ?_⟩
                | refine ⟨by decide, ?_⟩
                | refine ⟨rfl, ?_⟩)
        try (conv => whnf)
        refine ⟨fun _ => ?_, fun h => ?_⟩
        · skip
          repeat (conv => whnf
                  try dsimp only
                  try simp (decide := true) only [zu_same, zu_ne1, zu_ne2, zu_row, zuL_same, zuL_ne1, zuL_ne2, zrow_n1, zx0, zx1, zx2, zx3, nI_1, Nat.reduceAdd, Nat.reduceMul, Int32.reduceAdd, Int32.reduceSub, Int32.reduceMul]
                  first
                  | refine ⟨zrm (by assumption), ?_⟩
                  | refine ⟨vp_inb (by decide), ?_⟩
                  | refine ⟨by with_reducible exact zi (by omega), ?_⟩
                  | refine ⟨fun h => absurd h (by with_reducible exact nI_ge (by omega) (by omega)), fun _ => ?_⟩
                  | refine ⟨fun _ => ?_, fun h => absurd (by with_reducible exact nI_le (by omega) (by omega)) h⟩
                  | refine ⟨fun h => absurd h (by with_reducible exact nI_nlt (by omega) (by omega)), fun _ => ?_⟩
                  | refine ⟨fun _ => ?_, fun h => absurd (by with_reducible exact nI_lt (by omega) (by omega)) h⟩
                  | refine ⟨fun h => absurd h (by with_reducible exact nI_pos (by omega)), fun _ => ?_⟩
                  | refine ⟨fun _ => ?_, fun h => absurd (by with_reducible exact nI_0le (by omega)) h⟩
                  | refine ⟨fun h => absurd h (by decide), fun _ => ?_⟩
                  | refine ⟨fun _ => ?_, fun h => absurd (by decide) h⟩
                  | refine ⟨fun _ => ?_, fun h => absurd h (by decide)⟩
                  | refine ⟨fun h => absurd (by decide) h, fun _ => ?_⟩
                  | refine ⟨by decide, ?_⟩
                  | refine ⟨rfl, ?_⟩)
          try (conv => whnf)
          exact h925 s2 t2 hw
        · skip
          have ez : fSh (cW σ0 6 i v (700 * nI k)) = 0 := by
            by_cases q : cW σ0 6 i v (700 * nI k) = zBRK
            · exact if_pos q
            · rw [show fSh (cW σ0 6 i v (700 * nI k)) = cW σ0 6 i v (700 * nI k) from if_neg q] at h
              exact absurd (Int32.not_lt.mp (hwm k hk4)) h
          repeat (conv => whnf
                  try dsimp only
                  try simp (decide := true) only [zu_same, zu_ne1, zu_ne2, zu_row, zuL_same, zuL_ne1, zuL_ne2, zrow_n1, zx0, zx1, zx2, zx3, nI_1, Nat.reduceAdd, Nat.reduceMul, Int32.reduceAdd, Int32.reduceSub, Int32.reduceMul]
                  first
                  | refine ⟨zrm (by assumption), ?_⟩
                  | refine ⟨vp_inb (by decide), ?_⟩
                  | refine ⟨by with_reducible exact zi (by omega), ?_⟩
                  | refine ⟨fun h => absurd h (by with_reducible exact nI_ge (by omega) (by omega)), fun _ => ?_⟩
                  | refine ⟨fun _ => ?_, fun h => absurd (by with_reducible exact nI_le (by omega) (by omega)) h⟩
                  | refine ⟨fun h => absurd h (by with_reducible exact nI_nlt (by omega) (by omega)), fun _ => ?_⟩
                  | refine ⟨fun _ => ?_, fun h => absurd (by with_reducible exact nI_lt (by omega) (by omega)) h⟩
                  | refine ⟨fun h => absurd h (by with_reducible exact nI_pos (by omega)), fun _ => ?_⟩
                  | refine ⟨fun _ => ?_, fun h => absurd (by with_reducible exact nI_0le (by omega)) h⟩
                  | refine ⟨fun h => absurd h (by decide), fun _ => ?_⟩
                  | refine ⟨fun _ => ?_, fun h => absurd (by decide) h⟩
                  | refine ⟨fun _ => ?_, fun h => absurd h (by decide)⟩
                  | refine ⟨fun h => absurd (by decide) h, fun _ => ?_⟩
                  | refine ⟨by decide, ?_⟩
                  | refine ⟨rfl, ?_⟩)
          try (conv => whnf)
          obtain ⟨-, σx, hDx, hqx⟩ := id hw
          refine ⟨[.ref 0, .int (nI i), .int (nI v), .int (700 * nI k)], σx, τ, rfl, rfl, hBs, hDx.1, (by show 120 ≤ m; omega), (σx, τ, 6, pc, 4, i, v, 700 * nI k), rfl, rfl, ⟨wS_gS h0 hqx, hi, hv, by rw [hqx 88 (by decide) (by decide)]; exact hneg, k700 k hk4⟩, ?_⟩
          try dsimp only
          rintro _ _ ⟨rfl, σ1, rfl, h1q⟩
          refine ⟨σ1, τ, rfl, rfl, fun s2 t2 hc hfr => ?_⟩
          replace hw := wS_q hS hDx hqx hc hfr h1q
          try replace hq := wq_f hfr hq
          clear hc hfr hDx h1q
          rw [cW_q hqx, ez]
          clear hqx
          repeat (conv => whnf
                  try dsimp only
                  try simp (decide := true) only [zu_same, zu_ne1, zu_ne2, zu_row, zuL_same, zuL_ne1, zuL_ne2, zrow_n1, zx0, zx1, zx2, zx3, nI_1, Nat.reduceAdd, Nat.reduceMul, Int32.reduceAdd, Int32.reduceSub, Int32.reduceMul]
                  first
                  | refine ⟨zrm (by assumption), ?_⟩
                  | refine ⟨vp_inb (by decide), ?_⟩
                  | refine ⟨by with_reducible exact zi (by omega), ?_⟩
                  | refine ⟨fun h => absurd h (by with_reducible exact nI_ge (by omega) (by omega)), fun _ => ?_⟩
                  | refine ⟨fun _ => ?_, fun h => absurd (by with_reducible exact nI_le (by omega) (by omega)) h⟩
                  | refine ⟨fun h => absurd h (by with_reducible exact nI_nlt (by omega) (by omega)), fun _ => ?_⟩
                  | refine ⟨fun _ => ?_, fun h => absurd (by with_reducible exact nI_lt (by omega) (by omega)) h⟩
                  | refine ⟨fun h => absurd h (by with_reducible exact nI_pos (by omega)), fun _ => ?_⟩
                  | refine ⟨fun _ => ?_, fun h => absurd (by with_reducible exact nI_0le (by omega)) h⟩
                  | refine ⟨fun h => absurd h (by decide), fun _ => ?_⟩
                  | refine ⟨fun _ => ?_, fun h => absurd (by decide) h⟩
                  | refine ⟨fun _ => ?_, fun h => absurd h (by decide)⟩
                  | refine ⟨fun h => absurd (by decide) h, fun _ => ?_⟩
                  | refine ⟨by decide, ?_⟩
                  | refine ⟨rfl, ?_⟩)
          try (conv => whnf)
          exact h925 s2 t2 hw
    repeat (conv => whnf
            try dsimp only
            try simp (decide := true) only [zu_same, zu_ne1, zu_ne2, zu_row, zuL_same, zuL_ne1, zuL_ne2, zrow_n1, zx0, zx1, zx2, zx3, nI_1, Nat.reduceAdd, Nat.reduceMul, Int32.reduceAdd, Int32.reduceSub, Int32.reduceMul]
            first
            | refine ⟨zrm (by assumption), ?_⟩
            | refine ⟨vp_inb (by decide), ?_⟩
            | refine ⟨by with_reducible exact zi (by omega), ?_⟩
            | refine ⟨fun h => absurd h (by with_reducible exact nI_ge (by omega) (by omega)), fun _ => ?_⟩
            | refine ⟨fun _ => ?_, fun h => absurd (by with_reducible exact nI_le (by omega) (by omega)) h⟩
            | refine ⟨fun h => absurd h (by with_reducible exact nI_nlt (by omega) (by omega)), fun _ => ?_⟩
            | refine ⟨fun _ => ?_, fun h => absurd (by with_reducible exact nI_lt (by omega) (by omega)) h⟩
            | refine ⟨fun h => absurd h (by with_reducible exact nI_pos (by omega)), fun _ => ?_⟩
            | refine ⟨fun _ => ?_, fun h => absurd (by with_reducible exact nI_0le (by omega)) h⟩
            | refine ⟨fun h => absurd h (by decide), fun _ => ?_⟩
            | refine ⟨fun _ => ?_, fun h => absurd (by decide) h⟩
            | refine ⟨fun _ => ?_, fun h => absurd h (by decide)⟩
            | refine ⟨fun h => absurd (by decide) h, fun _ => ?_⟩
            | refine ⟨by decide, ?_⟩
            | refine ⟨rfl, ?_⟩)
    try (conv => whnf)
    exact loop 4 0 s2 t2 rfl hw

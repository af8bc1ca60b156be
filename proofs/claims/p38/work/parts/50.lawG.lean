/-! ===== the law: the amounts ===== -/
set_option maxRecDepth 100000
set_option maxHeartbeats 4000000
theorem lw_G (Gl : zK) (hG : zSt (zCL_lawG calG) [437, 518, 550, 561, 690, 696] Gl) {q ti st m pc dr a b : Nat} {c5 : Int32} {Dg : Int64} (hκ : a ≤ 200000 ∧ b ≤ 2000000) {sh : zSh} {rf : zRf} {σ0 : zIn} {τ : zLo} (hS : lS m 4 6 sh rf) (h0 : gS σ0 τ 6 pc 4) (hq2 : sh q = (102, 16))
    (hH : ∀ i : Nat, i < 6 → (∀ (l15 l16 l17 : Option Value) (s : zIn) (t : zLo), wS m pc dr sh rf s t σ0 τ → wQ q s σ0 → Gl 690 [some (.ref zS), some (.int (nI ti)), some (.ref 0), some (.ref 1), some (.int (nI st)), some (.int c5), some (.long Dg), none, some (.int 63), some (.int (pGr (σ0 104) (cL σ0 6).length)), some (.int (nI (pBr (σ0 103) (i + 1)))), some (.ref q), some (.int (nI i)), some (.int (fSh (σ0 103 i))), some (.int (σ0 112 i)), l15, l16, l17] [] (a, b) (m, sh, rf, s, t)) → ∀ (l16 l17 : Option Value) (s : zIn) (t : zLo), wS m pc dr sh rf s t σ0 τ → wQ q s σ0 → (let j := 0; Gl 561 [some (.ref zS), some (.int (nI ti)), some (.ref 0), some (.ref 1), some (.int (nI st)), some (.int c5), some (.long Dg), none, some (.int 63), some (.int (pGr (σ0 104) (cL σ0 6).length)), some (.int (nI (pBr (σ0 103) (i + 1)))), some (.ref q), some (.int (nI i)), some (.int (fSh (σ0 103 i))), some (.int (σ0 112 i)), some (.int (nI j)), l16, l17] [] (a, b) (m, sh, rf, s, t)))
    (h696 : ∀ (l12 l13 l14 l15 l16 l17 : Option Value) (s : zIn) (t : zLo), wS m pc dr sh rf s t σ0 τ → (let i := 6; Gl 696 [some (.ref zS), some (.int (nI ti)), some (.ref 0), some (.ref 1), some (.int (nI st)), some (.int c5), some (.long Dg), none, some (.int 63), some (.int (pGr (σ0 104) (cL σ0 6).length)), some (.int (nI (pBr (σ0 103) i))), some (.ref q), l12, l13, l14, l15, l16, l17] [] (a, b) (m, sh, rf, s, t))) :
    ∀ (l13 l14 l15 l16 l17 : Option Value) (s : zIn) (t : zLo), wS m pc dr sh rf s t σ0 τ → wQ q s σ0 → (let i := 0; Gl 437 [some (.ref zS), some (.int (nI ti)), some (.ref 0), some (.ref 1), some (.int (nI st)), some (.int c5), some (.long Dg), none, some (.int 63), some (.int (pGr (σ0 104) (cL σ0 6).length)), some (.int (nI (pBr (σ0 103) i))), some (.ref q), some (.int (nI i)), l13, l14, l15, l16, l17] [] (a, b) (m, sh, rf, s, t)) := by
  obtain ⟨⟨hm, -⟩, hBs, h999, ⟨g0, -, h121, -⟩, ⟨r0, r1, -, r6, -⟩, -, hv9⟩ := id hS
  have loop : ∀ (f i : Nat) (l13 l14 l15 l16 l17 : Option Value) (s : zIn) (t : zLo), i + f = 6 → wS m pc dr sh rf s t σ0 τ → wQ q s σ0 → Gl 437 [some (.ref zS), some (.int (nI ti)), some (.ref 0), some (.ref 1), some (.int (nI st)), some (.int c5), some (.long Dg), none, some (.int 63), some (.int (pGr (σ0 104) (cL σ0 6).length)), some (.int (nI (pBr (σ0 103) i))), some (.ref q), some (.int (nI i)), l13, l14, l15, l16, l17] [] (a, b) (m, sh, rf, s, t) := by
    intro f
    induction f with
    | zero =>
      intro i l13 l14 l15 l16 l17 s t hi hw hq
      have hi6 : i = 6 := by omega
      subst hi6
      have f5 := (wS_f hw).1
      refine hG 40 _ _ _ _ _ ?_
      repeat (first
        | (conv => whnf
           try dsimp only
           try simp (decide := true) only [g0, f5, zu_same, zu_ne1, zu_ne2, zu_row, zuL_same, zuL_ne1, zuL_ne2, zrow_n1, zx0, zx1, zx2, zx3, nI_1, Nat.reduceAdd, Nat.reduceMul, Int32.reduceAdd, Int32.reduceSub, Int32.reduceMul]
           first
           | refine ⟨zrm (by assumption), ?_⟩
           | refine ⟨vp_inb (by decide), ?_⟩
           | refine ⟨by with_reducible exact zi (by omega), ?_⟩
           | refine ⟨fun h => absurd h (by with_reducible exact nI_ge (by omega) (by omega)), fun _ => ?_⟩
           | refine ⟨fun _ => ?_, fun h => absurd (by with_reducible exact nI_le (by omega) (by omega)) h⟩
           | refine ⟨fun h => absurd h (by with_reducible exact nI_nlt (by omega) (by omega)), fun _ => ?_⟩
           | refine ⟨fun _ => ?_, fun h => absurd (by with_reducible exact nI_lt (by omega) (by omega)) h⟩
           | refine ⟨fun h => absurd h (by with_reducible exact nI_pos (by omega)), fun _ => ?_⟩
           | refine ⟨fun _ => ?_, fun h => absurd (by with_reducible exact nI_0le (by omega)) h⟩
           | refine ⟨fun h => absurd h (by decide), fun _ => ?_⟩
           | refine ⟨fun _ => ?_, fun h => absurd (by decide) h⟩
           | refine ⟨fun _ => ?_, fun h => absurd h (by decide)⟩
           | refine ⟨fun h => absurd (by decide) h, fun _ => ?_⟩
           | refine ⟨by decide, ?_⟩
           | refine ⟨rfl, ?_⟩)
        | (conv => whnf
           fail_if_success refine Exists.intro ?_ ?_
           simp only [g0, f5]))
      try (conv => whnf)
      exact h696 _ _ _ _ _ _ s t hw
    | succ f ih =>
      intro i l13 l14 l15 l16 l17 s t hi hw hq
      have hi6 : i < 6 := by omega
      have h690 : ∀ (l15 l16 l17 : Option Value) (s : zIn) (t : zLo), wS m pc dr sh rf s t σ0 τ → wQ q s σ0 → Gl 690 [some (.ref zS), some (.int (nI ti)), some (.ref 0), some (.ref 1), some (.int (nI st)), some (.int c5), some (.long Dg), none, some (.int 63), some (.int (pGr (σ0 104) (cL σ0 6).length)), some (.int (nI (pBr (σ0 103) (i + 1)))), some (.ref q), some (.int (nI i)), some (.int (fSh (σ0 103 i))), some (.int (σ0 112 i)), l15, l16, l17] [] (a, b) (m, sh, rf, s, t) := by
        intro l15 l16 l17 s t hw hq
        refine hG 40 _ _ _ _ _ ?_
        repeat (conv => whnf
                try dsimp only
                try simp (decide := true) only [zu_same, zu_ne1, zu_ne2, zu_row, zuL_same, zuL_ne1, zuL_ne2, zrow_n1, zx0, zx1, zx2, zx3, nI_1, Nat.reduceAdd, Nat.reduceMul, Int32.reduceAdd, Int32.reduceSub, Int32.reduceMul]
                first
                | refine ⟨zrm (by assumption), ?_⟩
                | refine ⟨vp_inb (by decide), ?_⟩
                | refine ⟨by with_reducible exact zi (by omega), ?_⟩
                | refine ⟨fun h => absurd h (by with_reducible exact nI_ge (by omega) (by omega)), fun _ => ?_⟩
                | refine ⟨fun _ => ?_, fun h => absurd (by with_reducible exact nI_le (by omega) (by omega)) h⟩
                | refine ⟨fun h => absurd h (by with_reducible exact nI_nlt (by omega) (by omega)), fun _ => ?_⟩
                | refine ⟨fun _ => ?_, fun h => absurd (by with_reducible exact nI_lt (by omega) (by omega)) h⟩
                | refine ⟨fun h => absurd h (by with_reducible exact nI_pos (by omega)), fun _ => ?_⟩
                | refine ⟨fun _ => ?_, fun h => absurd (by with_reducible exact nI_0le (by omega)) h⟩
                | refine ⟨fun h => absurd h (by decide), fun _ => ?_⟩
                | refine ⟨fun _ => ?_, fun h => absurd (by decide) h⟩
                | refine ⟨fun _ => ?_, fun h => absurd h (by decide)⟩
                | refine ⟨fun h => absurd (by decide) h, fun _ => ?_⟩
                | refine ⟨by decide, ?_⟩
                | refine ⟨rfl, ?_⟩)
        try (conv => whnf)
        try dsimp only
        try simp (decide := true) only [zu_same, zu_ne1, zu_ne2, zu_row, zuL_same, zuL_ne1, zuL_ne2, zrow_n1, zx0, zx1, zx2, zx3, nI_1, Nat.reduceAdd, Nat.reduceMul, Int32.reduceAdd, Int32.reduceSub, Int32.reduceMul]
        exact ih (i + 1) _ _ _ _ _ s t (by omega) hw hq
      have h561 := hH i hi6 h690
      have h550 : ∀ (l14 l15 l16 l17 : Option Value) (s : zIn) (t : zLo), wS m pc dr sh rf s t σ0 τ → wQ q s σ0 → Gl 550 [some (.ref zS), some (.int (nI ti)), some (.ref 0), some (.ref 1), some (.int (nI st)), some (.int c5), some (.long Dg), none, some (.int 63), some (.int (pGr (σ0 104) (cL σ0 6).length)), some (.int (nI (pBr (σ0 103) (i + 1)))), some (.ref q), some (.int (nI i)), some (.int (fSh (σ0 103 i))), l14, l15, l16, l17] [] (a, b) (m, sh, rf, s, t) := by
        intro l14 l15 l16 l17 s t hw hq
        refine hG 40 _ _ _ _ _ ?_
        repeat (conv => whnf
                try dsimp only
                try simp (decide := true) only [zu_same, zu_ne1, zu_ne2, zu_row, zuL_same, zuL_ne1, zuL_ne2, zrow_n1, zx0, zx1, zx2, zx3, nI_1, Nat.reduceAdd, Nat.reduceMul, Int32.reduceAdd, Int32.reduceSub, Int32.reduceMul]
                first
                | refine ⟨zrm (by assumption), ?_⟩
                | refine ⟨vp_inb (by decide), ?_⟩
                | refine ⟨by with_reducible exact zi (by omega), ?_⟩
                | refine ⟨fun h => absurd h (by with_reducible exact nI_ge (by omega) (by omega)), fun _ => ?_⟩
                | refine ⟨fun _ => ?_, fun h => absurd (by with_reducible exact nI_le (by omega) (by omega)) h⟩
                | refine ⟨fun h => absurd h (by with_reducible exact nI_nlt (by omega) (by omega)), fun _ => ?_⟩
                | refine ⟨fun _ => ?_, fun h => absurd (by with_reducible exact nI_lt (by omega) (by omega)) h⟩
                | refine ⟨fun h => absurd h (by with_reducible exact nI_pos (by omega)), fun _ => ?_⟩
                | refine ⟨fun _ => ?_, fun h => absurd (by with_reducible exact nI_0le (by omega)) h⟩
                | refine ⟨fun h => absurd h (by decide), fun _ => ?_⟩
                | refine ⟨fun _ => ?_, fun h => absurd (by decide) h⟩
                | refine ⟨fun _ => ?_, fun h => absurd h (by decide)⟩
                | refine ⟨fun h => absurd (by decide) h, fun _ => ?_⟩
                | refine ⟨by decide, ?_⟩
                | refine ⟨rfl, ?_⟩)
        try (conv => whnf)
        obtain ⟨-, σx, hDx, hqx⟩ := id hw
        refine ⟨[.ref 0, .int (nI i)], σx, τ, rfl, rfl, hBs, hDx.1, (by show 120 ≤ m; omega), (σx, τ, 6, pc, 4, i), rfl, rfl, ⟨wS_gS h0 hqx, hi6⟩, ?_⟩
        try dsimp only
        refine ⟨σx, τ, rfl, rfl, fun s2 t2 hc hfr => ?_⟩
        replace hw := wS_q hS hDx hqx hc hfr cTq_r
        try replace hq := wq_f hfr hq
        clear hc hfr hDx
        rw [hqx 112 (by decide) (by decide)]
        clear hqx
        repeat (conv => whnf
                try dsimp only
                try simp (decide := true) only [zu_same, zu_ne1, zu_ne2, zu_row, zuL_same, zuL_ne1, zuL_ne2, zrow_n1, zx0, zx1, zx2, zx3, nI_1, Nat.reduceAdd, Nat.reduceMul, Int32.reduceAdd, Int32.reduceSub, Int32.reduceMul]
                first
                | refine ⟨zrm (by assumption), ?_⟩
                | refine ⟨vp_inb (by decide), ?_⟩
                | refine ⟨by with_reducible exact zi (by omega), ?_⟩
                | refine ⟨fun h => absurd h (by with_reducible exact nI_ge (by omega) (by omega)), fun _ => ?_⟩
                | refine ⟨fun _ => ?_, fun h => absurd (by with_reducible exact nI_le (by omega) (by omega)) h⟩
                | refine ⟨fun h => absurd h (by with_reducible exact nI_nlt (by omega) (by omega)), fun _ => ?_⟩
                | refine ⟨fun _ => ?_, fun h => absurd (by with_reducible exact nI_lt (by omega) (by omega)) h⟩
                | refine ⟨fun h => absurd h (by with_reducible exact nI_pos (by omega)), fun _ => ?_⟩
                | refine ⟨fun _ => ?_, fun h => absurd (by with_reducible exact nI_0le (by omega)) h⟩
                | refine ⟨fun h => absurd h (by decide), fun _ => ?_⟩
                | refine ⟨fun _ => ?_, fun h => absurd (by decide) h⟩
                | refine ⟨fun _ => ?_, fun h => absurd h (by decide)⟩
                | refine ⟨fun h => absurd (by decide) h, fun _ => ?_⟩
                | refine ⟨by decide, ?_⟩
                | refine ⟨rfl, ?_⟩)
        try (conv => whnf)
        exact h561 _ _ s2 t2 hw hq
      obtain ⟨w1, w2⟩ := hv9 i hi6
      have h518 : ∀ (l14 l15 l16 l17 : Option Value) (s : zIn) (t : zLo), wS m pc dr sh rf s t σ0 τ → wQ q s σ0 → Gl 518 [some (.ref zS), some (.int (nI ti)), some (.ref 0), some (.ref 1), some (.int (nI st)), some (.int c5), some (.long Dg), none, some (.int 63), some (.int (pGr (σ0 104) (cL σ0 6).length)), some (.int (nI (pBr (σ0 103) (i + 1)))), some (.ref q), some (.int (nI i)), some (.int (fSh (σ0 103 i))), l14, l15, l16, l17] [] (a, b) (m, sh, rf, s, t) := by
        intro l14 l15 l16 l17 s t hw hq
        have y1 := ((wS_f hw).2 i hi6).1
        refine hG 100 _ _ _ _ _ ?_
        repeat (first
          | (conv => whnf
             try dsimp only
             try simp (decide := true) only [g0, r6, h121, w1, w2, y1, nI_clamp (show i < 2 ^ 31 by omega), zu_same, zu_ne1, zu_ne2, zu_row, zuL_same, zuL_ne1, zuL_ne2, zrow_n1, zx0, zx1, zx2, zx3, nI_1, Nat.reduceAdd, Nat.reduceMul, Int32.reduceAdd, Int32.reduceSub, Int32.reduceMul]
             first
             | refine ⟨zrm (by assumption), ?_⟩
             | refine ⟨vp_inb (by decide), ?_⟩
             | refine ⟨by with_reducible exact zi (by omega), ?_⟩
             | refine ⟨fun h => absurd h (by with_reducible exact nI_ge (by omega) (by omega)), fun _ => ?_⟩
             | refine ⟨fun _ => ?_, fun h => absurd (by with_reducible exact nI_le (by omega) (by omega)) h⟩
             | refine ⟨fun h => absurd h (by with_reducible exact nI_nlt (by omega) (by omega)), fun _ => ?_⟩
             | refine ⟨fun _ => ?_, fun h => absurd (by with_reducible exact nI_lt (by omega) (by omega)) h⟩
             | refine ⟨fun h => absurd h (by with_reducible exact nI_pos (by omega)), fun _ => ?_⟩
             | refine ⟨fun _ => ?_, fun h => absurd (by with_reducible exact nI_0le (by omega)) h⟩
             | refine ⟨fun h => absurd h (by decide), fun _ => ?_⟩
             | refine ⟨fun _ => ?_, fun h => absurd (by decide) h⟩
             | refine ⟨fun _ => ?_, fun h => absurd h (by decide)⟩
             | refine ⟨fun h => absurd (by decide) h, fun _ => ?_⟩
             | refine ⟨by decide, ?_⟩
             | refine ⟨rfl, ?_⟩)
          | (conv => whnf
             fail_if_success refine Exists.intro ?_ ?_
             simp only [g0, r6, h121, w1, w2, y1, nI_clamp (show i < 2 ^ 31 by omega)]))
        try (conv => whnf)
        by_cases hneg : σ0 88 i < 0
        · have hbr := inNb h0 hi6 hneg
          first | refine ⟨fun h => absurd hneg (Int32.not_lt.mpr h), fun _ => ?_⟩ | refine ⟨fun _ => ?_, fun h => absurd hneg h⟩
          repeat (conv => whnf
                  try dsimp only
                  try simp (decide := true) only [zu_same, zu_ne1, zu_ne2, zu_row, zuL_same, zuL_ne1, zuL_ne2, zrow_n1, zx0, zx1, zx2, zx3, nI_1, Nat.reduceAdd, Nat.reduceMul, Int32.reduceAdd, Int32.reduceSub, Int32.reduceMul]
                  first
                  | refine ⟨zrm (by assumption), ?_⟩
                  | refine ⟨vp_inb (by decide), ?_⟩
                  | refine ⟨by with_reducible exact zi (by omega), ?_⟩
                  | refine ⟨fun h => absurd h (by with_reducible exact nI_ge (by omega) (by omega)), fun _ => ?_⟩
                  | refine ⟨fun _ => ?_, fun h => absurd (by with_reducible exact nI_le (by omega) (by omega)) h⟩
                  | refine ⟨fun h => absurd h (by with_reducible exact nI_nlt (by omega) (by omega)), fun _ => ?_⟩
                  | refine ⟨fun _ => ?_, fun h => absurd (by with_reducible exact nI_lt (by omega) (by omega)) h⟩
                  | refine ⟨fun h => absurd h (by with_reducible exact nI_pos (by omega)), fun _ => ?_⟩
                  | refine ⟨fun _ => ?_, fun h => absurd (by with_reducible exact nI_0le (by omega)) h⟩
                  | refine ⟨fun h => absurd h (by decide), fun _ => ?_⟩
                  | refine ⟨fun _ => ?_, fun h => absurd (by decide) h⟩
                  | refine ⟨fun _ => ?_, fun h => absurd h (by decide)⟩
                  | refine ⟨fun h => absurd (by decide) h, fun _ => ?_⟩
                  | refine ⟨by decide, ?_⟩
                  | refine ⟨rfl, ?_⟩)
          try (conv => whnf)
          obtain ⟨-, σx, hDx, hqx⟩ := id hw
          refine ⟨[.ref 0, .int (nI i)], σx, τ, rfl, rfl, hBs, hDx.1, (by show 120 ≤ m; omega), (σx, τ, 6, pc, 4, i), rfl, rfl, ⟨wS_gS h0 hqx, hi6⟩, ?_⟩
          try dsimp only
          refine ⟨σx, τ, rfl, rfl, fun s2 t2 hc hfr => ?_⟩
          replace hw := wS_q hS hDx hqx hc hfr cTq_r
          try replace hq := wq_f hfr hq
          clear hc hfr hDx
          rw [if_neg (show ¬ σx 103 i = zBRK by rw [hqx 103 (by decide) (by decide)]; exact hbr)]
          clear hqx
          repeat (conv => whnf
                  try dsimp only
                  try simp (decide := true) only [zu_same, zu_ne1, zu_ne2, zu_row, zuL_same, zuL_ne1, zuL_ne2, zrow_n1, zx0, zx1, zx2, zx3, nI_1, Nat.reduceAdd, Nat.reduceMul, Int32.reduceAdd, Int32.reduceSub, Int32.reduceMul]
                  first
                  | refine ⟨zrm (by assumption), ?_⟩
                  | refine ⟨vp_inb (by decide), ?_⟩
                  | refine ⟨by with_reducible exact zi (by omega), ?_⟩
                  | refine ⟨fun h => absurd h (by with_reducible exact nI_ge (by omega) (by omega)), fun _ => ?_⟩
                  | refine ⟨fun _ => ?_, fun h => absurd (by with_reducible exact nI_le (by omega) (by omega)) h⟩
                  | refine ⟨fun h => absurd h (by with_reducible exact nI_nlt (by omega) (by omega)), fun _ => ?_⟩
                  | refine ⟨fun _ => ?_, fun h => absurd (by with_reducible exact nI_lt (by omega) (by omega)) h⟩
                  | refine ⟨fun h => absurd h (by with_reducible exact nI_pos (by omega)), fun _ => ?_⟩
                  | refine ⟨fun _ => ?_, fun h => absurd (by with_reducible exact nI_0le (by omega)) h⟩
                  | refine ⟨fun h => absurd h (by decide), fun _ => ?_⟩
                  | refine ⟨fun _ => ?_, fun h => absurd (by decide) h⟩
                  | refine ⟨fun _ => ?_, fun h => absurd h (by decide)⟩
                  | refine ⟨fun h => absurd (by decide) h, fun _ => ?_⟩
                  | refine ⟨by decide, ?_⟩
                  | refine ⟨rfl, ?_⟩)
          try (conv => whnf)
          obtain ⟨-, σx, hDx, hqx⟩ := id hw
          refine ⟨[.ref 0, .int (nI i)], σx, τ, rfl, rfl, hBs, hDx.1, (by show 120 ≤ m; omega), (σx, τ, 6, pc, 4, i), rfl, rfl, ⟨wS_gS h0 hqx, hi6⟩, ?_⟩
          try dsimp only
          refine ⟨σx, τ, rfl, rfl, fun s2 t2 hc hfr => ?_⟩
          replace hw := wS_q hS hDx hqx hc hfr cTq_r
          try replace hq := wq_f hfr hq
          clear hc hfr hDx
          rw [hqx 95 (by decide) (by decide), leF h0 hi6, show pLe (σ0 88) (σ0 85) i = 0 from if_pos hneg]
          clear hqx
          repeat (conv => whnf
                  try dsimp only
                  try simp (decide := true) only [zu_same, zu_ne1, zu_ne2, zu_row, zuL_same, zuL_ne1, zuL_ne2, zrow_n1, zx0, zx1, zx2, zx3, nI_1, Nat.reduceAdd, Nat.reduceMul, Int32.reduceAdd, Int32.reduceSub, Int32.reduceMul]
                  first
                  | refine ⟨zrm (by assumption), ?_⟩
                  | refine ⟨vp_inb (by decide), ?_⟩
                  | refine ⟨by with_reducible exact zi (by omega), ?_⟩
                  | refine ⟨fun h => absurd h (by with_reducible exact nI_ge (by omega) (by omega)), fun _ => ?_⟩
                  | refine ⟨fun _ => ?_, fun h => absurd (by with_reducible exact nI_le (by omega) (by omega)) h⟩
                  | refine ⟨fun h => absurd h (by with_reducible exact nI_nlt (by omega) (by omega)), fun _ => ?_⟩
                  | refine ⟨fun _ => ?_, fun h => absurd (by with_reducible exact nI_lt (by omega) (by omega)) h⟩
                  | refine ⟨fun h => absurd h (by with_reducible exact nI_pos (by omega)), fun _ => ?_⟩
                  | refine ⟨fun _ => ?_, fun h => absurd (by with_reducible exact nI_0le (by omega)) h⟩
                  | refine ⟨fun h => absurd h (by decide), fun _ => ?_⟩
                  | refine ⟨fun _ => ?_, fun h => absurd (by decide) h⟩
                  | refine ⟨fun _ => ?_, fun h => absurd h (by decide)⟩
                  | refine ⟨fun h => absurd (by decide) h, fun _ => ?_⟩
                  | refine ⟨by decide, ?_⟩
                  | refine ⟨rfl, ?_⟩)
          try (conv => whnf)
          exact h550 _ _ _ _ s2 t2 hw hq
        · first | refine ⟨fun _ => ?_, fun h => absurd (Int32.not_lt.mp hneg) h⟩ | refine ⟨fun h => absurd h hneg, fun _ => ?_⟩
          repeat (conv => whnf
                  try dsimp only
                  try simp (decide := true) only [zu_same, zu_ne1, zu_ne2, zu_row, zuL_same, zuL_ne1, zuL_ne2, zrow_n1, zx0, zx1, zx2, zx3, nI_1, Nat.reduceAdd, Nat.reduceMul, Int32.reduceAdd, Int32.reduceSub, Int32.reduceMul]
                  first
                  | refine ⟨zrm (by assumption), ?_⟩
                  | refine ⟨vp_inb (by decide), ?_⟩
                  | refine ⟨by with_reducible exact zi (by omega), ?_⟩
                  | refine ⟨fun h => absurd h (by with_reducible exact nI_ge (by omega) (by omega)), fun _ => ?_⟩
                  | refine ⟨fun _ => ?_, fun h => absurd (by with_reducible exact nI_le (by omega) (by omega)) h⟩
                  | refine ⟨fun h => absurd h (by with_reducible exact nI_nlt (by omega) (by omega)), fun _ => ?_⟩
                  | refine ⟨fun _ => ?_, fun h => absurd (by with_reducible exact nI_lt (by omega) (by omega)) h⟩
                  | refine ⟨fun h => absurd h (by with_reducible exact nI_pos (by omega)), fun _ => ?_⟩
                  | refine ⟨fun _ => ?_, fun h => absurd (by with_reducible exact nI_0le (by omega)) h⟩
                  | refine ⟨fun h => absurd h (by decide), fun _ => ?_⟩
                  | refine ⟨fun _ => ?_, fun h => absurd (by decide) h⟩
                  | refine ⟨fun _ => ?_, fun h => absurd h (by decide)⟩
                  | refine ⟨fun h => absurd (by decide) h, fun _ => ?_⟩
                  | refine ⟨by decide, ?_⟩
                  | refine ⟨rfl, ?_⟩)
          try (conv => whnf)
          exact h550 _ _ _ _ s t hw hq
      have f5 := (wS_f hw).1
      obtain ⟨hle, hge⟩ := fSh_kp (h0.1.2.2.2.2.2.1 i (by omega))
      refine hG 100 _ _ _ _ _ ?_
      repeat (first
        | (conv => whnf
           try dsimp only
           try simp (decide := true) only [g0, f5, zu_same, zu_ne1, zu_ne2, zu_row, zuL_same, zuL_ne1, zuL_ne2, zrow_n1, zx0, zx1, zx2, zx3, nI_1, Nat.reduceAdd, Nat.reduceMul, Int32.reduceAdd, Int32.reduceSub, Int32.reduceMul]
           first
           | refine ⟨zrm (by assumption), ?_⟩
           | refine ⟨vp_inb (by decide), ?_⟩
           | refine ⟨by with_reducible exact zi (by omega), ?_⟩
           | refine ⟨fun h => absurd h (by with_reducible exact nI_ge (by omega) (by omega)), fun _ => ?_⟩
           | refine ⟨fun _ => ?_, fun h => absurd (by with_reducible exact nI_le (by omega) (by omega)) h⟩
           | refine ⟨fun h => absurd h (by with_reducible exact nI_nlt (by omega) (by omega)), fun _ => ?_⟩
           | refine ⟨fun _ => ?_, fun h => absurd (by with_reducible exact nI_lt (by omega) (by omega)) h⟩
           | refine ⟨fun h => absurd h (by with_reducible exact nI_pos (by omega)), fun _ => ?_⟩
           | refine ⟨fun _ => ?_, fun h => absurd (by with_reducible exact nI_0le (by omega)) h⟩
           | refine ⟨fun h => absurd h (by decide), fun _ => ?_⟩
           | refine ⟨fun _ => ?_, fun h => absurd (by decide) h⟩
           | refine ⟨fun _ => ?_, fun h => absurd h (by decide)⟩
           | refine ⟨fun h => absurd (by decide) h, fun _ => ?_⟩
           | refine ⟨by decide, ?_⟩
           | refine ⟨rfl, ?_⟩)
        | (conv => whnf
           fail_if_success refine Exists.intro ?_ ?_
           simp only [g0, f5]))
      try (conv => whnf)
      obtain ⟨-, σx, hDx, hqx⟩ := id hw
      refine ⟨[.ref 0, .int (nI i)], σx, τ, rfl, rfl, hBs, hDx.1, (by show 120 ≤ m; omega), (σx, τ, 6, pc, 4, i), rfl, rfl, ⟨wS_gS h0 hqx, hi6⟩, ?_⟩
      try dsimp only
      refine ⟨σx, τ, rfl, rfl, fun s2 t2 hc hfr => ?_⟩
      replace hw := wS_q hS hDx hqx hc hfr cTq_r
      try replace hq := wq_f hfr hq
      clear hc hfr hDx
      rw [hqx 103 (by decide) (by decide)]
      clear hqx
      repeat (conv => whnf
              try dsimp only
              try simp (decide := true) only [zu_same, zu_ne1, zu_ne2, zu_row, zuL_same, zuL_ne1, zuL_ne2, zrow_n1, zx0, zx1, zx2, zx3, nI_1, Nat.reduceAdd, Nat.reduceMul, Int32.reduceAdd, Int32.reduceSub, Int32.reduceMul]
              first
              | refine ⟨zrm (by assumption), ?_⟩
              | refine ⟨vp_inb (by decide), ?_⟩
              | refine ⟨by with_reducible exact zi (by omega), ?_⟩
              | refine ⟨fun h => absurd h (by with_reducible exact nI_ge (by omega) (by omega)), fun _ => ?_⟩
              | refine ⟨fun _ => ?_, fun h => absurd (by with_reducible exact nI_le (by omega) (by omega)) h⟩
              | refine ⟨fun h => absurd h (by with_reducible exact nI_nlt (by omega) (by omega)), fun _ => ?_⟩
              | refine ⟨fun _ => ?_, fun h => absurd (by with_reducible exact nI_lt (by omega) (by omega)) h⟩
              | refine ⟨fun h => absurd h (by with_reducible exact nI_pos (by omega)), fun _ => ?_⟩
              | refine ⟨fun _ => ?_, fun h => absurd (by with_reducible exact nI_0le (by omega)) h⟩
              | refine ⟨fun h => absurd h (by decide), fun _ => ?_⟩
              | refine ⟨fun _ => ?_, fun h => absurd (by decide) h⟩
              | refine ⟨fun _ => ?_, fun h => absurd h (by decide)⟩
              | refine ⟨fun h => absurd (by decide) h, fun _ => ?_⟩
              | refine ⟨by decide, ?_⟩
              | refine ⟨rfl, ?_⟩)
      try (conv => whnf)
      by_cases hbr : σ0 103 i = zBRK
      · have eP : nI (pBr (σ0 103) i) + 1 = nI (pBr (σ0 103) (i + 1)) := by
          show _ = nI (if σ0 103 i = zBRK then pBr (σ0 103) i + 1 else pBr (σ0 103) i)
          rw [if_pos hbr, nI_1]
        have e13 : fSh (σ0 103 i) = 0 := if_pos hbr
        obtain ⟨-, σx, hDx, hqx⟩ := id hw
        refine ⟨[.ref 0, .int (nI i)], σx, τ, rfl, rfl, hBs, hDx.1, (by show 120 ≤ m; omega), (σx, τ, 6, pc, 4, i), rfl, rfl, ⟨wS_gS h0 hqx, hi6⟩, ?_⟩
        try dsimp only
        refine ⟨σx, τ, rfl, rfl, fun s2 t2 hc hfr => ?_⟩
        replace hw := wS_q hS hDx hqx hc hfr cTq_r
        try replace hq := wq_f hfr hq
        clear hc hfr hDx
        rw [if_pos (show σx 103 i = zBRK by rw [hqx 103 (by decide) (by decide)]; exact hbr)]
        clear hqx
        repeat (conv => whnf
                try dsimp only
                try simp (decide := true) only [zu_same, zu_ne1, zu_ne2, zu_row, zuL_same, zuL_ne1, zuL_ne2, zrow_n1, zx0, zx1, zx2, zx3, nI_1, Nat.reduceAdd, Nat.reduceMul, Int32.reduceAdd, Int32.reduceSub, Int32.reduceMul]
                first
                | refine ⟨zrm (by assumption), ?_⟩
                | refine ⟨vp_inb (by decide), ?_⟩
                | refine ⟨by with_reducible exact zi (by omega), ?_⟩
                | refine ⟨fun h => absurd h (by with_reducible exact nI_ge (by omega) (by omega)), fun _ => ?_⟩
                | refine ⟨fun _ => ?_, fun h => absurd (by with_reducible exact nI_le (by omega) (by omega)) h⟩
                | refine ⟨fun h => absurd h (by with_reducible exact nI_nlt (by omega) (by omega)), fun _ => ?_⟩
                | refine ⟨fun _ => ?_, fun h => absurd (by with_reducible exact nI_lt (by omega) (by omega)) h⟩
                | refine ⟨fun h => absurd h (by with_reducible exact nI_pos (by omega)), fun _ => ?_⟩
                | refine ⟨fun _ => ?_, fun h => absurd (by with_reducible exact nI_0le (by omega)) h⟩
                | refine ⟨fun h => absurd h (by decide), fun _ => ?_⟩
                | refine ⟨fun _ => ?_, fun h => absurd (by decide) h⟩
                | refine ⟨fun _ => ?_, fun h => absurd h (by decide)⟩
                | refine ⟨fun h => absurd (by decide) h, fun _ => ?_⟩
                | refine ⟨by decide, ?_⟩
                | refine ⟨rfl, ?_⟩)
        try (conv => whnf)
        rw [eP]
        refine ⟨fun h => absurd h (Int32.not_lt.mpr hle), fun _ => ?_⟩
        repeat (conv => whnf
                try dsimp only
                try simp (decide := true) only [zu_same, zu_ne1, zu_ne2, zu_row, zuL_same, zuL_ne1, zuL_ne2, zrow_n1, zx0, zx1, zx2, zx3, nI_1, Nat.reduceAdd, Nat.reduceMul, Int32.reduceAdd, Int32.reduceSub, Int32.reduceMul]
                first
                | refine ⟨zrm (by assumption), ?_⟩
                | refine ⟨vp_inb (by decide), ?_⟩
                | refine ⟨by with_reducible exact zi (by omega), ?_⟩
                | refine ⟨fun h => absurd h (by with_reducible exact nI_ge (by omega) (by omega)), fun _ => ?_⟩
                | refine ⟨fun _ => ?_, fun h => absurd (by with_reducible exact nI_le (by omega) (by omega)) h⟩
                | refine ⟨fun h => absurd h (by with_reducible exact nI_nlt (by omega) (by omega)), fun _ => ?_⟩
                | refine ⟨fun _ => ?_, fun h => absurd (by with_reducible exact nI_lt (by omega) (by omega)) h⟩
                | refine ⟨fun h => absurd h (by with_reducible exact nI_pos (by omega)), fun _ => ?_⟩
                | refine ⟨fun _ => ?_, fun h => absurd (by with_reducible exact nI_0le (by omega)) h⟩
                | refine ⟨fun h => absurd h (by decide), fun _ => ?_⟩
                | refine ⟨fun _ => ?_, fun h => absurd (by decide) h⟩
                | refine ⟨fun _ => ?_, fun h => absurd h (by decide)⟩
                | refine ⟨fun h => absurd (by decide) h, fun _ => ?_⟩
                | refine ⟨by decide, ?_⟩
                | refine ⟨rfl, ?_⟩)
        try (conv => whnf)
        refine ⟨fun h => absurd h (Int32.not_lt.mpr hge), fun _ => ?_⟩
        repeat (conv => whnf
                try dsimp only
                try simp (decide := true) only [zu_same, zu_ne1, zu_ne2, zu_row, zuL_same, zuL_ne1, zuL_ne2, zrow_n1, zx0, zx1, zx2, zx3, nI_1, Nat.reduceAdd, Nat.reduceMul, Int32.reduceAdd, Int32.reduceSub, Int32.reduceMul]
                first
                | refine ⟨zrm (by assumption), ?_⟩
                | refine ⟨vp_inb (by decide), ?_⟩
                | refine ⟨by with_reducible exact zi (by omega), ?_⟩
                | refine ⟨fun h => absurd h (by with_reducible exact nI_ge (by omega) (by omega)), fun _ => ?_⟩
                | refine ⟨fun _ => ?_, fun h => absurd (by with_reducible exact nI_le (by omega) (by omega)) h⟩
                | refine ⟨fun h => absurd h (by with_reducible exact nI_nlt (by omega) (by omega)), fun _ => ?_⟩
                | refine ⟨fun _ => ?_, fun h => absurd (by with_reducible exact nI_lt (by omega) (by omega)) h⟩
                | refine ⟨fun h => absurd h (by with_reducible exact nI_pos (by omega)), fun _ => ?_⟩
                | refine ⟨fun _ => ?_, fun h => absurd (by with_reducible exact nI_0le (by omega)) h⟩
                | refine ⟨fun h => absurd h (by decide), fun _ => ?_⟩
                | refine ⟨fun _ => ?_, fun h => absurd (by decide) h⟩
                | refine ⟨fun _ => ?_, fun h => absurd h (by decide)⟩
                | refine ⟨fun h => absurd (by decide) h, fun _ => ?_⟩
                | refine ⟨by decide, ?_⟩
                | refine ⟨rfl, ?_⟩)
        try (conv => whnf)
        obtain ⟨-, σx, hDx, hqx⟩ := id hw
        refine ⟨[.ref 0, .int (nI i)], σx, τ, rfl, rfl, hBs, hDx.1, (by show 120 ≤ m; omega), (σx, τ, 6, pc, 4, i), rfl, rfl, ⟨wS_gS h0 hqx, hi6⟩, ?_⟩
        try dsimp only
        refine ⟨σx, τ, rfl, rfl, fun s2 t2 hc hfr => ?_⟩
        replace hw := wS_q hS hDx hqx hc hfr cTq_r
        try replace hq := wq_f hfr hq
        clear hc hfr hDx
        rw [if_pos (show σx 103 i = zBRK by rw [hqx 103 (by decide) (by decide)]; exact hbr)]
        clear hqx
        repeat (conv => whnf
                try dsimp only
                try simp (decide := true) only [zu_same, zu_ne1, zu_ne2, zu_row, zuL_same, zuL_ne1, zuL_ne2, zrow_n1, zx0, zx1, zx2, zx3, nI_1, Nat.reduceAdd, Nat.reduceMul, Int32.reduceAdd, Int32.reduceSub, Int32.reduceMul]
                first
                | refine ⟨zrm (by assumption), ?_⟩
                | refine ⟨vp_inb (by decide), ?_⟩
                | refine ⟨by with_reducible exact zi (by omega), ?_⟩
                | refine ⟨fun h => absurd h (by with_reducible exact nI_ge (by omega) (by omega)), fun _ => ?_⟩
                | refine ⟨fun _ => ?_, fun h => absurd (by with_reducible exact nI_le (by omega) (by omega)) h⟩
                | refine ⟨fun h => absurd h (by with_reducible exact nI_nlt (by omega) (by omega)), fun _ => ?_⟩
                | refine ⟨fun _ => ?_, fun h => absurd (by with_reducible exact nI_lt (by omega) (by omega)) h⟩
                | refine ⟨fun h => absurd h (by with_reducible exact nI_pos (by omega)), fun _ => ?_⟩
                | refine ⟨fun _ => ?_, fun h => absurd (by with_reducible exact nI_0le (by omega)) h⟩
                | refine ⟨fun h => absurd h (by decide), fun _ => ?_⟩
                | refine ⟨fun _ => ?_, fun h => absurd (by decide) h⟩
                | refine ⟨fun _ => ?_, fun h => absurd h (by decide)⟩
                | refine ⟨fun h => absurd (by decide) h, fun _ => ?_⟩
                | refine ⟨by decide, ?_⟩
                | refine ⟨rfl, ?_⟩)
        try (conv => whnf)
        first | refine ⟨fun h => absurd e13 h, fun _ => ?_⟩ | refine ⟨fun _ => ?_, fun h => absurd e13 h⟩
        repeat (first
          | (conv => whnf
             try dsimp only
             try simp (decide := true) only [hq2, nI_clamp (show i < 2 ^ 31 by omega), zu_same, zu_ne1, zu_ne2, zu_row, zuL_same, zuL_ne1, zuL_ne2, zrow_n1, zx0, zx1, zx2, zx3, nI_1, Nat.reduceAdd, Nat.reduceMul, Int32.reduceAdd, Int32.reduceSub, Int32.reduceMul]
             first
             | refine ⟨zrm (by assumption), ?_⟩
             | refine ⟨vp_inb (by decide), ?_⟩
             | refine ⟨by with_reducible exact zi (by omega), ?_⟩
             | refine ⟨fun h => absurd h (by with_reducible exact nI_ge (by omega) (by omega)), fun _ => ?_⟩
             | refine ⟨fun _ => ?_, fun h => absurd (by with_reducible exact nI_le (by omega) (by omega)) h⟩
             | refine ⟨fun h => absurd h (by with_reducible exact nI_nlt (by omega) (by omega)), fun _ => ?_⟩
             | refine ⟨fun _ => ?_, fun h => absurd (by with_reducible exact nI_lt (by omega) (by omega)) h⟩
             | refine ⟨fun h => absurd h (by with_reducible exact nI_pos (by omega)), fun _ => ?_⟩
             | refine ⟨fun _ => ?_, fun h => absurd (by with_reducible exact nI_0le (by omega)) h⟩
             | refine ⟨fun h => absurd h (by decide), fun _ => ?_⟩
             | refine ⟨fun _ => ?_, fun h => absurd (by decide) h⟩
             | refine ⟨fun _ => ?_, fun h => absurd h (by decide)⟩
             | refine ⟨fun h => absurd (by decide) h, fun _ => ?_⟩
             | refine ⟨by decide, ?_⟩
             | refine ⟨rfl, ?_⟩)
          | (conv => whnf
             fail_if_success refine Exists.intro ?_ ?_
             simp only [hq2, nI_clamp (show i < 2 ^ 31 by omega)]))
        try (conv => whnf)
        refine ⟨fun _ => ?_, fun _ => ?_⟩
        · skip
          repeat (conv => whnf
                  try dsimp only
                  try simp (decide := true) only [zu_same, zu_ne1, zu_ne2, zu_row, zuL_same, zuL_ne1, zuL_ne2, zrow_n1, zx0, zx1, zx2, zx3, nI_1, Nat.reduceAdd, Nat.reduceMul, Int32.reduceAdd, Int32.reduceSub, Int32.reduceMul]
                  first
                  | refine ⟨zrm (by assumption), ?_⟩
                  | refine ⟨vp_inb (by decide), ?_⟩
                  | refine ⟨by with_reducible exact zi (by omega), ?_⟩
                  | refine ⟨fun h => absurd h (by with_reducible exact nI_ge (by omega) (by omega)), fun _ => ?_⟩
                  | refine ⟨fun _ => ?_, fun h => absurd (by with_reducible exact nI_le (by omega) (by omega)) h⟩
                  | refine ⟨fun h => absurd h (by with_reducible exact nI_nlt (by omega) (by omega)), fun _ => ?_⟩
                  | refine ⟨fun _ => ?_, fun h => absurd (by with_reducible exact nI_lt (by omega) (by omega)) h⟩
                  | refine ⟨fun h => absurd h (by with_reducible exact nI_pos (by omega)), fun _ => ?_⟩
                  | refine ⟨fun _ => ?_, fun h => absurd (by with_reducible exact nI_0le (by omega)) h⟩
                  | refine ⟨fun h => absurd h (by decide), fun _ => ?_⟩
                  | refine ⟨fun _ => ?_, fun h => absurd (by decide) h⟩
                  | refine ⟨fun _ => ?_, fun h => absurd h (by decide)⟩
                  | refine ⟨fun h => absurd (by decide) h, fun _ => ?_⟩
                  | refine ⟨by decide, ?_⟩
                  | refine ⟨rfl, ?_⟩)
          try (conv => whnf)
          exact h518 _ _ _ _ s2 t2 hw hq
        · skip
          repeat (conv => whnf
                  try dsimp only
                  try simp (decide := true) only [zu_same, zu_ne1, zu_ne2, zu_row, zuL_same, zuL_ne1, zuL_ne2, zrow_n1, zx0, zx1, zx2, zx3, nI_1, Nat.reduceAdd, Nat.reduceMul, Int32.reduceAdd, Int32.reduceSub, Int32.reduceMul]
                  first
                  | refine ⟨zrm (by assumption), ?_⟩
                  | refine ⟨vp_inb (by decide), ?_⟩
                  | refine ⟨by with_reducible exact zi (by omega), ?_⟩
                  | refine ⟨fun h => absurd h (by with_reducible exact nI_ge (by omega) (by omega)), fun _ => ?_⟩
                  | refine ⟨fun _ => ?_, fun h => absurd (by with_reducible exact nI_le (by omega) (by omega)) h⟩
                  | refine ⟨fun h => absurd h (by with_reducible exact nI_nlt (by omega) (by omega)), fun _ => ?_⟩
                  | refine ⟨fun _ => ?_, fun h => absurd (by with_reducible exact nI_lt (by omega) (by omega)) h⟩
                  | refine ⟨fun h => absurd h (by with_reducible exact nI_pos (by omega)), fun _ => ?_⟩
                  | refine ⟨fun _ => ?_, fun h => absurd (by with_reducible exact nI_0le (by omega)) h⟩
                  | refine ⟨fun h => absurd h (by decide), fun _ => ?_⟩
                  | refine ⟨fun _ => ?_, fun h => absurd (by decide) h⟩
                  | refine ⟨fun _ => ?_, fun h => absurd h (by decide)⟩
                  | refine ⟨fun h => absurd (by decide) h, fun _ => ?_⟩
                  | refine ⟨by decide, ?_⟩
                  | refine ⟨rfl, ?_⟩)
          try (conv => whnf)
          obtain ⟨-, σx, hDx, hqx⟩ := id hw
          refine ⟨[.ref 0, .int (nI i)], σx, τ, rfl, rfl, hBs, hDx.1, (by show 120 ≤ m; omega), (σx, τ, 6, pc, 4, i), rfl, rfl, ⟨wS_gS h0 hqx, hi6⟩, ?_⟩
          try dsimp only
          refine ⟨σx, τ, rfl, rfl, fun s2 t2 hc hfr => ?_⟩
          replace hw := wS_q hS hDx hqx hc hfr cTq_r
          try replace hq := wq_f hfr hq
          clear hc hfr hDx
          rw [if_pos (show σx 103 i = zBRK by rw [hqx 103 (by decide) (by decide)]; exact hbr)]
          clear hqx
          repeat (conv => whnf
                  try dsimp only
                  try simp (decide := true) only [zu_same, zu_ne1, zu_ne2, zu_row, zuL_same, zuL_ne1, zuL_ne2, zrow_n1, zx0, zx1, zx2, zx3, nI_1, Nat.reduceAdd, Nat.reduceMul, Int32.reduceAdd, Int32.reduceSub, Int32.reduceMul]
                  first
                  | refine ⟨zrm (by assumption), ?_⟩
                  | refine ⟨vp_inb (by decide), ?_⟩
                  | refine ⟨by with_reducible exact zi (by omega), ?_⟩
                  | refine ⟨fun h => absurd h (by with_reducible exact nI_ge (by omega) (by omega)), fun _ => ?_⟩
                  | refine ⟨fun _ => ?_, fun h => absurd (by with_reducible exact nI_le (by omega) (by omega)) h⟩
                  | refine ⟨fun h => absurd h (by with_reducible exact nI_nlt (by omega) (by omega)), fun _ => ?_⟩
                  | refine ⟨fun _ => ?_, fun h => absurd (by with_reducible exact nI_lt (by omega) (by omega)) h⟩
                  | refine ⟨fun h => absurd h (by with_reducible exact nI_pos (by omega)), fun _ => ?_⟩
                  | refine ⟨fun _ => ?_, fun h => absurd (by with_reducible exact nI_0le (by omega)) h⟩
                  | refine ⟨fun h => absurd h (by decide), fun _ => ?_⟩
                  | refine ⟨fun _ => ?_, fun h => absurd (by decide) h⟩
                  | refine ⟨fun _ => ?_, fun h => absurd h (by decide)⟩
                  | refine ⟨fun h => absurd (by decide) h, fun _ => ?_⟩
                  | refine ⟨by decide, ?_⟩
                  | refine ⟨rfl, ?_⟩)
          try (conv => whnf)
          exact h518 _ _ _ _ s2 t2 hw hq
      · have eP : pBr (σ0 103) i = pBr (σ0 103) (i + 1) := by
          show _ = (if σ0 103 i = zBRK then _ else _)
          rw [if_neg hbr]
        obtain ⟨-, σx, hDx, hqx⟩ := id hw
        refine ⟨[.ref 0, .int (nI i)], σx, τ, rfl, rfl, hBs, hDx.1, (by show 120 ≤ m; omega), (σx, τ, 6, pc, 4, i), rfl, rfl, ⟨wS_gS h0 hqx, hi6⟩, ?_⟩
        try dsimp only
        refine ⟨σx, τ, rfl, rfl, fun s2 t2 hc hfr => ?_⟩
        replace hw := wS_q hS hDx hqx hc hfr cTq_r
        try replace hq := wq_f hfr hq
        clear hc hfr hDx
        rw [if_neg (show ¬ σx 103 i = zBRK by rw [hqx 103 (by decide) (by decide)]; exact hbr)]
        clear hqx
        repeat (first
          | (conv => whnf
             try dsimp only
             try simp (decide := true) only [Int32.add_zero, zu_same, zu_ne1, zu_ne2, zu_row, zuL_same, zuL_ne1, zuL_ne2, zrow_n1, zx0, zx1, zx2, zx3, nI_1, Nat.reduceAdd, Nat.reduceMul, Int32.reduceAdd, Int32.reduceSub, Int32.reduceMul]
             first
             | refine ⟨zrm (by assumption), ?_⟩
             | refine ⟨vp_inb (by decide), ?_⟩
             | refine ⟨by with_reducible exact zi (by omega), ?_⟩
             | refine ⟨fun h => absurd h (by with_reducible exact nI_ge (by omega) (by omega)), fun _ => ?_⟩
             | refine ⟨fun _ => ?_, fun h => absurd (by with_reducible exact nI_le (by omega) (by omega)) h⟩
             | refine ⟨fun h => absurd h (by with_reducible exact nI_nlt (by omega) (by omega)), fun _ => ?_⟩
             | refine ⟨fun _ => ?_, fun h => absurd (by with_reducible exact nI_lt (by omega) (by omega)) h⟩
             | refine ⟨fun h => absurd h (by with_reducible exact nI_pos (by omega)), fun _ => ?_⟩
             | refine ⟨fun _ => ?_, fun h => absurd (by with_reducible exact nI_0le (by omega)) h⟩
             | refine ⟨fun h => absurd h (by decide), fun _ => ?_⟩
             | refine ⟨fun _ => ?_, fun h => absurd (by decide) h⟩
             | refine ⟨fun _ => ?_, fun h => absurd h (by decide)⟩
             | refine ⟨fun h => absurd (by decide) h, fun _ => ?_⟩
             | refine ⟨by decide, ?_⟩
             | refine ⟨rfl, ?_⟩)
          | (conv => whnf
             fail_if_success refine Exists.intro ?_ ?_
             simp only [Int32.add_zero]))
        try (conv => whnf)
        rw [eP]
        refine ⟨fun h => absurd h (Int32.not_lt.mpr hle), fun _ => ?_⟩
        repeat (conv => whnf
                try dsimp only
                try simp (decide := true) only [zu_same, zu_ne1, zu_ne2, zu_row, zuL_same, zuL_ne1, zuL_ne2, zrow_n1, zx0, zx1, zx2, zx3, nI_1, Nat.reduceAdd, Nat.reduceMul, Int32.reduceAdd, Int32.reduceSub, Int32.reduceMul]
                first
                | refine ⟨zrm (by assumption), ?_⟩
                | refine ⟨vp_inb (by decide), ?_⟩
                | refine ⟨by with_reducible exact zi (by omega), ?_⟩
                | refine ⟨fun h => absurd h (by with_reducible exact nI_ge (by omega) (by omega)), fun _ => ?_⟩
                | refine ⟨fun _ => ?_, fun h => absurd (by with_reducible exact nI_le (by omega) (by omega)) h⟩
                | refine ⟨fun h => absurd h (by with_reducible exact nI_nlt (by omega) (by omega)), fun _ => ?_⟩
                | refine ⟨fun _ => ?_, fun h => absurd (by with_reducible exact nI_lt (by omega) (by omega)) h⟩
                | refine ⟨fun h => absurd h (by with_reducible exact nI_pos (by omega)), fun _ => ?_⟩
                | refine ⟨fun _ => ?_, fun h => absurd (by with_reducible exact nI_0le (by omega)) h⟩
                | refine ⟨fun h => absurd h (by decide), fun _ => ?_⟩
                | refine ⟨fun _ => ?_, fun h => absurd (by decide) h⟩
                | refine ⟨fun _ => ?_, fun h => absurd h (by decide)⟩
                | refine ⟨fun h => absurd (by decide) h, fun _ => ?_⟩
                | refine ⟨by decide, ?_⟩
                | refine ⟨rfl, ?_⟩)
        try (conv => whnf)
        refine ⟨fun h => absurd h (Int32.not_lt.mpr hge), fun _ => ?_⟩
        repeat (conv => whnf
                try dsimp only
                try simp (decide := true) only [zu_same, zu_ne1, zu_ne2, zu_row, zuL_same, zuL_ne1, zuL_ne2, zrow_n1, zx0, zx1, zx2, zx3, nI_1, Nat.reduceAdd, Nat.reduceMul, Int32.reduceAdd, Int32.reduceSub, Int32.reduceMul]
                first
                | refine ⟨zrm (by assumption), ?_⟩
                | refine ⟨vp_inb (by decide), ?_⟩
                | refine ⟨by with_reducible exact zi (by omega), ?_⟩
                | refine ⟨fun h => absurd h (by with_reducible exact nI_ge (by omega) (by omega)), fun _ => ?_⟩
                | refine ⟨fun _ => ?_, fun h => absurd (by with_reducible exact nI_le (by omega) (by omega)) h⟩
                | refine ⟨fun h => absurd h (by with_reducible exact nI_nlt (by omega) (by omega)), fun _ => ?_⟩
                | refine ⟨fun _ => ?_, fun h => absurd (by with_reducible exact nI_lt (by omega) (by omega)) h⟩
                | refine ⟨fun h => absurd h (by with_reducible exact nI_pos (by omega)), fun _ => ?_⟩
                | refine ⟨fun _ => ?_, fun h => absurd (by with_reducible exact nI_0le (by omega)) h⟩
                | refine ⟨fun h => absurd h (by decide), fun _ => ?_⟩
                | refine ⟨fun _ => ?_, fun h => absurd (by decide) h⟩
                | refine ⟨fun _ => ?_, fun h => absurd h (by decide)⟩
                | refine ⟨fun h => absurd (by decide) h, fun _ => ?_⟩
                | refine ⟨by decide, ?_⟩
                | refine ⟨rfl, ?_⟩)
        try (conv => whnf)
        obtain ⟨-, σx, hDx, hqx⟩ := id hw
        refine ⟨[.ref 0, .int (nI i)], σx, τ, rfl, rfl, hBs, hDx.1, (by show 120 ≤ m; omega), (σx, τ, 6, pc, 4, i), rfl, rfl, ⟨wS_gS h0 hqx, hi6⟩, ?_⟩
        try dsimp only
        refine ⟨σx, τ, rfl, rfl, fun s2 t2 hc hfr => ?_⟩
        replace hw := wS_q hS hDx hqx hc hfr cTq_r
        try replace hq := wq_f hfr hq
        clear hc hfr hDx
        rw [if_neg (show ¬ σx 103 i = zBRK by rw [hqx 103 (by decide) (by decide)]; exact hbr)]
        clear hqx
        have hz : s2 q i = 0 := by
          by_cases e : s2 q i = 0
          · exact e
          · exact absurd (notedB h0 hi6 (hq.2 i (by omega) e)) hbr
        repeat (first
          | (conv => whnf
             try dsimp only
             try simp (decide := true) only [hq2, hz, nI_clamp (show i < 2 ^ 31 by omega), zu_same, zu_ne1, zu_ne2, zu_row, zuL_same, zuL_ne1, zuL_ne2, zrow_n1, zx0, zx1, zx2, zx3, nI_1, Nat.reduceAdd, Nat.reduceMul, Int32.reduceAdd, Int32.reduceSub, Int32.reduceMul]
             first
             | refine ⟨zrm (by assumption), ?_⟩
             | refine ⟨vp_inb (by decide), ?_⟩
             | refine ⟨by with_reducible exact zi (by omega), ?_⟩
             | refine ⟨fun h => absurd h (by with_reducible exact nI_ge (by omega) (by omega)), fun _ => ?_⟩
             | refine ⟨fun _ => ?_, fun h => absurd (by with_reducible exact nI_le (by omega) (by omega)) h⟩
             | refine ⟨fun h => absurd h (by with_reducible exact nI_nlt (by omega) (by omega)), fun _ => ?_⟩
             | refine ⟨fun _ => ?_, fun h => absurd (by with_reducible exact nI_lt (by omega) (by omega)) h⟩
             | refine ⟨fun h => absurd h (by with_reducible exact nI_pos (by omega)), fun _ => ?_⟩
             | refine ⟨fun _ => ?_, fun h => absurd (by with_reducible exact nI_0le (by omega)) h⟩
             | refine ⟨fun h => absurd h (by decide), fun _ => ?_⟩
             | refine ⟨fun _ => ?_, fun h => absurd (by decide) h⟩
             | refine ⟨fun _ => ?_, fun h => absurd h (by decide)⟩
             | refine ⟨fun h => absurd (by decide) h, fun _ => ?_⟩
             | refine ⟨by decide, ?_⟩
             | refine ⟨rfl, ?_⟩)
          | (conv => whnf
             fail_if_success refine Exists.intro ?_ ?_
             simp only [hq2, hz, nI_clamp (show i < 2 ^ 31 by omega)]))
        try (conv => whnf)
        exact h518 _ _ _ _ s2 t2 hw hq
  intro l13 l14 l15 l16 l17 s t hw hq
  exact loop 6 0 _ _ _ _ _ s t rfl hw hq

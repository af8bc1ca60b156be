/-! ===== the law: a case loaded, a step's end ===== -/
set_option maxRecDepth 100000
set_option maxHeartbeats 4000000
theorem cLd_one {σ : zIn} {i : Nat} (hi : σ 88 i < 0) (h : ∀ k, k < 6 → ((¬ σ 89 k = σ 115 k) ↔ k = i)) : ∀ k, k ≤ 6 → cLd σ k = if i < k then 1 else 0
  | 0, _ => rfl
  | k + 1, hk => by
    have ih := cLd_one hi h k (by omega)
    have hq := h k (by omega)
    unfold cLd
    by_cases e : k = i
    · rw [if_pos ⟨by rw [e]; exact hi, hq.mpr e⟩, ih, if_neg (by omega), if_pos (by omega)]
    · rw [if_neg (fun q => e (hq.mp q.2)), ih]
      by_cases e2 : i < k
      · rw [if_pos e2, if_pos (by omega)]
      · rw [if_neg e2, if_neg (by omega)]
theorem cLd_no {σ : zIn} (h : ∀ k, k < 6 → σ 89 k = σ 115 k) : ∀ k, k ≤ 6 → cLd σ k = 0
  | 0, _ => rfl
  | k + 1, hk => by
    unfold cLd
    rw [if_neg (fun q => q.2 (h k (by omega))), cLd_no h k (by omega)]
theorem lw_M (Gl : zK) (hG : zSt (zCL_lawM calM) [40, 968, 1023] Gl) {q ti st m pc dr a b : Nat} {c5 c9 c10 : Int32} {Dg : Int64} (hκ : a ≤ 200000 ∧ b ≤ 2000000) {sh : zSh} {rf : zRf} {σ0 : zIn} {τ : zLo} (hS : lS m 4 6 sh rf) (h0 : gS σ0 τ 6 pc 4) (hDg : Dg = cDg σ0 τ 6 pc 4) (hk9 : ∀ v, v < 6 → kq (σ0 89 v)) (h118 : σ0 118 1 = nI 6) (h115 : ∀ j, j < 16 → σ0 115 j = σ0 89 j) {i v : Nat} (hi : i < 6) (hv : v < 6)
    (h40 : ∀ (l6 l7 l8 l9 l10 l11 l12 l13 l14 l15 l16 l17 : Option Value) (s : zIn) (t : zLo) (σ1 : zIn), lD 4 6 pc dr s t σ1 τ → cI σ1 τ 6 pc 4 → cFl σ1 6 → (∀ v, v < 6 → kq (σ1 89 v)) → Gl 40 [some (.ref zS), some (.int (nI ti)), some (.ref 0), some (.ref 1), some (.int (nI (st + 1))), some (.int c5), l6, l7, l8, l9, l10, l11, l12, l13, l14, l15, l16, l17] [] (a, b) (m, sh, rf, s, t)) :
    ∀ (l14 l15 l16 l17 : Option Value) (s : zIn) (t : zLo), wS m pc dr sh rf s t σ0 τ → Gl 968 [some (.ref zS), some (.int (nI ti)), some (.ref 0), some (.ref 1), some (.int (nI st)), some (.int c5), some (.long Dg), none, some (.int 63), some (.int c9), some (.int c10), some (.ref q), some (.int (nI i)), some (.int (nI v)), l14, l15, l16, l17] [] (a, b) (m, sh, rf, s, t) := by
  obtain ⟨⟨hm, -⟩, hBs, h999, ⟨g0, -, h121, -⟩, ⟨r0, r1, -, r6, -⟩, -, hv9⟩ := id hS
  obtain ⟨w1, w2⟩ := hv9 i hi
  have h1023 : ∀ (l14 l15 l16 l17 : Option Value) (s : zIn) (t : zLo) (σ2 : zIn), (∀ r, r ≠ 0 → r ≠ 101 → r < 107 → σ2 r = σ0 r) → (σ2 0 13 = 1 ∧ σ2 0 14 = 0 ∧ σ2 0 15 = 0) → lD 4 6 pc dr s t σ2 τ → Gl 1023 [some (.ref zS), some (.int (nI ti)), some (.ref 0), some (.ref 1), some (.int (nI st)), some (.int c5), some (.long Dg), none, some (.int 63), some (.int c9), some (.int c10), some (.ref q), some (.int (nI i)), some (.int (nI v)), l14, l15, l16, l17] [] (a, b) (m, sh, rf, s, t) := by
    intro l14 l15 l16 l17 s t σ2 hr hfl hD
    have hI2 : cI σ2 τ 6 pc 4 := cI_cg h0.1 (fun r h1 h2 => hr r h1 (by omega) (by omega)) (hr 100 (by decide) (by decide) (by decide)) (by rw [hr 103 (by decide) (by decide) (by decide)]; exact h0.1.2.2.2.2.2.1)
    have hF2 : cFl σ2 6 := ⟨Or.inr ⟨hfl.1, cOr_cg (gS_or h0) (fun r h1 h2 => hr r h1 (by omega) (by omega)), pFt_cg (gS_ft h0) (fun r h1 h2 => hr r h1 (by omega) (by omega))⟩, Or.inl hfl.2.1, Or.inl hfl.2.2⟩
    refine hG 100 _ _ _ _ _ ?_
    repeat (conv => whnf
            try dsimp only
            try simp (decide := true) only [zu_same, zu_ne1, zu_ne2, zu_row, zuL_same, zuL_ne1, zuL_ne2, zrow_n1, zx0, zx1, zx2, zx3, nI_1, Nat.reduceAdd, Nat.reduceMul, Int32.reduceAdd, Int32.reduceSub, Int32.reduceMul]
            first
            | refine ⟨zrm (by assumption), ?_⟩
            | refine ⟨vp_inb (by decide), ?_⟩
            | refine ⟨by with_reducible exact zi (by omega), ?_⟩
            | refine ⟨fun h => absurd h (by with_reducible exact nI_ge (by omega) (by omega)), fun _ => ?_⟩
            | refine ⟨fun _ => ?_, fun h => absurd (by with_reducible exact nI_le (by omega) (by omega)) h⟩
            | refine ⟨fun h => absurd h (by with_reducible exact nI_nlt (by omega) (by omega)), fun _ => ?_⟩
            | refine ⟨fun _ => ?_, fun h => absurd (by with_reducible exact nI_lt (by omega) (by omega)) h⟩
            | refine ⟨fun h => absurd h (by with_reducible exact nI_pos (by omega)), fun _ => ?_⟩
            | refine ⟨fun _ => ?_, fun h => absurd (by with_reducible exact nI_0le (by omega)) h⟩
            | refine ⟨fun h => absurd h (by decide), fun _ => ?_⟩
            | refine ⟨fun _ => ?_, fun h => absurd (by decide) h⟩
            | refine ⟨fun _ => ?_, fun h => absurd h (by decide)⟩
            | refine ⟨fun h => absurd (by decide) h, fun _ => ?_⟩
            | refine ⟨by decide, ?_⟩
            | refine ⟨rfl, ?_⟩)
    try (conv => whnf)
    refine ⟨[.ref 0], σ2, τ, rfl, rfl, hBs, hD.1, (by show 120 ≤ m; omega), (σ2, τ, 6, pc, 4), rfl, rfl, ⟨hI2, hF2⟩, ?_⟩
    try dsimp only
    rintro _ _ ⟨σ3, rfl, rfl, hg3, -, hf2⟩
    have hf3 : ∀ r, r ≠ 0 → r < 101 → σ3 r = σ2 r := hf2 hfl.1
    have hr3 : ∀ r, r ≠ 0 → r < 101 → σ3 r = σ0 r := fun r h h' => (hf3 r h h').trans (hr r h (by omega) (by omega))
    refine ⟨σ3, τ, rfl, rfl, fun s2 t2 hc hfr => ?_⟩
    have hD3 : lD 4 6 pc dr s2 t2 σ3 τ := lD_q hD hc hfr ⟨hf3 100 (by decide) (by decide), hf3 15 (by decide) (by decide), hf3 16 (by decide) (by decide), hf3 87 (by decide) (by decide), hf3 88 (by decide) (by decide), hf3 89 (by decide) (by decide)⟩
    rw [dgEq hg3 h0 hr3, ← hDg]
    clear hc hfr hf2
    repeat (conv => whnf
            try dsimp only
            try simp (decide := true) only [zu_same, zu_ne1, zu_ne2, zu_row, zuL_same, zuL_ne1, zuL_ne2, zrow_n1, zx0, zx1, zx2, zx3, nI_1, Nat.reduceAdd, Nat.reduceMul, Int32.reduceAdd, Int32.reduceSub, Int32.reduceMul]
            first
            | refine ⟨zrm (by assumption), ?_⟩
            | refine ⟨vp_inb (by decide), ?_⟩
            | refine ⟨by with_reducible exact zi (by omega), ?_⟩
            | refine ⟨fun h => absurd h (by with_reducible exact nI_ge (by omega) (by omega)), fun _ => ?_⟩
            | refine ⟨fun _ => ?_, fun h => absurd (by with_reducible exact nI_le (by omega) (by omega)) h⟩
            | refine ⟨fun h => absurd h (by with_reducible exact nI_nlt (by omega) (by omega)), fun _ => ?_⟩
            | refine ⟨fun _ => ?_, fun h => absurd (by with_reducible exact nI_lt (by omega) (by omega)) h⟩
            | refine ⟨fun h => absurd h (by with_reducible exact nI_pos (by omega)), fun _ => ?_⟩
            | refine ⟨fun _ => ?_, fun h => absurd (by with_reducible exact nI_0le (by omega)) h⟩
            | refine ⟨fun h => absurd h (by decide), fun _ => ?_⟩
            | refine ⟨fun _ => ?_, fun h => absurd (by decide) h⟩
            | refine ⟨fun _ => ?_, fun h => absurd h (by decide)⟩
            | refine ⟨fun h => absurd (by decide) h, fun _ => ?_⟩
            | refine ⟨by decide, ?_⟩
            | refine ⟨rfl, ?_⟩)
    try (conv => whnf)
    try (refine ⟨fun _ => ?_, fun h => absurd ((lg_cmp_eq _ _).mpr rfl) h⟩)
    repeat (conv => whnf
            try dsimp only
            try simp (decide := true) only [zu_same, zu_ne1, zu_ne2, zu_row, zuL_same, zuL_ne1, zuL_ne2, zrow_n1, zx0, zx1, zx2, zx3, nI_1, Nat.reduceAdd, Nat.reduceMul, Int32.reduceAdd, Int32.reduceSub, Int32.reduceMul]
            first
            | refine ⟨zrm (by assumption), ?_⟩
            | refine ⟨vp_inb (by decide), ?_⟩
            | refine ⟨by with_reducible exact zi (by omega), ?_⟩
            | refine ⟨fun h => absurd h (by with_reducible exact nI_ge (by omega) (by omega)), fun _ => ?_⟩
            | refine ⟨fun _ => ?_, fun h => absurd (by with_reducible exact nI_le (by omega) (by omega)) h⟩
            | refine ⟨fun h => absurd h (by with_reducible exact nI_nlt (by omega) (by omega)), fun _ => ?_⟩
            | refine ⟨fun _ => ?_, fun h => absurd (by with_reducible exact nI_lt (by omega) (by omega)) h⟩
            | refine ⟨fun h => absurd h (by with_reducible exact nI_pos (by omega)), fun _ => ?_⟩
            | refine ⟨fun _ => ?_, fun h => absurd (by with_reducible exact nI_0le (by omega)) h⟩
            | refine ⟨fun h => absurd h (by decide), fun _ => ?_⟩
            | refine ⟨fun _ => ?_, fun h => absurd (by decide) h⟩
            | refine ⟨fun _ => ?_, fun h => absurd h (by decide)⟩
            | refine ⟨fun h => absurd (by decide) h, fun _ => ?_⟩
            | refine ⟨by decide, ?_⟩
            | refine ⟨rfl, ?_⟩)
    try (conv => whnf)
    try dsimp only
    try simp (decide := true) only [zu_same, zu_ne1, zu_ne2, zu_row, zuL_same, zuL_ne1, zuL_ne2, zrow_n1, zx0, zx1, zx2, zx3, nI_1, Nat.reduceAdd, Nat.reduceMul, Int32.reduceAdd, Int32.reduceSub, Int32.reduceMul]
    exact h40 _ _ _ _ _ _ _ _ _ _ _ _ s2 t2 σ3 hD3 hg3.1 hg3.2.1 (by rw [hr3 89 (by decide) (by decide)]; exact hk9)
  intro l14 l15 l16 l17 s t hw
  have y1 := ((wS_f hw).2 i hi).1
  have y2 := ((wS_f hw).2 i hi).2
  obtain ⟨-, σx, hDx, hqx⟩ := id hw
  have hgx := wS_gS h0 hqx
  refine hG 100 _ _ _ _ _ ?_
  by_cases hneg : σ0 88 i < 0
  · skip
    repeat (first
      | (conv => whnf
         try dsimp only
         try simp (decide := true) only [g0, r6, h121, w1, w2, y1, y2, nI_clamp (show i < 2 ^ 31 by omega), zu_same, zu_ne1, zu_ne2, zu_row, zuL_same, zuL_ne1, zuL_ne2, zrow_n1, zx0, zx1, zx2, zx3, nI_1, Nat.reduceAdd, Nat.reduceMul, Int32.reduceAdd, Int32.reduceSub, Int32.reduceMul]
         first
         | refine ⟨zrm (by assumption), ?_⟩
         | refine ⟨vp_inb (by decide), ?_⟩
         | refine ⟨by with_reducible exact zi (by omega), ?_⟩
         | refine ⟨fun h => absurd h (by with_reducible exact nI_ge (by omega) (by omega)), fun _ => ?_⟩
         | refine ⟨fun _ => ?_, fun h => absurd (by with_reducible exact nI_le (by omega) (by omega)) h⟩
         | refine ⟨fun h => absurd h (by with_reducible exact nI_nlt (by omega) (by omega)), fun _ => ?_⟩
         | refine ⟨fun _ => ?_, fun h => absurd (by with_reducible exact nI_lt (by omega) (by omega)) h⟩
         | refine ⟨fun h => absurd h (by with_reducible exact nI_pos (by omega)), fun _ => ?_⟩
         | refine ⟨fun _ => ?_, fun h => absurd (by with_reducible exact nI_0le (by omega)) h⟩
         | refine ⟨fun h => absurd h (by decide), fun _ => ?_⟩
         | refine ⟨fun _ => ?_, fun h => absurd (by decide) h⟩
         | refine ⟨fun _ => ?_, fun h => absurd h (by decide)⟩
         | refine ⟨fun h => absurd (by decide) h, fun _ => ?_⟩
         | refine ⟨by decide, ?_⟩
         | refine ⟨rfl, ?_⟩)
      | (conv => whnf
         fail_if_success refine Exists.intro ?_ ?_
         simp only [g0, r6, h121, w1, w2, y1, y2, nI_clamp (show i < 2 ^ 31 by omega)]))
    try (conv => whnf)
    first | refine ⟨fun h => absurd hneg (Int32.not_lt.mpr h), fun _ => ?_⟩ | refine ⟨fun _ => ?_, fun h => absurd hneg h⟩
    repeat (first
      | (conv => whnf
         try dsimp only
         try simp (decide := true) only [g0, r6, h121, w1, w2, y1, y2, nI_clamp (show i < 2 ^ 31 by omega), zu_same, zu_ne1, zu_ne2, zu_row, zuL_same, zuL_ne1, zuL_ne2, zrow_n1, zx0, zx1, zx2, zx3, nI_1, Nat.reduceAdd, Nat.reduceMul, Int32.reduceAdd, Int32.reduceSub, Int32.reduceMul]
         first
         | refine ⟨zrm (by assumption), ?_⟩
         | refine ⟨vp_inb (by decide), ?_⟩
         | refine ⟨by with_reducible exact zi (by omega), ?_⟩
         | refine ⟨fun h => absurd h (by with_reducible exact nI_ge (by omega) (by omega)), fun _ => ?_⟩
         | refine ⟨fun _ => ?_, fun h => absurd (by with_reducible exact nI_le (by omega) (by omega)) h⟩
         | refine ⟨fun h => absurd h (by with_reducible exact nI_nlt (by omega) (by omega)), fun _ => ?_⟩
         | refine ⟨fun _ => ?_, fun h => absurd (by with_reducible exact nI_lt (by omega) (by omega)) h⟩
         | refine ⟨fun h => absurd h (by with_reducible exact nI_pos (by omega)), fun _ => ?_⟩
         | refine ⟨fun _ => ?_, fun h => absurd (by with_reducible exact nI_0le (by omega)) h⟩
         | refine ⟨fun h => absurd h (by decide), fun _ => ?_⟩
         | refine ⟨fun _ => ?_, fun h => absurd (by decide) h⟩
         | refine ⟨fun _ => ?_, fun h => absurd h (by decide)⟩
         | refine ⟨fun h => absurd (by decide) h, fun _ => ?_⟩
         | refine ⟨by decide, ?_⟩
         | refine ⟨rfl, ?_⟩)
      | (conv => whnf
         fail_if_success refine Exists.intro ?_ ?_
         simp only [g0, r6, h121, w1, w2, y1, y2, nI_clamp (show i < 2 ^ 31 by omega)]))
    try (conv => whnf)
    have hkq := hk9 i hi
    have e1 : (σ0 89 i + 1).toInt = (σ0 89 i).toInt + 1 := by
      rw [Int32.toInt_add, show (1 : Int32).toInt = 1 from rfl]
      exact b32 (by have := hkq.1; omega) (by have := hkq.2; omega)
    have hka := kp_le (x := σ0 89 i + 1) ⟨by have := hkq.1; omega, by have := hkq.2; omega⟩
    refine ⟨[.ref 0, .int (nI i), .int (σ0 89 i + 1)], σx, τ, rfl, rfl, hBs, hDx.1, (by show 120 ≤ m; omega), (σx, τ, 6, pc, 4, i, σ0 89 i + 1), rfl, rfl, ⟨hgx.1, hi, by rw [hqx 88 (by decide) (by decide)]; exact hneg, hka.1, hka.2⟩, ?_⟩
    try dsimp only
    rintro _ _ ⟨rfl, σ1, rfl, c1, c2, c3, c4⟩
    refine ⟨σ1, τ, rfl, rfl, fun s2 t2 hc hfr => ?_⟩
    have y1' : s2 (129 + i) 1 = σ0 88 i := by rw [(hfr (129 + i) (Or.inr (by omega))).1]; exact y1
    repeat (conv => whnf
            try dsimp only
            try simp (decide := true) only [zu_same, zu_ne1, zu_ne2, zu_row, zuL_same, zuL_ne1, zuL_ne2, zrow_n1, zx0, zx1, zx2, zx3, nI_1, Nat.reduceAdd, Nat.reduceMul, Int32.reduceAdd, Int32.reduceSub, Int32.reduceMul]
            first
            | refine ⟨zrm (by assumption), ?_⟩
            | refine ⟨vp_inb (by decide), ?_⟩
            | refine ⟨by with_reducible exact zi (by omega), ?_⟩
            | refine ⟨fun h => absurd h (by with_reducible exact nI_ge (by omega) (by omega)), fun _ => ?_⟩
            | refine ⟨fun _ => ?_, fun h => absurd (by with_reducible exact nI_le (by omega) (by omega)) h⟩
            | refine ⟨fun h => absurd h (by with_reducible exact nI_nlt (by omega) (by omega)), fun _ => ?_⟩
            | refine ⟨fun _ => ?_, fun h => absurd (by with_reducible exact nI_lt (by omega) (by omega)) h⟩
            | refine ⟨fun h => absurd h (by with_reducible exact nI_pos (by omega)), fun _ => ?_⟩
            | refine ⟨fun _ => ?_, fun h => absurd (by with_reducible exact nI_0le (by omega)) h⟩
            | refine ⟨fun h => absurd h (by decide), fun _ => ?_⟩
            | refine ⟨fun _ => ?_, fun h => absurd (by decide) h⟩
            | refine ⟨fun _ => ?_, fun h => absurd h (by decide)⟩
            | refine ⟨fun h => absurd (by decide) h, fun _ => ?_⟩
            | refine ⟨by decide, ?_⟩
            | refine ⟨rfl, ?_⟩)
    try (conv => whnf)
    refine ⟨[.ref 0, .int 1], σ1, τ, rfl, rfl, hBs, hc, (by show 120 ≤ m; omega), (σ1, τ, 6), rfl, rfl, ⟨by decide, by rw [c3 118 (by decide) (by decide), hqx 118 (by decide) (by decide)]; exact h118⟩, ?_⟩
    try dsimp only
    have e115 : ∀ j, j < 6 → σ1 115 j = σ0 89 j := fun j hj => by rw [c3 115 (by decide) (by decide), hqx 115 (by decide) (by decide)]; exact h115 j (by omega)
    have e189 : ∀ j, σ1 89 j = if j = i then σ0 89 i + 1 else σ0 89 j := fun j => by
      rw [c4, hqx 89 (by decide) (by decide)]
    have hone : cLd σ1 6 = 1 := by
      rw [cLd_one (i := i) (by rw [c3 88 (by decide) (by decide), hqx 88 (by decide) (by decide)]; exact hneg) (fun k hk => ?_) 6 (Nat.le_refl 6), if_pos hi]
      rw [e115 k hk, e189 k]
      by_cases e : k = i
      · rw [if_pos e, e]
        exact ⟨fun _ => rfl, fun _ q => by
          have := congrArg Int32.toInt q
          rw [e1] at this
          omega⟩
      · rw [if_neg e]
        exact ⟨fun q => absurd rfl q, fun q => absurd q e⟩
    rintro _ _ ⟨rfl, σ2, rfl, d1, d2, d3, d4, d5⟩
    rw [hone]
    have e2 : ∀ r, r ≠ 0 → σ2 r = σx r := fun r hr => by
      by_cases e : r = 89
      · rw [e]
        funext j
        rw [d5 j, hqx 89 (by decide) (by decide)]
        by_cases ej : j < 6
        · rw [if_pos ej]
          exact e115 j ej
        · rw [if_neg ej, e189 j, if_neg (by omega)]
      · rw [d1 r hr e, c3 r hr e]
    refine ⟨σ2, τ, rfl, rfl, fun s3 t3 hc3 hfr3 => ?_⟩
    have hfr4 : ∀ k, k = 0 ∨ 120 ≤ k → s3 k = s k ∧ t3 k = t k := fun k hk => ⟨(hfr3 k hk).1.trans (hfr k hk).1, (hfr3 k hk).2.trans (hfr k hk).2⟩
    have hD3 := lD_q hDx hc3 hfr4 ⟨e2 100 (by decide), e2 15 (by decide), e2 16 (by decide), e2 87 (by decide), e2 88 (by decide), e2 89 (by decide)⟩
    have y3 : s3 (129 + i) 1 = σ0 88 i := by rw [(hfr4 (129 + i) (Or.inr (by omega))).1]; exact y1
    repeat (first
      | (conv => whnf
         try dsimp only
         try simp (decide := true) only [g0, r6, h121, w1, w2, y3, nI_clamp (show i < 2 ^ 31 by omega), zu_same, zu_ne1, zu_ne2, zu_row, zuL_same, zuL_ne1, zuL_ne2, zrow_n1, zx0, zx1, zx2, zx3, nI_1, Nat.reduceAdd, Nat.reduceMul, Int32.reduceAdd, Int32.reduceSub, Int32.reduceMul]
         first
         | refine ⟨zrm (by assumption), ?_⟩
         | refine ⟨vp_inb (by decide), ?_⟩
         | refine ⟨by with_reducible exact zi (by omega), ?_⟩
         | refine ⟨fun h => absurd h (by with_reducible exact nI_ge (by omega) (by omega)), fun _ => ?_⟩
         | refine ⟨fun _ => ?_, fun h => absurd (by with_reducible exact nI_le (by omega) (by omega)) h⟩
         | refine ⟨fun h => absurd h (by with_reducible exact nI_nlt (by omega) (by omega)), fun _ => ?_⟩
         | refine ⟨fun _ => ?_, fun h => absurd (by with_reducible exact nI_lt (by omega) (by omega)) h⟩
         | refine ⟨fun h => absurd h (by with_reducible exact nI_pos (by omega)), fun _ => ?_⟩
         | refine ⟨fun _ => ?_, fun h => absurd (by with_reducible exact nI_0le (by omega)) h⟩
         | refine ⟨fun h => absurd h (by decide), fun _ => ?_⟩
         | refine ⟨fun _ => ?_, fun h => absurd (by decide) h⟩
         | refine ⟨fun _ => ?_, fun h => absurd h (by decide)⟩
         | refine ⟨fun h => absurd (by decide) h, fun _ => ?_⟩
         | refine ⟨by decide, ?_⟩
         | refine ⟨rfl, ?_⟩)
      | (conv => whnf
         fail_if_success refine Exists.intro ?_ ?_
         simp only [g0, r6, h121, w1, w2, y3, nI_clamp (show i < 2 ^ 31 by omega)]))
    try (conv => whnf)
    first | refine ⟨fun h => absurd hneg (Int32.not_lt.mpr h), fun _ => ?_⟩ | refine ⟨fun _ => ?_, fun h => absurd hneg h⟩
    repeat (first
      | (conv => whnf
         try dsimp only
         try simp (decide := true) only [show nI 1 = 1 from rfl, zu_same, zu_ne1, zu_ne2, zu_row, zuL_same, zuL_ne1, zuL_ne2, zrow_n1, zx0, zx1, zx2, zx3, nI_1, Nat.reduceAdd, Nat.reduceMul, Int32.reduceAdd, Int32.reduceSub, Int32.reduceMul]
         first
         | refine ⟨zrm (by assumption), ?_⟩
         | refine ⟨vp_inb (by decide), ?_⟩
         | refine ⟨by with_reducible exact zi (by omega), ?_⟩
         | refine ⟨fun h => absurd h (by with_reducible exact nI_ge (by omega) (by omega)), fun _ => ?_⟩
         | refine ⟨fun _ => ?_, fun h => absurd (by with_reducible exact nI_le (by omega) (by omega)) h⟩
         | refine ⟨fun h => absurd h (by with_reducible exact nI_nlt (by omega) (by omega)), fun _ => ?_⟩
         | refine ⟨fun _ => ?_, fun h => absurd (by with_reducible exact nI_lt (by omega) (by omega)) h⟩
         | refine ⟨fun h => absurd h (by with_reducible exact nI_pos (by omega)), fun _ => ?_⟩
         | refine ⟨fun _ => ?_, fun h => absurd (by with_reducible exact nI_0le (by omega)) h⟩
         | refine ⟨fun h => absurd h (by decide), fun _ => ?_⟩
         | refine ⟨fun _ => ?_, fun h => absurd (by decide) h⟩
         | refine ⟨fun _ => ?_, fun h => absurd h (by decide)⟩
         | refine ⟨fun h => absurd (by decide) h, fun _ => ?_⟩
         | refine ⟨by decide, ?_⟩
         | refine ⟨rfl, ?_⟩)
      | (conv => whnf
         fail_if_success refine Exists.intro ?_ ?_
         simp only [show nI 1 = 1 from rfl]))
    try (conv => whnf)
    exact h1023 _ _ _ _ s3 t3 σ2 (fun r h1 h2 h3 => (e2 r h1).trans (hqx r h2 (by omega))) ⟨by rw [d2 13 (by decide), c2.1]; exact hgx.2.2.1, d3, d4⟩ hD3
  · skip
    repeat (first
      | (conv => whnf
         try dsimp only
         try simp (decide := true) only [g0, r6, h121, w1, w2, y1, y2, nI_clamp (show i < 2 ^ 31 by omega), zu_same, zu_ne1, zu_ne2, zu_row, zuL_same, zuL_ne1, zuL_ne2, zrow_n1, zx0, zx1, zx2, zx3, nI_1, Nat.reduceAdd, Nat.reduceMul, Int32.reduceAdd, Int32.reduceSub, Int32.reduceMul]
         first
         | refine ⟨zrm (by assumption), ?_⟩
         | refine ⟨vp_inb (by decide), ?_⟩
         | refine ⟨by with_reducible exact zi (by omega), ?_⟩
         | refine ⟨fun h => absurd h (by with_reducible exact nI_ge (by omega) (by omega)), fun _ => ?_⟩
         | refine ⟨fun _ => ?_, fun h => absurd (by with_reducible exact nI_le (by omega) (by omega)) h⟩
         | refine ⟨fun h => absurd h (by with_reducible exact nI_nlt (by omega) (by omega)), fun _ => ?_⟩
         | refine ⟨fun _ => ?_, fun h => absurd (by with_reducible exact nI_lt (by omega) (by omega)) h⟩
         | refine ⟨fun h => absurd h (by with_reducible exact nI_pos (by omega)), fun _ => ?_⟩
         | refine ⟨fun _ => ?_, fun h => absurd (by with_reducible exact nI_0le (by omega)) h⟩
         | refine ⟨fun h => absurd h (by decide), fun _ => ?_⟩
         | refine ⟨fun _ => ?_, fun h => absurd (by decide) h⟩
         | refine ⟨fun _ => ?_, fun h => absurd h (by decide)⟩
         | refine ⟨fun h => absurd (by decide) h, fun _ => ?_⟩
         | refine ⟨by decide, ?_⟩
         | refine ⟨rfl, ?_⟩)
      | (conv => whnf
         fail_if_success refine Exists.intro ?_ ?_
         simp only [g0, r6, h121, w1, w2, y1, y2, nI_clamp (show i < 2 ^ 31 by omega)]))
    try (conv => whnf)
    first | refine ⟨fun _ => ?_, fun h => absurd (Int32.not_lt.mp hneg) h⟩ | refine ⟨fun h => absurd h hneg, fun _ => ?_⟩
    repeat (conv => whnf
            try dsimp only
            try simp (decide := true) only [zu_same, zu_ne1, zu_ne2, zu_row, zuL_same, zuL_ne1, zuL_ne2, zrow_n1, zx0, zx1, zx2, zx3, nI_1, Nat.reduceAdd, Nat.reduceMul, Int32.reduceAdd, Int32.reduceSub, Int32.reduceMul]
            first
            | refine ⟨zrm (by assumption), ?_⟩
            | refine ⟨vp_inb (by decide), ?_⟩
            | refine ⟨by with_reducible exact zi (by omega), ?_⟩
            | refine ⟨fun h => absurd h (by with_reducible exact nI_ge (by omega) (by omega)), fun _ => ?_⟩
            | refine ⟨fun _ => ?_, fun h => absurd (by with_reducible exact nI_le (by omega) (by omega)) h⟩
            | refine ⟨fun h => absurd h (by with_reducible exact nI_nlt (by omega) (by omega)), fun _ => ?_⟩
            | refine ⟨fun _ => ?_, fun h => absurd (by with_reducible exact nI_lt (by omega) (by omega)) h⟩
            | refine ⟨fun h => absurd h (by with_reducible exact nI_pos (by omega)), fun _ => ?_⟩
            | refine ⟨fun _ => ?_, fun h => absurd (by with_reducible exact nI_0le (by omega)) h⟩
            | refine ⟨fun h => absurd h (by decide), fun _ => ?_⟩
            | refine ⟨fun _ => ?_, fun h => absurd (by decide) h⟩
            | refine ⟨fun _ => ?_, fun h => absurd h (by decide)⟩
            | refine ⟨fun h => absurd (by decide) h, fun _ => ?_⟩
            | refine ⟨by decide, ?_⟩
            | refine ⟨rfl, ?_⟩)
    try (conv => whnf)
    refine ⟨[.ref 0, .int 1], σx, τ, rfl, rfl, hBs, hDx.1, (by show 120 ≤ m; omega), (σx, τ, 6), rfl, rfl, ⟨by decide, by rw [hqx 118 (by decide) (by decide)]; exact h118⟩, ?_⟩
    try dsimp only
    have e115 : ∀ j, j < 6 → σx 89 j = σx 115 j := fun j hj => by rw [hqx 115 (by decide) (by decide), hqx 89 (by decide) (by decide)]; exact (h115 j (by omega)).symm
    rintro _ _ ⟨rfl, σ2, rfl, d1, d2, d3, d4, d5⟩
    rw [cLd_no e115 6 (Nat.le_refl 6)]
    have e2 : ∀ r, r ≠ 0 → σ2 r = σx r := fun r hr => by
      by_cases e : r = 89
      · rw [e]
        funext j
        rw [d5 j]
        by_cases ej : j < 6
        · rw [if_pos ej]
          exact (e115 j ej).symm
        · rw [if_neg ej]
      · exact d1 r hr e
    refine ⟨σ2, τ, rfl, rfl, fun s3 t3 hc3 hfr3 => ?_⟩
    have hD3 := lD_q hDx hc3 hfr3 ⟨e2 100 (by decide), e2 15 (by decide), e2 16 (by decide), e2 87 (by decide), e2 88 (by decide), e2 89 (by decide)⟩
    have y3 : s3 (129 + i) 1 = σ0 88 i := by rw [(hfr3 (129 + i) (Or.inr (by omega))).1]; exact y1
    repeat (first
      | (conv => whnf
         try dsimp only
         try simp (decide := true) only [g0, r6, h121, w1, w2, y3, nI_clamp (show i < 2 ^ 31 by omega), zu_same, zu_ne1, zu_ne2, zu_row, zuL_same, zuL_ne1, zuL_ne2, zrow_n1, zx0, zx1, zx2, zx3, nI_1, Nat.reduceAdd, Nat.reduceMul, Int32.reduceAdd, Int32.reduceSub, Int32.reduceMul]
         first
         | refine ⟨zrm (by assumption), ?_⟩
         | refine ⟨vp_inb (by decide), ?_⟩
         | refine ⟨by with_reducible exact zi (by omega), ?_⟩
         | refine ⟨fun h => absurd h (by with_reducible exact nI_ge (by omega) (by omega)), fun _ => ?_⟩
         | refine ⟨fun _ => ?_, fun h => absurd (by with_reducible exact nI_le (by omega) (by omega)) h⟩
         | refine ⟨fun h => absurd h (by with_reducible exact nI_nlt (by omega) (by omega)), fun _ => ?_⟩
         | refine ⟨fun _ => ?_, fun h => absurd (by with_reducible exact nI_lt (by omega) (by omega)) h⟩
         | refine ⟨fun h => absurd h (by with_reducible exact nI_pos (by omega)), fun _ => ?_⟩
         | refine ⟨fun _ => ?_, fun h => absurd (by with_reducible exact nI_0le (by omega)) h⟩
         | refine ⟨fun h => absurd h (by decide), fun _ => ?_⟩
         | refine ⟨fun _ => ?_, fun h => absurd (by decide) h⟩
         | refine ⟨fun _ => ?_, fun h => absurd h (by decide)⟩
         | refine ⟨fun h => absurd (by decide) h, fun _ => ?_⟩
         | refine ⟨by decide, ?_⟩
         | refine ⟨rfl, ?_⟩)
      | (conv => whnf
         fail_if_success refine Exists.intro ?_ ?_
         simp only [g0, r6, h121, w1, w2, y3, nI_clamp (show i < 2 ^ 31 by omega)]))
    try (conv => whnf)
    first | refine ⟨fun _ => ?_, fun h => absurd (Int32.not_lt.mp hneg) h⟩ | refine ⟨fun h => absurd h hneg, fun _ => ?_⟩
    repeat (first
      | (conv => whnf
         try dsimp only
         try simp (decide := true) only [show nI 0 = 0 from rfl, zu_same, zu_ne1, zu_ne2, zu_row, zuL_same, zuL_ne1, zuL_ne2, zrow_n1, zx0, zx1, zx2, zx3, nI_1, Nat.reduceAdd, Nat.reduceMul, Int32.reduceAdd, Int32.reduceSub, Int32.reduceMul]
         first
         | refine ⟨zrm (by assumption), ?_⟩
         | refine ⟨vp_inb (by decide), ?_⟩
         | refine ⟨by with_reducible exact zi (by omega), ?_⟩
         | refine ⟨fun h => absurd h (by with_reducible exact nI_ge (by omega) (by omega)), fun _ => ?_⟩
         | refine ⟨fun _ => ?_, fun h => absurd (by with_reducible exact nI_le (by omega) (by omega)) h⟩
         | refine ⟨fun h => absurd h (by with_reducible exact nI_nlt (by omega) (by omega)), fun _ => ?_⟩
         | refine ⟨fun _ => ?_, fun h => absurd (by with_reducible exact nI_lt (by omega) (by omega)) h⟩
         | refine ⟨fun h => absurd h (by with_reducible exact nI_pos (by omega)), fun _ => ?_⟩
         | refine ⟨fun _ => ?_, fun h => absurd (by with_reducible exact nI_0le (by omega)) h⟩
         | refine ⟨fun h => absurd h (by decide), fun _ => ?_⟩
         | refine ⟨fun _ => ?_, fun h => absurd (by decide) h⟩
         | refine ⟨fun _ => ?_, fun h => absurd h (by decide)⟩
         | refine ⟨fun h => absurd (by decide) h, fun _ => ?_⟩
         | refine ⟨by decide, ?_⟩
         | refine ⟨rfl, ?_⟩)
      | (conv => whnf
         fail_if_success refine Exists.intro ?_ ?_
         simp only [show nI 0 = 0 from rfl]))
    try (conv => whnf)
    exact h1023 _ _ _ _ s3 t3 σ2 (fun r h1 h2 h3 => (e2 r h1).trans (hqx r h2 (by omega))) ⟨by rw [d2 13 (by decide)]; exact hgx.2.2.1, d3, d4⟩ hD3

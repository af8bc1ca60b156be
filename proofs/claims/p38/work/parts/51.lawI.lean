/-! ===== the law: an input, a variable, a goal ===== -/
set_option maxRecDepth 100000
set_option maxHeartbeats 4000000
theorem wS_dS {m pc dr dr1 : Nat} {sh : zSh} {rf : zRf} {s s1 : zIn} {t : zLo} {σ0 : zIn} {τ : zLo} (h : wS m pc dr sh rf s t σ0 τ) (d : dS s s1 dr1) : wS m pc dr1 sh rf s1 t σ0 τ := by
  obtain ⟨hS, σ, hD, hq⟩ := h
  exact ⟨hS, σ, lD_dS hD d, hq⟩
theorem wS_d {m pc dr : Nat} {sh : zSh} {rf : zRf} {s : zIn} {t : zLo} {σ0 : zIn} {τ : zLo} (h : wS m pc dr sh rf s t σ0 τ) : s 0 2 = nI dr := by
  obtain ⟨-, σ, hD, -⟩ := h
  exact hD.2.1.1
theorem lw_I (Gl : zK) (hG : zSt (zCL_lawI calI) [696, 739, 931] Gl) {q ti st m pc dr a b : Nat} {c5 c9 : Int32} {Dg : Int64} (hκ : a ≤ 200000 ∧ b ≤ 2000000) {sh : zSh} {rf : zRf} {σ0 : zIn} {τ : zLo} (hS : lS m 4 6 sh rf) (h0 : gS σ0 τ 6 pc 4) (hdr : dr + 10 < 10000)
    (h739 : ∀ (c10 : Int32) (i v : Nat) (l14 l15 l16 l17 : Option Value) (s : zIn) (t : zLo), i < 6 → v < 6 → σ0 88 i < 0 → wS m pc (dr + 2) sh rf s t σ0 τ → Gl 739 [some (.ref zS), some (.int (nI ti)), some (.ref 0), some (.ref 1), some (.int (nI st)), some (.int c5), some (.long Dg), none, some (.int 63), some (.int c9), some (.int c10), some (.ref q), some (.int (nI i)), some (.int (nI v)), l14, l15, l16, l17] [] (a, b) (m, sh, rf, s, t))
    (h931 : ∀ (c10 : Int32) (i v : Nat) (l14 l15 l16 l17 : Option Value) (s : zIn) (t : zLo), i < 6 → v < 6 → ¬ σ0 88 i < 0 → wS m pc (dr + 2) sh rf s t σ0 τ → Gl 931 [some (.ref zS), some (.int (nI ti)), some (.ref 0), some (.ref 1), some (.int (nI st)), some (.int c5), some (.long Dg), none, some (.int 63), some (.int c9), some (.int c10), some (.ref q), some (.int (nI i)), some (.int (nI v)), l14, l15, l16, l17] [] (a, b) (m, sh, rf, s, t)) :
    ∀ (l12 l13 l14 l15 l16 l17 : Option Value) (s : zIn) (t : zLo), wS m pc dr sh rf s t σ0 τ → Gl 696 [some (.ref zS), some (.int (nI ti)), some (.ref 0), some (.ref 1), some (.int (nI st)), some (.int c5), some (.long Dg), none, some (.int 63), some (.int c9), some (.int (nI (pBr (σ0 103) 6))), some (.ref q), l12, l13, l14, l15, l16, l17] [] (a, b) (m, sh, rf, s, t) := by
  obtain ⟨⟨hm, -⟩, hBs, h999, ⟨g0, -, h121, -⟩, ⟨r0, r1, -, r6, -⟩, -, hv9⟩ := id hS
  intro l12 l13 l14 l15 l16 l17 s t hw
  refine hG 100 _ _ _ _ _ ?_
  repeat (conv => whnf
          try dsimp only
          try simp (decide := true) only [zu_same, zu_ne1, zu_ne2, zu_row, zuL_same, zuL_ne1, zuL_ne2, zrow_n1, zx0, zx1, zx2, zx3, nI_1, Nat.reduceAdd, Nat.reduceMul, Int32.reduceAdd, Int32.reduceSub, Int32.reduceMul]
          first
          | refine ⟨zrm (by assumption), ?_⟩
          | refine ⟨vp_inb (by decide), ?_⟩
          | refine ⟨by with_reducible exact zi (by omega), ?_⟩
          | refine ⟨fun h => absurd h (by with_reducible exact nI_ge (by omega) (by omega)), fun _ => ?_⟩
          | refine ⟨fun _ => ?_, fun h => absurd (by with_reducible exact nI_le (by omega) (by omega)) h⟩
          | refine ⟨fun h => absurd h (by with_reducible exact nI_nlt (by omega) (by omega)), fun _ => ?_⟩
          | refine ⟨fun _ => ?_, fun h => absurd (by with_reducible exact nI_lt (by omega) (by omega)) h⟩
          | refine ⟨fun h => absurd h (by with_reducible exact nI_pos (by omega)), fun _ => ?_⟩
          | refine ⟨fun _ => ?_, fun h => absurd (by with_reducible exact nI_0le (by omega)) h⟩
          | refine ⟨fun h => absurd h (by decide), fun _ => ?_⟩
          | refine ⟨fun _ => ?_, fun h => absurd (by decide) h⟩
          | refine ⟨fun _ => ?_, fun h => absurd h (by decide)⟩
          | refine ⟨fun h => absurd (by decide) h, fun _ => ?_⟩
          | refine ⟨by decide, ?_⟩
          | refine ⟨rfl, ?_⟩)
  try (conv => whnf)
  obtain ⟨-, σx, hDx, hqx⟩ := id hw
  refine ⟨[.ref 0], σx, τ, rfl, rfl, hBs, hDx.1, (by show 120 ≤ m; omega), (σx, τ, 6, pc, 4), rfl, rfl, wS_gS h0 hqx, ?_⟩
  try dsimp only
  refine ⟨σx, τ, rfl, rfl, fun s2 t2 hc hfr => ?_⟩
  replace hw := wS_q hS hDx hqx hc hfr cTq_r
  try replace hq := wq_f hfr hq
  clear hc hfr hDx
  rw [hqx 103 (by decide) (by decide)]
  clear hqx
  have f5 := (wS_f hw).1
  repeat (first
    | (conv => whnf
       try dsimp only
       try simp (decide := true) only [g0, f5, zu_same, zu_ne1, zu_ne2, zu_row, zuL_same, zuL_ne1, zuL_ne2, zrow_n1, zx0, zx1, zx2, zx3, nI_1, Nat.reduceAdd, Nat.reduceMul, Int32.reduceAdd, Int32.reduceSub, Int32.reduceMul]
       first
       | refine ⟨zrm (by assumption), ?_⟩
       | refine ⟨vp_inb (by decide), ?_⟩
       | refine ⟨by with_reducible exact zi (by omega), ?_⟩
       | refine ⟨fun h => absurd h (by with_reducible exact nI_ge (by omega) (by omega)), fun _ => ?_⟩
       | refine ⟨fun _ => ?_, fun h => absurd (by with_reducible exact nI_le (by omega) (by omega)) h⟩
       | refine ⟨fun h => absurd h (by with_reducible exact nI_nlt (by omega) (by omega)), fun _ => ?_⟩
       | refine ⟨fun _ => ?_, fun h => absurd (by with_reducible exact nI_lt (by omega) (by omega)) h⟩
       | refine ⟨fun h => absurd h (by with_reducible exact nI_pos (by omega)), fun _ => ?_⟩
       | refine ⟨fun _ => ?_, fun h => absurd (by with_reducible exact nI_0le (by omega)) h⟩
       | refine ⟨fun h => absurd h (by decide), fun _ => ?_⟩
       | refine ⟨fun _ => ?_, fun h => absurd (by decide) h⟩
       | refine ⟨fun _ => ?_, fun h => absurd h (by decide)⟩
       | refine ⟨fun h => absurd (by decide) h, fun _ => ?_⟩
       | refine ⟨by decide, ?_⟩
       | refine ⟨rfl, ?_⟩)
    | (conv => whnf
       fail_if_success refine Exists.intro ?_ ?_
       simp only [g0, f5]))
  try (conv => whnf)
  refine ⟨(m, sh, rf, s2, t2, dr, 6), rfl, rfl, ⟨g0, r1, h999, wS_d hw, by omega, by decide, by decide⟩, ?_⟩
  try dsimp only [cond_true, cond_false]
  rintro _ _ ⟨⟨i, hi, rfl⟩, s3, rfl, d3⟩
  replace hw := wS_dS hw d3
  have f5 := (wS_f hw).1
  repeat (first
    | (conv => whnf
       try dsimp only
       try simp (decide := true) only [g0, f5, zu_same, zu_ne1, zu_ne2, zu_row, zuL_same, zuL_ne1, zuL_ne2, zrow_n1, zx0, zx1, zx2, zx3, nI_1, Nat.reduceAdd, Nat.reduceMul, Int32.reduceAdd, Int32.reduceSub, Int32.reduceMul]
       first
       | refine ⟨zrm (by assumption), ?_⟩
       | refine ⟨vp_inb (by decide), ?_⟩
       | refine ⟨by with_reducible exact zi (by omega), ?_⟩
       | refine ⟨fun h => absurd h (by with_reducible exact nI_ge (by omega) (by omega)), fun _ => ?_⟩
       | refine ⟨fun _ => ?_, fun h => absurd (by with_reducible exact nI_le (by omega) (by omega)) h⟩
       | refine ⟨fun h => absurd h (by with_reducible exact nI_nlt (by omega) (by omega)), fun _ => ?_⟩
       | refine ⟨fun _ => ?_, fun h => absurd (by with_reducible exact nI_lt (by omega) (by omega)) h⟩
       | refine ⟨fun h => absurd h (by with_reducible exact nI_pos (by omega)), fun _ => ?_⟩
       | refine ⟨fun _ => ?_, fun h => absurd (by with_reducible exact nI_0le (by omega)) h⟩
       | refine ⟨fun h => absurd h (by decide), fun _ => ?_⟩
       | refine ⟨fun _ => ?_, fun h => absurd (by decide) h⟩
       | refine ⟨fun _ => ?_, fun h => absurd h (by decide)⟩
       | refine ⟨fun h => absurd (by decide) h, fun _ => ?_⟩
       | refine ⟨by decide, ?_⟩
       | refine ⟨rfl, ?_⟩)
    | (conv => whnf
       fail_if_success refine Exists.intro ?_ ?_
       simp only [g0, f5]))
  try (conv => whnf)
  refine ⟨(m, sh, rf, s3, t2, dr + 1, 6), rfl, rfl, ⟨g0, r1, h999, wS_d hw, by omega, by decide, by decide⟩, ?_⟩
  try dsimp only [cond_true, cond_false]
  rintro _ _ ⟨⟨v, hv, rfl⟩, s4, rfl, d4⟩
  replace hw := wS_dS hw d4
  obtain ⟨w1, w2⟩ := hv9 i hi
  have y1 := ((wS_f hw).2 i hi).1
  by_cases hneg : σ0 88 i < 0
  · skip
    repeat (first
      | (conv => whnf
         try dsimp only
         try simp (decide := true) only [g0, r6, h121, w1, w2, y1, nI_clamp (show i < 2 ^ 31 by omega), zu_same, zu_ne1, zu_ne2, zu_row, zuL_same, zuL_ne1, zuL_ne2, zrow_n1, zx0, zx1, zx2, zx3, nI_1, Nat.reduceAdd, Nat.reduceMul, Int32.reduceAdd, Int32.reduceSub, Int32.reduceMul]
         first
         | refine ⟨zrm (by assumption), ?_⟩
         | refine ⟨vp_inb (by decide), ?_⟩
         | refine ⟨by with_reducible exact zi (by omega), ?_⟩
         | refine ⟨fun h => absurd h (by with_reducible exact nI_ge (by omega) (by omega)), fun _ => ?_⟩
         | refine ⟨fun _ => ?_, fun h => absurd (by with_reducible exact nI_le (by omega) (by omega)) h⟩
         | refine ⟨fun h => absurd h (by with_reducible exact nI_nlt (by omega) (by omega)), fun _ => ?_⟩
         | refine ⟨fun _ => ?_, fun h => absurd (by with_reducible exact nI_lt (by omega) (by omega)) h⟩
         | refine ⟨fun h => absurd h (by with_reducible exact nI_pos (by omega)), fun _ => ?_⟩
         | refine ⟨fun _ => ?_, fun h => absurd (by with_reducible exact nI_0le (by omega)) h⟩
         | refine ⟨fun h => absurd h (by decide), fun _ => ?_⟩
         | refine ⟨fun _ => ?_, fun h => absurd (by decide) h⟩
         | refine ⟨fun _ => ?_, fun h => absurd h (by decide)⟩
         | refine ⟨fun h => absurd (by decide) h, fun _ => ?_⟩
         | refine ⟨by decide, ?_⟩
         | refine ⟨rfl, ?_⟩)
      | (conv => whnf
         fail_if_success refine Exists.intro ?_ ?_
         simp only [g0, r6, h121, w1, w2, y1, nI_clamp (show i < 2 ^ 31 by omega)]))
    try (conv => whnf)
    first | refine ⟨fun h => absurd hneg (Int32.not_lt.mpr h), fun _ => ?_⟩ | refine ⟨fun _ => ?_, fun h => absurd hneg h⟩
    repeat (conv => whnf
            try dsimp only
            try simp (decide := true) only [zu_same, zu_ne1, zu_ne2, zu_row, zuL_same, zuL_ne1, zuL_ne2, zrow_n1, zx0, zx1, zx2, zx3, nI_1, Nat.reduceAdd, Nat.reduceMul, Int32.reduceAdd, Int32.reduceSub, Int32.reduceMul]
            first
            | refine ⟨zrm (by assumption), ?_⟩
            | refine ⟨vp_inb (by decide), ?_⟩
            | refine ⟨by with_reducible exact zi (by omega), ?_⟩
            | refine ⟨fun h => absurd h (by with_reducible exact nI_ge (by omega) (by omega)), fun _ => ?_⟩
            | refine ⟨fun _ => ?_, fun h => absurd (by with_reducible exact nI_le (by omega) (by omega)) h⟩
            | refine ⟨fun h => absurd h (by with_reducible exact nI_nlt (by omega) (by omega)), fun _ => ?_⟩
            | refine ⟨fun _ => ?_, fun h => absurd (by with_reducible exact nI_lt (by omega) (by omega)) h⟩
            | refine ⟨fun h => absurd h (by with_reducible exact nI_pos (by omega)), fun _ => ?_⟩
            | refine ⟨fun _ => ?_, fun h => absurd (by with_reducible exact nI_0le (by omega)) h⟩
            | refine ⟨fun h => absurd h (by decide), fun _ => ?_⟩
            | refine ⟨fun _ => ?_, fun h => absurd (by decide) h⟩
            | refine ⟨fun _ => ?_, fun h => absurd h (by decide)⟩
            | refine ⟨fun h => absurd (by decide) h, fun _ => ?_⟩
            | refine ⟨by decide, ?_⟩
            | refine ⟨rfl, ?_⟩)
    try (conv => whnf)
    exact h739 _ i v _ _ _ _ s4 t2 hi hv hneg hw
  · skip
    repeat (first
      | (conv => whnf
         try dsimp only
         try simp (decide := true) only [g0, r6, h121, w1, w2, y1, nI_clamp (show i < 2 ^ 31 by omega), zu_same, zu_ne1, zu_ne2, zu_row, zuL_same, zuL_ne1, zuL_ne2, zrow_n1, zx0, zx1, zx2, zx3, nI_1, Nat.reduceAdd, Nat.reduceMul, Int32.reduceAdd, Int32.reduceSub, Int32.reduceMul]
         first
         | refine ⟨zrm (by assumption), ?_⟩
         | refine ⟨vp_inb (by decide), ?_⟩
         | refine ⟨by with_reducible exact zi (by omega), ?_⟩
         | refine ⟨fun h => absurd h (by with_reducible exact nI_ge (by omega) (by omega)), fun _ => ?_⟩
         | refine ⟨fun _ => ?_, fun h => absurd (by with_reducible exact nI_le (by omega) (by omega)) h⟩
         | refine ⟨fun h => absurd h (by with_reducible exact nI_nlt (by omega) (by omega)), fun _ => ?_⟩
         | refine ⟨fun _ => ?_, fun h => absurd (by with_reducible exact nI_lt (by omega) (by omega)) h⟩
         | refine ⟨fun h => absurd h (by with_reducible exact nI_pos (by omega)), fun _ => ?_⟩
         | refine ⟨fun _ => ?_, fun h => absurd (by with_reducible exact nI_0le (by omega)) h⟩
         | refine ⟨fun h => absurd h (by decide), fun _ => ?_⟩
         | refine ⟨fun _ => ?_, fun h => absurd (by decide) h⟩
         | refine ⟨fun _ => ?_, fun h => absurd h (by decide)⟩
         | refine ⟨fun h => absurd (by decide) h, fun _ => ?_⟩
         | refine ⟨by decide, ?_⟩
         | refine ⟨rfl, ?_⟩)
      | (conv => whnf
         fail_if_success refine Exists.intro ?_ ?_
         simp only [g0, r6, h121, w1, w2, y1, nI_clamp (show i < 2 ^ 31 by omega)]))
    try (conv => whnf)
    first | refine ⟨fun _ => ?_, fun h => absurd (Int32.not_lt.mp hneg) h⟩ | refine ⟨fun h => absurd h hneg, fun _ => ?_⟩
    repeat (conv => whnf
            try dsimp only
            try simp (decide := true) only [zu_same, zu_ne1, zu_ne2, zu_row, zuL_same, zuL_ne1, zuL_ne2, zrow_n1, zx0, zx1, zx2, zx3, nI_1, Nat.reduceAdd, Nat.reduceMul, Int32.reduceAdd, Int32.reduceSub, Int32.reduceMul]
            first
            | refine ⟨zrm (by assumption), ?_⟩
            | refine ⟨vp_inb (by decide), ?_⟩
            | refine ⟨by with_reducible exact zi (by omega), ?_⟩
            | refine ⟨fun h => absurd h (by with_reducible exact nI_ge (by omega) (by omega)), fun _ => ?_⟩
            | refine ⟨fun _ => ?_, fun h => absurd (by with_reducible exact nI_le (by omega) (by omega)) h⟩
            | refine ⟨fun h => absurd h (by with_reducible exact nI_nlt (by omega) (by omega)), fun _ => ?_⟩
            | refine ⟨fun _ => ?_, fun h => absurd (by with_reducible exact nI_lt (by omega) (by omega)) h⟩
            | refine ⟨fun h => absurd h (by with_reducible exact nI_pos (by omega)), fun _ => ?_⟩
            | refine ⟨fun _ => ?_, fun h => absurd (by with_reducible exact nI_0le (by omega)) h⟩
            | refine ⟨fun h => absurd h (by decide), fun _ => ?_⟩
            | refine ⟨fun _ => ?_, fun h => absurd (by decide) h⟩
            | refine ⟨fun _ => ?_, fun h => absurd h (by decide)⟩
            | refine ⟨fun h => absurd (by decide) h, fun _ => ?_⟩
            | refine ⟨by decide, ?_⟩
            | refine ⟨rfl, ?_⟩)
    try (conv => whnf)
    exact h931 _ i v _ _ _ _ s4 t2 hi hv hneg hw
/-- an input's amount, whatever its setting -/
theorem inKp {σ : zIn} {τ : zLo} {pc v : Nat} (h : gS σ τ 6 pc 4) (hv : v < 6) (hf : σ 88 v < 0) (S : Nat → Int32) : ¬ cF σ 6 S v = zBRK := by
  obtain ⟨c, -, -, -, hb⟩ := gS_ft h
  have hnb : bt (σ 90 7) v = false := by
    cases e : bt (σ 90 7) v with
    | false => rfl
    | true => exact absurd hf (hb v e).2
  have e := pF_input (G := zMG σ) h.1.2.1 S hv hf hnb
  unfold cF
  rw [show pF 6 (pRe 6 (σ 88) (σ 85)) (zMG σ) S v = _ from e]
  exact kp_nb (fKept_kp _)
theorem kOk_q {σ σ1 : zIn} {n i v : Nat} {g m : Int32} (h : cTq σ σ1) : kOk σ1 n i v g m ↔ kOk σ n i v g m := by
  unfold kOk
  rw [cW_q h]
theorem lw_J (Gl : zK) (hG : zSt (zCL_lawJ calJ) [739, 812, 846] Gl) {q ti st m pc dr a b : Nat} {c5 c9 c10 : Int32} {Dg : Int64} (hκ : a ≤ 200000 ∧ b ≤ 2000000) {sh : zSh} {rf : zRf} {σ0 : zIn} {τ : zLo} (hS : lS m 4 6 sh rf) (h0 : gS σ0 τ 6 pc 4) (hdr : dr + 10 < 10000) {i v : Nat} (hi : i < 6) (hv : v < 6) (hneg : σ0 88 i < 0)
    (h846 : ∀ (c14 c15 : Int32) (l16 l17 : Option Value) (s : zIn) (t : zLo), wS m pc (dr + 1) sh rf s t σ0 τ → Gl 846 [some (.ref zS), some (.int (nI ti)), some (.ref 0), some (.ref 1), some (.int (nI st)), some (.int c5), some (.long Dg), none, some (.int 63), some (.int c9), some (.int c10), some (.ref q), some (.int (nI i)), some (.int (nI v)), some (.int c14), some (.int c15), l16, l17] [] (a, b) (m, sh, rf, s, t)) :
    ∀ (l14 l15 l16 l17 : Option Value) (s : zIn) (t : zLo), wS m pc dr sh rf s t σ0 τ → Gl 739 [some (.ref zS), some (.int (nI ti)), some (.ref 0), some (.ref 1), some (.int (nI st)), some (.int c5), some (.long Dg), none, some (.int 63), some (.int c9), some (.int c10), some (.ref q), some (.int (nI i)), some (.int (nI v)), l14, l15, l16, l17] [] (a, b) (m, sh, rf, s, t) := by
  obtain ⟨⟨hm, -⟩, hBs, h999, ⟨g0, -, h121, -⟩, ⟨r0, r1, -, r6, -⟩, -, hv9⟩ := id hS
  intro l14 l15 l16 l17 s t hw
  refine hG 100 _ _ _ _ _ ?_
  repeat (conv => whnf
          try dsimp only
          try simp (decide := true) only [zu_same, zu_ne1, zu_ne2, zu_row, zuL_same, zuL_ne1, zuL_ne2, zrow_n1, zx0, zx1, zx2, zx3, nI_1, Nat.reduceAdd, Nat.reduceMul, Int32.reduceAdd, Int32.reduceSub, Int32.reduceMul]
          first
          | refine ⟨zrm (by assumption), ?_⟩
          | refine ⟨vp_inb (by decide), ?_⟩
          | refine ⟨by with_reducible exact zi (by omega), ?_⟩
          | refine ⟨fun h => absurd h (by with_reducible exact nI_ge (by omega) (by omega)), fun _ => ?_⟩
          | refine ⟨fun _ => ?_, fun h => absurd (by with_reducible exact nI_le (by omega) (by omega)) h⟩
          | refine ⟨fun h => absurd h (by with_reducible exact nI_nlt (by omega) (by omega)), fun _ => ?_⟩
          | refine ⟨fun _ => ?_, fun h => absurd (by with_reducible exact nI_lt (by omega) (by omega)) h⟩
          | refine ⟨fun h => absurd h (by with_reducible exact nI_pos (by omega)), fun _ => ?_⟩
          | refine ⟨fun _ => ?_, fun h => absurd (by with_reducible exact nI_0le (by omega)) h⟩
          | refine ⟨fun h => absurd h (by decide), fun _ => ?_⟩
          | refine ⟨fun _ => ?_, fun h => absurd (by decide) h⟩
          | refine ⟨fun _ => ?_, fun h => absurd h (by decide)⟩
          | refine ⟨fun h => absurd (by decide) h, fun _ => ?_⟩
          | refine ⟨by decide, ?_⟩
          | refine ⟨rfl, ?_⟩)
  try (conv => whnf)
  refine ⟨(m, sh, rf, s, t, dr, 20000), rfl, rfl, ⟨g0, r1, h999, wS_d hw, by omega, by decide, by decide⟩, ?_⟩
  try dsimp only [cond_true, cond_false]
  rintro _ _ ⟨⟨y, hy, rfl⟩, s3, rfl, d3⟩
  replace hw := wS_dS hw d3
  repeat (conv => whnf
          try dsimp only
          try simp (decide := true) only [zu_same, zu_ne1, zu_ne2, zu_row, zuL_same, zuL_ne1, zuL_ne2, zrow_n1, zx0, zx1, zx2, zx3, nI_1, Nat.reduceAdd, Nat.reduceMul, Int32.reduceAdd, Int32.reduceSub, Int32.reduceMul]
          first
          | refine ⟨zrm (by assumption), ?_⟩
          | refine ⟨vp_inb (by decide), ?_⟩
          | refine ⟨by with_reducible exact zi (by omega), ?_⟩
          | refine ⟨fun h => absurd h (by with_reducible exact nI_ge (by omega) (by omega)), fun _ => ?_⟩
          | refine ⟨fun _ => ?_, fun h => absurd (by with_reducible exact nI_le (by omega) (by omega)) h⟩
          | refine ⟨fun h => absurd h (by with_reducible exact nI_nlt (by omega) (by omega)), fun _ => ?_⟩
          | refine ⟨fun _ => ?_, fun h => absurd (by with_reducible exact nI_lt (by omega) (by omega)) h⟩
          | refine ⟨fun h => absurd h (by with_reducible exact nI_pos (by omega)), fun _ => ?_⟩
          | refine ⟨fun _ => ?_, fun h => absurd (by with_reducible exact nI_0le (by omega)) h⟩
          | refine ⟨fun h => absurd h (by decide), fun _ => ?_⟩
          | refine ⟨fun _ => ?_, fun h => absurd (by decide) h⟩
          | refine ⟨fun _ => ?_, fun h => absurd h (by decide)⟩
          | refine ⟨fun h => absurd (by decide) h, fun _ => ?_⟩
          | refine ⟨by decide, ?_⟩
          | refine ⟨rfl, ?_⟩)
  try (conv => whnf)
  obtain ⟨-, σx, hDx, hqx⟩ := id hw
  refine ⟨[.ref 0, .int (nI i), .int (nI v), .int (nI y), .int (-3000), .int 30000], σx, τ, rfl, rfl, hBs, hDx.1, (by show 120 ≤ m; omega), (σx, τ, 6, pc, 4, i, v, nI y), rfl, rfl, ⟨wS_gS h0 hqx, hi, hv, by rw [hqx 88 (by decide) (by decide)]; exact hneg⟩, ?_⟩
  try dsimp only
  rintro _ _ ⟨⟨σ1, rfl, h1q⟩, x, rfl, b1, b2, b3, b4⟩
  rw [kOk_q hqx] at b3 b4
  refine ⟨σ1, τ, rfl, rfl, fun s2 t2 hc hfr => ?_⟩
  replace hw := wS_q hS hDx hqx hc hfr h1q
  clear hc hfr hDx h1q hqx
  have hx1 : ¬ x < -3000 := fun h => by
    have := Int32.lt_iff_toInt_lt.mp h
    rw [show (-3000 : Int32).toInt = -3000 from rfl] at this
    omega
  have hx2 : ¬ 30000 < x := fun h => by
    have := Int32.lt_iff_toInt_lt.mp h
    rw [show (30000 : Int32).toInt = 30000 from rfl] at this
    omega
  have ka : -1000000000 ≤ x ∧ x ≤ 1000000000 := kp_le ⟨by omega, by omega⟩
  have ex1 : (x - 1).toInt = x.toInt - 1 := by
    rw [Int32.toInt_sub, show (1 : Int32).toInt = 1 from rfl]
    exact b32 (by omega) (by omega)
  have kb1 : -1000000000 ≤ x - 1 ∧ x - 1 ≤ 1000000000 := kp_le ⟨by omega, by omega⟩
  have h812 : ∀ (l16 l17 : Option Value) (s : zIn) (t : zLo), wS m pc (dr + 1) sh rf s t σ0 τ → Gl 812 [some (.ref zS), some (.int (nI ti)), some (.ref 0), some (.ref 1), some (.int (nI st)), some (.int c5), some (.long Dg), none, some (.int 63), some (.int c9), some (.int c10), some (.ref q), some (.int (nI i)), some (.int (nI v)), some (.int (nI y)), some (.int x), l16, l17] [] (a, b) (m, sh, rf, s, t) := by
    intro l16 l17 s t hw
    by_cases e : i = v
    · subst e
      refine hG 100 _ _ _ _ _ ?_
      repeat (conv => whnf
              try dsimp only
              try simp (decide := true) only [zu_same, zu_ne1, zu_ne2, zu_row, zuL_same, zuL_ne1, zuL_ne2, zrow_n1, zx0, zx1, zx2, zx3, nI_1, Nat.reduceAdd, Nat.reduceMul, Int32.reduceAdd, Int32.reduceSub, Int32.reduceMul]
              first
              | refine ⟨zrm (by assumption), ?_⟩
              | refine ⟨vp_inb (by decide), ?_⟩
              | refine ⟨by with_reducible exact zi (by omega), ?_⟩
              | refine ⟨fun h => absurd h (by with_reducible exact nI_ge (by omega) (by omega)), fun _ => ?_⟩
              | refine ⟨fun _ => ?_, fun h => absurd (by with_reducible exact nI_le (by omega) (by omega)) h⟩
              | refine ⟨fun h => absurd h (by with_reducible exact nI_nlt (by omega) (by omega)), fun _ => ?_⟩
              | refine ⟨fun _ => ?_, fun h => absurd (by with_reducible exact nI_lt (by omega) (by omega)) h⟩
              | refine ⟨fun h => absurd h (by with_reducible exact nI_pos (by omega)), fun _ => ?_⟩
              | refine ⟨fun _ => ?_, fun h => absurd (by with_reducible exact nI_0le (by omega)) h⟩
              | refine ⟨fun h => absurd h (by decide), fun _ => ?_⟩
              | refine ⟨fun _ => ?_, fun h => absurd (by decide) h⟩
              | refine ⟨fun _ => ?_, fun h => absurd h (by decide)⟩
              | refine ⟨fun h => absurd (by decide) h, fun _ => ?_⟩
              | refine ⟨by decide, ?_⟩
              | refine ⟨rfl, ?_⟩)
      try (conv => whnf)
      refine ⟨fun _ => ?_, fun h => ?_⟩
      · skip
        repeat (conv => whnf
                try dsimp only
                try simp (decide := true) only [zu_same, zu_ne1, zu_ne2, zu_row, zuL_same, zuL_ne1, zuL_ne2, zrow_n1, zx0, zx1, zx2, zx3, nI_1, Nat.reduceAdd, Nat.reduceMul, Int32.reduceAdd, Int32.reduceSub, Int32.reduceMul]
                first
                | refine ⟨zrm (by assumption), ?_⟩
                | refine ⟨vp_inb (by decide), ?_⟩
                | refine ⟨by with_reducible exact zi (by omega), ?_⟩
                | refine ⟨fun h => absurd h (by with_reducible exact nI_ge (by omega) (by omega)), fun _ => ?_⟩
                | refine ⟨fun _ => ?_, fun h => absurd (by with_reducible exact nI_le (by omega) (by omega)) h⟩
                | refine ⟨fun h => absurd h (by with_reducible exact nI_nlt (by omega) (by omega)), fun _ => ?_⟩
                | refine ⟨fun _ => ?_, fun h => absurd (by with_reducible exact nI_lt (by omega) (by omega)) h⟩
                | refine ⟨fun h => absurd h (by with_reducible exact nI_pos (by omega)), fun _ => ?_⟩
                | refine ⟨fun _ => ?_, fun h => absurd (by with_reducible exact nI_0le (by omega)) h⟩
                | refine ⟨fun h => absurd h (by decide), fun _ => ?_⟩
                | refine ⟨fun _ => ?_, fun h => absurd (by decide) h⟩
                | refine ⟨fun _ => ?_, fun h => absurd h (by decide)⟩
                | refine ⟨fun h => absurd (by decide) h, fun _ => ?_⟩
                | refine ⟨by decide, ?_⟩
                | refine ⟨rfl, ?_⟩)
        try (conv => whnf)
        exact h846 _ _ _ _ s t hw
      · skip
        have hgt : -3000 < x.toInt := by
          have := Int32.lt_iff_toInt_lt.mp (Int32.not_le.mp h)
          rw [show (-3000 : Int32).toInt = -3000 from rfl] at this
          exact this
        repeat (conv => whnf
                try dsimp only
                try simp (decide := true) only [zu_same, zu_ne1, zu_ne2, zu_row, zuL_same, zuL_ne1, zuL_ne2, zrow_n1, zx0, zx1, zx2, zx3, nI_1, Nat.reduceAdd, Nat.reduceMul, Int32.reduceAdd, Int32.reduceSub, Int32.reduceMul]
                first
                | refine ⟨zrm (by assumption), ?_⟩
                | refine ⟨vp_inb (by decide), ?_⟩
                | refine ⟨by with_reducible exact zi (by omega), ?_⟩
                | refine ⟨fun h => absurd h (by with_reducible exact nI_ge (by omega) (by omega)), fun _ => ?_⟩
                | refine ⟨fun _ => ?_, fun h => absurd (by with_reducible exact nI_le (by omega) (by omega)) h⟩
                | refine ⟨fun h => absurd h (by with_reducible exact nI_nlt (by omega) (by omega)), fun _ => ?_⟩
                | refine ⟨fun _ => ?_, fun h => absurd (by with_reducible exact nI_lt (by omega) (by omega)) h⟩
                | refine ⟨fun h => absurd h (by with_reducible exact nI_pos (by omega)), fun _ => ?_⟩
                | refine ⟨fun _ => ?_, fun h => absurd (by with_reducible exact nI_0le (by omega)) h⟩
                | refine ⟨fun h => absurd h (by decide), fun _ => ?_⟩
                | refine ⟨fun _ => ?_, fun h => absurd (by decide) h⟩
                | refine ⟨fun _ => ?_, fun h => absurd h (by decide)⟩
                | refine ⟨fun h => absurd (by decide) h, fun _ => ?_⟩
                | refine ⟨by decide, ?_⟩
                | refine ⟨rfl, ?_⟩)
        try (conv => whnf)
        obtain ⟨-, σx, hDx, hqx⟩ := id hw
        refine ⟨[.ref 0, .int (nI i), .int (nI i), .int (x - 1)], σx, τ, rfl, rfl, hBs, hDx.1, (by show 120 ≤ m; omega), (σx, τ, 6, pc, 4, i, i, x - 1), rfl, rfl, ⟨wS_gS h0 hqx, hi, hv, by rw [hqx 88 (by decide) (by decide)]; exact hneg, kb1⟩, ?_⟩
        try dsimp only
        rintro _ _ ⟨rfl, σ1, rfl, h1q⟩
        refine ⟨σ1, τ, rfl, rfl, fun s2 t2 hc hfr => ?_⟩
        replace hw := wS_q hS hDx hqx hc hfr h1q
        try replace hq := wq_f hfr hq
        clear hc hfr hDx h1q
        rw [cW_q hqx]
        clear hqx
        have hnb : ¬ cW σ0 6 i i (x - 1) = zBRK := inKp h0 hi hneg _
        have hlt : fSh (cW σ0 6 i i (x - 1)) < nI y := by
          rw [show fSh (cW σ0 6 i i (x - 1)) = cW σ0 6 i i (x - 1) from if_neg hnb]
          by_cases q : cW σ0 6 i i (x - 1) < nI y
          · exact q
          · exact absurd ⟨hnb, q⟩ (b4 hgt)
        repeat (conv => whnf
                try dsimp only
                try simp (decide := true) only [zu_same, zu_ne1, zu_ne2, zu_row, zuL_same, zuL_ne1, zuL_ne2, zrow_n1, zx0, zx1, zx2, zx3, nI_1, Nat.reduceAdd, Nat.reduceMul, Int32.reduceAdd, Int32.reduceSub, Int32.reduceMul]
                first
                | refine ⟨zrm (by assumption), ?_⟩
                | refine ⟨vp_inb (by decide), ?_⟩
                | refine ⟨by with_reducible exact zi (by omega), ?_⟩
                | refine ⟨fun h => absurd h (by with_reducible exact nI_ge (by omega) (by omega)), fun _ => ?_⟩
                | refine ⟨fun _ => ?_, fun h => absurd (by with_reducible exact nI_le (by omega) (by omega)) h⟩
                | refine ⟨fun h => absurd h (by with_reducible exact nI_nlt (by omega) (by omega)), fun _ => ?_⟩
                | refine ⟨fun _ => ?_, fun h => absurd (by with_reducible exact nI_lt (by omega) (by omega)) h⟩
                | refine ⟨fun h => absurd h (by with_reducible exact nI_pos (by omega)), fun _ => ?_⟩
                | refine ⟨fun _ => ?_, fun h => absurd (by with_reducible exact nI_0le (by omega)) h⟩
                | refine ⟨fun h => absurd h (by decide), fun _ => ?_⟩
                | refine ⟨fun _ => ?_, fun h => absurd (by decide) h⟩
                | refine ⟨fun _ => ?_, fun h => absurd h (by decide)⟩
                | refine ⟨fun h => absurd (by decide) h, fun _ => ?_⟩
                | refine ⟨by decide, ?_⟩
                | refine ⟨rfl, ?_⟩)
        try (conv => whnf)
        refine ⟨fun _ => ?_, fun h => absurd hlt h⟩
        repeat (conv => whnf
                try dsimp only
                try simp (decide := true) only [zu_same, zu_ne1, zu_ne2, zu_row, zuL_same, zuL_ne1, zuL_ne2, zrow_n1, zx0, zx1, zx2, zx3, nI_1, Nat.reduceAdd, Nat.reduceMul, Int32.reduceAdd, Int32.reduceSub, Int32.reduceMul]
                first
                | refine ⟨zrm (by assumption), ?_⟩
                | refine ⟨vp_inb (by decide), ?_⟩
                | refine ⟨by with_reducible exact zi (by omega), ?_⟩
                | refine ⟨fun h => absurd h (by with_reducible exact nI_ge (by omega) (by omega)), fun _ => ?_⟩
                | refine ⟨fun _ => ?_, fun h => absurd (by with_reducible exact nI_le (by omega) (by omega)) h⟩
                | refine ⟨fun h => absurd h (by with_reducible exact nI_nlt (by omega) (by omega)), fun _ => ?_⟩
                | refine ⟨fun _ => ?_, fun h => absurd (by with_reducible exact nI_lt (by omega) (by omega)) h⟩
                | refine ⟨fun h => absurd h (by with_reducible exact nI_pos (by omega)), fun _ => ?_⟩
                | refine ⟨fun _ => ?_, fun h => absurd (by with_reducible exact nI_0le (by omega)) h⟩
                | refine ⟨fun h => absurd h (by decide), fun _ => ?_⟩
                | refine ⟨fun _ => ?_, fun h => absurd (by decide) h⟩
                | refine ⟨fun _ => ?_, fun h => absurd h (by decide)⟩
                | refine ⟨fun h => absurd (by decide) h, fun _ => ?_⟩
                | refine ⟨by decide, ?_⟩
                | refine ⟨rfl, ?_⟩)
        try (conv => whnf)
        exact h846 _ _ _ _ s2 t2 hw
    · have en : ¬ nI i = nI v := fun q => e ((nI_eq (by omega) (by omega)).mp q)
      refine hG 100 _ _ _ _ _ ?_
      repeat (conv => whnf
              try dsimp only
              try simp (decide := true) only [zu_same, zu_ne1, zu_ne2, zu_row, zuL_same, zuL_ne1, zuL_ne2, zrow_n1, zx0, zx1, zx2, zx3, nI_1, Nat.reduceAdd, Nat.reduceMul, Int32.reduceAdd, Int32.reduceSub, Int32.reduceMul]
              first
              | refine ⟨zrm (by assumption), ?_⟩
              | refine ⟨vp_inb (by decide), ?_⟩
              | refine ⟨by with_reducible exact zi (by omega), ?_⟩
              | refine ⟨fun h => absurd h (by with_reducible exact nI_ge (by omega) (by omega)), fun _ => ?_⟩
              | refine ⟨fun _ => ?_, fun h => absurd (by with_reducible exact nI_le (by omega) (by omega)) h⟩
              | refine ⟨fun h => absurd h (by with_reducible exact nI_nlt (by omega) (by omega)), fun _ => ?_⟩
              | refine ⟨fun _ => ?_, fun h => absurd (by with_reducible exact nI_lt (by omega) (by omega)) h⟩
              | refine ⟨fun h => absurd h (by with_reducible exact nI_pos (by omega)), fun _ => ?_⟩
              | refine ⟨fun _ => ?_, fun h => absurd (by with_reducible exact nI_0le (by omega)) h⟩
              | refine ⟨fun h => absurd h (by decide), fun _ => ?_⟩
              | refine ⟨fun _ => ?_, fun h => absurd (by decide) h⟩
              | refine ⟨fun _ => ?_, fun h => absurd h (by decide)⟩
              | refine ⟨fun h => absurd (by decide) h, fun _ => ?_⟩
              | refine ⟨by decide, ?_⟩
              | refine ⟨rfl, ?_⟩)
      try (conv => whnf)
      first | refine ⟨fun _ => ?_, fun h => absurd h en⟩ | refine ⟨fun h => absurd h en, fun _ => ?_⟩
      repeat (conv => whnf
              try dsimp only
              try simp (decide := true) only [zu_same, zu_ne1, zu_ne2, zu_row, zuL_same, zuL_ne1, zuL_ne2, zrow_n1, zx0, zx1, zx2, zx3, nI_1, Nat.reduceAdd, Nat.reduceMul, Int32.reduceAdd, Int32.reduceSub, Int32.reduceMul]
              first
              | refine ⟨zrm (by assumption), ?_⟩
              | refine ⟨vp_inb (by decide), ?_⟩
              | refine ⟨by with_reducible exact zi (by omega), ?_⟩
              | refine ⟨fun h => absurd h (by with_reducible exact nI_ge (by omega) (by omega)), fun _ => ?_⟩
              | refine ⟨fun _ => ?_, fun h => absurd (by with_reducible exact nI_le (by omega) (by omega)) h⟩
              | refine ⟨fun h => absurd h (by with_reducible exact nI_nlt (by omega) (by omega)), fun _ => ?_⟩
              | refine ⟨fun _ => ?_, fun h => absurd (by with_reducible exact nI_lt (by omega) (by omega)) h⟩
              | refine ⟨fun h => absurd h (by with_reducible exact nI_pos (by omega)), fun _ => ?_⟩
              | refine ⟨fun _ => ?_, fun h => absurd (by with_reducible exact nI_0le (by omega)) h⟩
              | refine ⟨fun h => absurd h (by decide), fun _ => ?_⟩
              | refine ⟨fun _ => ?_, fun h => absurd (by decide) h⟩
              | refine ⟨fun _ => ?_, fun h => absurd h (by decide)⟩
              | refine ⟨fun h => absurd (by decide) h, fun _ => ?_⟩
              | refine ⟨by decide, ?_⟩
              | refine ⟨rfl, ?_⟩)
      try (conv => whnf)
      exact h846 _ _ _ _ s t hw
  repeat (conv => whnf
          try dsimp only
          try simp (decide := true) only [zu_same, zu_ne1, zu_ne2, zu_row, zuL_same, zuL_ne1, zuL_ne2, zrow_n1, zx0, zx1, zx2, zx3, nI_1, Nat.reduceAdd, Nat.reduceMul, Int32.reduceAdd, Int32.reduceSub, Int32.reduceMul]
          first
          | refine ⟨zrm (by assumption), ?_⟩
          | refine ⟨vp_inb (by decide), ?_⟩
          | refine ⟨by with_reducible exact zi (by omega), ?_⟩
          | refine ⟨fun h => absurd h (by with_reducible exact nI_ge (by omega) (by omega)), fun _ => ?_⟩
          | refine ⟨fun _ => ?_, fun h => absurd (by with_reducible exact nI_le (by omega) (by omega)) h⟩
          | refine ⟨fun h => absurd h (by with_reducible exact nI_nlt (by omega) (by omega)), fun _ => ?_⟩
          | refine ⟨fun _ => ?_, fun h => absurd (by with_reducible exact nI_lt (by omega) (by omega)) h⟩
          | refine ⟨fun h => absurd h (by with_reducible exact nI_pos (by omega)), fun _ => ?_⟩
          | refine ⟨fun _ => ?_, fun h => absurd (by with_reducible exact nI_0le (by omega)) h⟩
          | refine ⟨fun h => absurd h (by decide), fun _ => ?_⟩
          | refine ⟨fun _ => ?_, fun h => absurd (by decide) h⟩
          | refine ⟨fun _ => ?_, fun h => absurd h (by decide)⟩
          | refine ⟨fun h => absurd (by decide) h, fun _ => ?_⟩
          | refine ⟨by decide, ?_⟩
          | refine ⟨rfl, ?_⟩)
  try (conv => whnf)
  refine ⟨fun h => absurd h hx1, fun _ => ?_⟩
  repeat (conv => whnf
          try dsimp only
          try simp (decide := true) only [zu_same, zu_ne1, zu_ne2, zu_row, zuL_same, zuL_ne1, zuL_ne2, zrow_n1, zx0, zx1, zx2, zx3, nI_1, Nat.reduceAdd, Nat.reduceMul, Int32.reduceAdd, Int32.reduceSub, Int32.reduceMul]
          first
          | refine ⟨zrm (by assumption), ?_⟩
          | refine ⟨vp_inb (by decide), ?_⟩
          | refine ⟨by with_reducible exact zi (by omega), ?_⟩
          | refine ⟨fun h => absurd h (by with_reducible exact nI_ge (by omega) (by omega)), fun _ => ?_⟩
          | refine ⟨fun _ => ?_, fun h => absurd (by with_reducible exact nI_le (by omega) (by omega)) h⟩
          | refine ⟨fun h => absurd h (by with_reducible exact nI_nlt (by omega) (by omega)), fun _ => ?_⟩
          | refine ⟨fun _ => ?_, fun h => absurd (by with_reducible exact nI_lt (by omega) (by omega)) h⟩
          | refine ⟨fun h => absurd h (by with_reducible exact nI_pos (by omega)), fun _ => ?_⟩
          | refine ⟨fun _ => ?_, fun h => absurd (by with_reducible exact nI_0le (by omega)) h⟩
          | refine ⟨fun h => absurd h (by decide), fun _ => ?_⟩
          | refine ⟨fun _ => ?_, fun h => absurd (by decide) h⟩
          | refine ⟨fun _ => ?_, fun h => absurd h (by decide)⟩
          | refine ⟨fun h => absurd (by decide) h, fun _ => ?_⟩
          | refine ⟨by decide, ?_⟩
          | refine ⟨rfl, ?_⟩)
  try (conv => whnf)
  refine ⟨fun h => absurd h hx2, fun _ => ?_⟩
  by_cases e : i = v
  · subst e
    repeat (conv => whnf
            try dsimp only
            try simp (decide := true) only [zu_same, zu_ne1, zu_ne2, zu_row, zuL_same, zuL_ne1, zuL_ne2, zrow_n1, zx0, zx1, zx2, zx3, nI_1, Nat.reduceAdd, Nat.reduceMul, Int32.reduceAdd, Int32.reduceSub, Int32.reduceMul]
            first
            | refine ⟨zrm (by assumption), ?_⟩
            | refine ⟨vp_inb (by decide), ?_⟩
            | refine ⟨by with_reducible exact zi (by omega), ?_⟩
            | refine ⟨fun h => absurd h (by with_reducible exact nI_ge (by omega) (by omega)), fun _ => ?_⟩
            | refine ⟨fun _ => ?_, fun h => absurd (by with_reducible exact nI_le (by omega) (by omega)) h⟩
            | refine ⟨fun h => absurd h (by with_reducible exact nI_nlt (by omega) (by omega)), fun _ => ?_⟩
            | refine ⟨fun _ => ?_, fun h => absurd (by with_reducible exact nI_lt (by omega) (by omega)) h⟩
            | refine ⟨fun h => absurd h (by with_reducible exact nI_pos (by omega)), fun _ => ?_⟩
            | refine ⟨fun _ => ?_, fun h => absurd (by with_reducible exact nI_0le (by omega)) h⟩
            | refine ⟨fun h => absurd h (by decide), fun _ => ?_⟩
            | refine ⟨fun _ => ?_, fun h => absurd (by decide) h⟩
            | refine ⟨fun _ => ?_, fun h => absurd h (by decide)⟩
            | refine ⟨fun h => absurd (by decide) h, fun _ => ?_⟩
            | refine ⟨by decide, ?_⟩
            | refine ⟨rfl, ?_⟩)
    try (conv => whnf)
    refine ⟨fun _ => ?_, fun h => ?_⟩
    · skip
      repeat (conv => whnf
              try dsimp only
              try simp (decide := true) only [zu_same, zu_ne1, zu_ne2, zu_row, zuL_same, zuL_ne1, zuL_ne2, zrow_n1, zx0, zx1, zx2, zx3, nI_1, Nat.reduceAdd, Nat.reduceMul, Int32.reduceAdd, Int32.reduceSub, Int32.reduceMul]
              first
              | refine ⟨zrm (by assumption), ?_⟩
              | refine ⟨vp_inb (by decide), ?_⟩
              | refine ⟨by with_reducible exact zi (by omega), ?_⟩
              | refine ⟨fun h => absurd h (by with_reducible exact nI_ge (by omega) (by omega)), fun _ => ?_⟩
              | refine ⟨fun _ => ?_, fun h => absurd (by with_reducible exact nI_le (by omega) (by omega)) h⟩
              | refine ⟨fun h => absurd h (by with_reducible exact nI_nlt (by omega) (by omega)), fun _ => ?_⟩
              | refine ⟨fun _ => ?_, fun h => absurd (by with_reducible exact nI_lt (by omega) (by omega)) h⟩
              | refine ⟨fun h => absurd h (by with_reducible exact nI_pos (by omega)), fun _ => ?_⟩
              | refine ⟨fun _ => ?_, fun h => absurd (by with_reducible exact nI_0le (by omega)) h⟩
              | refine ⟨fun h => absurd h (by decide), fun _ => ?_⟩
              | refine ⟨fun _ => ?_, fun h => absurd (by decide) h⟩
              | refine ⟨fun _ => ?_, fun h => absurd h (by decide)⟩
              | refine ⟨fun h => absurd (by decide) h, fun _ => ?_⟩
              | refine ⟨by decide, ?_⟩
              | refine ⟨rfl, ?_⟩)
      try (conv => whnf)
      exact h812 _ _ s2 t2 hw
    · skip
      have hlt9 : x.toInt < 30000 := by
        have := Int32.lt_iff_toInt_lt.mp (Int32.not_le.mp h)
        rw [show (30000 : Int32).toInt = 30000 from rfl] at this
        exact this
      repeat (conv => whnf
              try dsimp only
              try simp (decide := true) only [zu_same, zu_ne1, zu_ne2, zu_row, zuL_same, zuL_ne1, zuL_ne2, zrow_n1, zx0, zx1, zx2, zx3, nI_1, Nat.reduceAdd, Nat.reduceMul, Int32.reduceAdd, Int32.reduceSub, Int32.reduceMul]
              first
              | refine ⟨zrm (by assumption), ?_⟩
              | refine ⟨vp_inb (by decide), ?_⟩
              | refine ⟨by with_reducible exact zi (by omega), ?_⟩
              | refine ⟨fun h => absurd h (by with_reducible exact nI_ge (by omega) (by omega)), fun _ => ?_⟩
              | refine ⟨fun _ => ?_, fun h => absurd (by with_reducible exact nI_le (by omega) (by omega)) h⟩
              | refine ⟨fun h => absurd h (by with_reducible exact nI_nlt (by omega) (by omega)), fun _ => ?_⟩
              | refine ⟨fun _ => ?_, fun h => absurd (by with_reducible exact nI_lt (by omega) (by omega)) h⟩
              | refine ⟨fun h => absurd h (by with_reducible exact nI_pos (by omega)), fun _ => ?_⟩
              | refine ⟨fun _ => ?_, fun h => absurd (by with_reducible exact nI_0le (by omega)) h⟩
              | refine ⟨fun h => absurd h (by decide), fun _ => ?_⟩
              | refine ⟨fun _ => ?_, fun h => absurd (by decide) h⟩
              | refine ⟨fun _ => ?_, fun h => absurd h (by decide)⟩
              | refine ⟨fun h => absurd (by decide) h, fun _ => ?_⟩
              | refine ⟨by decide, ?_⟩
              | refine ⟨rfl, ?_⟩)
      try (conv => whnf)
      obtain ⟨-, σx, hDx, hqx⟩ := id hw
      refine ⟨[.ref 0, .int (nI i), .int (nI i), .int x], σx, τ, rfl, rfl, hBs, hDx.1, (by show 120 ≤ m; omega), (σx, τ, 6, pc, 4, i, i, x), rfl, rfl, ⟨wS_gS h0 hqx, hi, hv, by rw [hqx 88 (by decide) (by decide)]; exact hneg, ka⟩, ?_⟩
      try dsimp only
      rintro _ _ ⟨rfl, σ1, rfl, h1q⟩
      refine ⟨σ1, τ, rfl, rfl, fun s2 t2 hc hfr => ?_⟩
      replace hw := wS_q hS hDx hqx hc hfr h1q
      try replace hq := wq_f hfr hq
      clear hc hfr hDx h1q
      rw [cW_q hqx]
      clear hqx
      have hnb := b3 hlt9
      have hge : ¬ fSh (cW σ0 6 i i x) < nI y := by
        rw [show fSh (cW σ0 6 i i x) = cW σ0 6 i i x from if_neg hnb.1]
        exact hnb.2
      repeat (conv => whnf
              try dsimp only
              try simp (decide := true) only [zu_same, zu_ne1, zu_ne2, zu_row, zuL_same, zuL_ne1, zuL_ne2, zrow_n1, zx0, zx1, zx2, zx3, nI_1, Nat.reduceAdd, Nat.reduceMul, Int32.reduceAdd, Int32.reduceSub, Int32.reduceMul]
              first
              | refine ⟨zrm (by assumption), ?_⟩
              | refine ⟨vp_inb (by decide), ?_⟩
              | refine ⟨by with_reducible exact zi (by omega), ?_⟩
              | refine ⟨fun h => absurd h (by with_reducible exact nI_ge (by omega) (by omega)), fun _ => ?_⟩
              | refine ⟨fun _ => ?_, fun h => absurd (by with_reducible exact nI_le (by omega) (by omega)) h⟩
              | refine ⟨fun h => absurd h (by with_reducible exact nI_nlt (by omega) (by omega)), fun _ => ?_⟩
              | refine ⟨fun _ => ?_, fun h => absurd (by with_reducible exact nI_lt (by omega) (by omega)) h⟩
              | refine ⟨fun h => absurd h (by with_reducible exact nI_pos (by omega)), fun _ => ?_⟩
              | refine ⟨fun _ => ?_, fun h => absurd (by with_reducible exact nI_0le (by omega)) h⟩
              | refine ⟨fun h => absurd h (by decide), fun _ => ?_⟩
              | refine ⟨fun _ => ?_, fun h => absurd (by decide) h⟩
              | refine ⟨fun _ => ?_, fun h => absurd h (by decide)⟩
              | refine ⟨fun h => absurd (by decide) h, fun _ => ?_⟩
              | refine ⟨by decide, ?_⟩
              | refine ⟨rfl, ?_⟩)
      try (conv => whnf)
      refine ⟨fun h => absurd h hge, fun _ => ?_⟩
      repeat (conv => whnf
              try dsimp only
              try simp (decide := true) only [zu_same, zu_ne1, zu_ne2, zu_row, zuL_same, zuL_ne1, zuL_ne2, zrow_n1, zx0, zx1, zx2, zx3, nI_1, Nat.reduceAdd, Nat.reduceMul, Int32.reduceAdd, Int32.reduceSub, Int32.reduceMul]
              first
              | refine ⟨zrm (by assumption), ?_⟩
              | refine ⟨vp_inb (by decide), ?_⟩
              | refine ⟨by with_reducible exact zi (by omega), ?_⟩
              | refine ⟨fun h => absurd h (by with_reducible exact nI_ge (by omega) (by omega)), fun _ => ?_⟩
              | refine ⟨fun _ => ?_, fun h => absurd (by with_reducible exact nI_le (by omega) (by omega)) h⟩
              | refine ⟨fun h => absurd h (by with_reducible exact nI_nlt (by omega) (by omega)), fun _ => ?_⟩
              | refine ⟨fun _ => ?_, fun h => absurd (by with_reducible exact nI_lt (by omega) (by omega)) h⟩
              | refine ⟨fun h => absurd h (by with_reducible exact nI_pos (by omega)), fun _ => ?_⟩
              | refine ⟨fun _ => ?_, fun h => absurd (by with_reducible exact nI_0le (by omega)) h⟩
              | refine ⟨fun h => absurd h (by decide), fun _ => ?_⟩
              | refine ⟨fun _ => ?_, fun h => absurd (by decide) h⟩
              | refine ⟨fun _ => ?_, fun h => absurd h (by decide)⟩
              | refine ⟨fun h => absurd (by decide) h, fun _ => ?_⟩
              | refine ⟨by decide, ?_⟩
              | refine ⟨rfl, ?_⟩)
      try (conv => whnf)
      exact h812 _ _ s2 t2 hw
  · have en : ¬ nI i = nI v := fun q => e ((nI_eq (by omega) (by omega)).mp q)
    repeat (conv => whnf
            try dsimp only
            try simp (decide := true) only [zu_same, zu_ne1, zu_ne2, zu_row, zuL_same, zuL_ne1, zuL_ne2, zrow_n1, zx0, zx1, zx2, zx3, nI_1, Nat.reduceAdd, Nat.reduceMul, Int32.reduceAdd, Int32.reduceSub, Int32.reduceMul]
            first
            | refine ⟨zrm (by assumption), ?_⟩
            | refine ⟨vp_inb (by decide), ?_⟩
            | refine ⟨by with_reducible exact zi (by omega), ?_⟩
            | refine ⟨fun h => absurd h (by with_reducible exact nI_ge (by omega) (by omega)), fun _ => ?_⟩
            | refine ⟨fun _ => ?_, fun h => absurd (by with_reducible exact nI_le (by omega) (by omega)) h⟩
            | refine ⟨fun h => absurd h (by with_reducible exact nI_nlt (by omega) (by omega)), fun _ => ?_⟩
            | refine ⟨fun _ => ?_, fun h => absurd (by with_reducible exact nI_lt (by omega) (by omega)) h⟩
            | refine ⟨fun h => absurd h (by with_reducible exact nI_pos (by omega)), fun _ => ?_⟩
            | refine ⟨fun _ => ?_, fun h => absurd (by with_reducible exact nI_0le (by omega)) h⟩
            | refine ⟨fun h => absurd h (by decide), fun _ => ?_⟩
            | refine ⟨fun _ => ?_, fun h => absurd (by decide) h⟩
            | refine ⟨fun _ => ?_, fun h => absurd h (by decide)⟩
            | refine ⟨fun h => absurd (by decide) h, fun _ => ?_⟩
            | refine ⟨by decide, ?_⟩
            | refine ⟨rfl, ?_⟩)
    try (conv => whnf)
    first | refine ⟨fun _ => ?_, fun h => absurd h en⟩ | refine ⟨fun h => absurd h en, fun _ => ?_⟩
    repeat (conv => whnf
            try dsimp only
            try simp (decide := true) only [zu_same, zu_ne1, zu_ne2, zu_row, zuL_same, zuL_ne1, zuL_ne2, zrow_n1, zx0, zx1, zx2, zx3, nI_1, Nat.reduceAdd, Nat.reduceMul, Int32.reduceAdd, Int32.reduceSub, Int32.reduceMul]
            first
            | refine ⟨zrm (by assumption), ?_⟩
            | refine ⟨vp_inb (by decide), ?_⟩
            | refine ⟨by with_reducible exact zi (by omega), ?_⟩
            | refine ⟨fun h => absurd h (by with_reducible exact nI_ge (by omega) (by omega)), fun _ => ?_⟩
            | refine ⟨fun _ => ?_, fun h => absurd (by with_reducible exact nI_le (by omega) (by omega)) h⟩
            | refine ⟨fun h => absurd h (by with_reducible exact nI_nlt (by omega) (by omega)), fun _ => ?_⟩
            | refine ⟨fun _ => ?_, fun h => absurd (by with_reducible exact nI_lt (by omega) (by omega)) h⟩
            | refine ⟨fun h => absurd h (by with_reducible exact nI_pos (by omega)), fun _ => ?_⟩
            | refine ⟨fun _ => ?_, fun h => absurd (by with_reducible exact nI_0le (by omega)) h⟩
            | refine ⟨fun h => absurd h (by decide), fun _ => ?_⟩
            | refine ⟨fun _ => ?_, fun h => absurd (by decide) h⟩
            | refine ⟨fun _ => ?_, fun h => absurd h (by decide)⟩
            | refine ⟨fun h => absurd (by decide) h, fun _ => ?_⟩
            | refine ⟨by decide, ?_⟩
            | refine ⟨rfl, ?_⟩)
    try (conv => whnf)
    exact h812 _ _ s2 t2 hw

/-! ===== the law: a step's change ===== -/
theorem zrm {a b : Nat} (h : a ≤ 200000 ∧ b ≤ 2000000) : a + 0 ≤ room_1.cells ∧ b + 0 ≤ room_1.slots := ⟨Nat.le_trans h.1 (Nat.le_of_ble_eq_true rfl), Nat.le_trans h.2 (Nat.le_of_ble_eq_true rfl)⟩
set_option maxRecDepth 100000
set_option maxHeartbeats 4000000
theorem lw_B (Gl : zK) (hG : zSt (zCL_lawB calB) [40, 116, 1041] Gl) {ti st m pc dr a b : Nat} (hst : st < 5) (hpc : pc < 40) (hpc0 : 0 < pc) (hm : m < 50000) (hdr : dr ≤ 9000) (hκ : a ≤ 200000 ∧ b ≤ 2000000) (hκ1 : a + 1 ≤ 200000 ∧ b + 4 ≤ 2000000) (l5 l6 l7 l8 l9 l10 l11 l12 l13 l14 l15 l16 l17 : Option Value) {sh : zSh} {rf : zRf} {s : zIn} {t : zLo} {σ : zIn} {τ : zLo} (hS : lS m 4 6 sh rf) (hD : lD 4 6 pc dr s t σ τ) (hI : cI σ τ 6 pc 4) (hF : cFl σ 6) (hk9 : ∀ v, v < 6 → kq (σ 89 v))
    (h116 : ∀ (c5 : Int32) (m1 pc1 dr1 a1 b1 : Nat) (sh : zSh) (rf : zRf) (s : zIn) (t : zLo) (σ : zIn) (τ : zLo), m1 ≤ m + 1 → pc1 ≤ pc + 1 → pc ≤ pc1 → dr1 ≤ dr + 20 → a1 ≤ a + 1 → b1 ≤ b + 4 → lS m1 4 6 sh rf → lD 4 6 pc1 dr1 s t σ τ → cI σ τ 6 pc1 4 → cFl σ 6 → (∀ v, v < 6 → kq (σ 89 v)) → Gl 116 [some (.ref zS), some (.int (nI ti)), some (.ref 0), some (.ref 1), some (.int (nI st)), some (.int c5), l6, l7, l8, l9, l10, l11, l12, l13, l14, l15, l16, l17] [] (a1, b1) (m1, sh, rf, s, t)) :
    Gl 40 [some (.ref zS), some (.int (nI ti)), some (.ref 0), some (.ref 1), some (.int (nI st)), l5, l6, l7, l8, l9, l10, l11, l12, l13, l14, l15, l16, l17] [] (a, b) (m, sh, rf, s, t) := by
  obtain ⟨-, hBs, h999, ⟨h0, -⟩, ⟨r0, r1, -⟩, -⟩ := id hS
  refine hG 40 _ _ _ _ _ ?_
  repeat (first
    | (conv => whnf
       try dsimp only
       try simp (decide := true) only [show (5 : Int32) = nI 5 from rfl, zu_same, zu_ne1, zu_ne2, zu_row, zuL_same, zuL_ne1, zuL_ne2, zrow_n1, zx0, zx1, zx2, zx3, nI_1, Nat.reduceAdd, Nat.reduceMul, Int32.reduceAdd, Int32.reduceSub, Int32.reduceMul]
       first
       | refine ⟨zrm (by assumption), ?_⟩
       | refine ⟨vp_inb (by decide), ?_⟩
       | refine ⟨by with_reducible exact zi (by omega), ?_⟩
       | refine ⟨fun h => absurd h (by with_reducible exact nI_ge (by omega) (by omega)), fun _ => ?_⟩
       | refine ⟨fun _ => ?_, fun h => absurd (by with_reducible exact nI_le (by omega) (by omega)) h⟩
       | refine ⟨fun h => absurd h (by with_reducible exact nI_nlt (by omega) (by omega)), fun _ => ?_⟩
       | refine ⟨fun _ => ?_, fun h => absurd (by with_reducible exact nI_lt (by omega) (by omega)) h⟩
       | refine ⟨fun h => absurd h (by with_reducible exact nI_pos (by omega)), fun _ => ?_⟩
       | refine ⟨fun _ => ?_, fun h => absurd (by with_reducible exact nI_0le (by omega)) h⟩
       | refine ⟨fun h => absurd h (by decide), fun _ => ?_⟩
       | refine ⟨fun _ => ?_, fun h => absurd (by decide) h⟩
       | refine ⟨fun _ => ?_, fun h => absurd h (by decide)⟩
       | refine ⟨fun h => absurd (by decide) h, fun _ => ?_⟩
       | refine ⟨by decide, ?_⟩
       | refine ⟨rfl, ?_⟩)
    | (conv => whnf
       fail_if_success refine Exists.intro ?_ ?_
       simp only [show (5 : Int32) = nI 5 from rfl]))
  try (conv => whnf)
  refine ⟨(m, sh, rf, s, t, dr, 4), rfl, rfl, ⟨h0, r1, h999, hD.2.1.1, by omega, by decide, by decide⟩, ?_⟩
  try dsimp only [cond_true, cond_false]
  rintro _ _ ⟨⟨y, hy, rfl⟩, s1, rfl, d1⟩
  have hD1 := lD_dS hD d1
  rcases (show y = 0 ∨ y = 1 ∨ y = 2 ∨ y = 3 by omega) with rfl | rfl | rfl | rfl
  · skip
    repeat (conv => whnf
            try dsimp only
            try simp (decide := true) only [zu_same, zu_ne1, zu_ne2, zu_row, zuL_same, zuL_ne1, zuL_ne2, zrow_n1, zx0, zx1, zx2, zx3, nI_1, Nat.reduceAdd, Nat.reduceMul, Int32.reduceAdd, Int32.reduceSub, Int32.reduceMul]
            first
            | refine ⟨zrm (by assumption), ?_⟩
            | refine ⟨vp_inb (by decide), ?_⟩
            | refine ⟨by with_reducible exact zi (by omega), ?_⟩
            | refine ⟨fun h => absurd h (by with_reducible exact nI_ge (by omega) (by omega)), fun _ => ?_⟩
            | refine ⟨fun _ => ?_, fun h => absurd (by with_reducible exact nI_le (by omega) (by omega)) h⟩
            | refine ⟨fun h => absurd h (by with_reducible exact nI_nlt (by omega) (by omega)), fun _ => ?_⟩
            | refine ⟨fun _ => ?_, fun h => absurd (by with_reducible exact nI_lt (by omega) (by omega)) h⟩
            | refine ⟨fun h => absurd h (by with_reducible exact nI_pos (by omega)), fun _ => ?_⟩
            | refine ⟨fun _ => ?_, fun h => absurd (by with_reducible exact nI_0le (by omega)) h⟩
            | refine ⟨fun h => absurd h (by decide), fun _ => ?_⟩
            | refine ⟨fun _ => ?_, fun h => absurd (by decide) h⟩
            | refine ⟨fun _ => ?_, fun h => absurd h (by decide)⟩
            | refine ⟨fun h => absurd (by decide) h, fun _ => ?_⟩
            | refine ⟨by decide, ?_⟩
            | refine ⟨rfl, ?_⟩)
    try (conv => whnf)
    refine ⟨(m, sh, rf, s1, t, σ, τ, pc, dr + 1), rfl, rfl, ⟨hS, hD1, hI, hpc0, by omega⟩, ?_⟩
    try dsimp only [cond_true, cond_false]
    rintro _ _ ⟨rfl, s2, t2, σ2, dr2, rfl, hD2, hI2, hdr2, hz2, h89⟩
    repeat (conv => whnf
            try dsimp only
            try simp (decide := true) only [zu_same, zu_ne1, zu_ne2, zu_row, zuL_same, zuL_ne1, zuL_ne2, zrow_n1, zx0, zx1, zx2, zx3, nI_1, Nat.reduceAdd, Nat.reduceMul, Int32.reduceAdd, Int32.reduceSub, Int32.reduceMul]
            first
            | refine ⟨zrm (by assumption), ?_⟩
            | refine ⟨vp_inb (by decide), ?_⟩
            | refine ⟨by with_reducible exact zi (by omega), ?_⟩
            | refine ⟨fun h => absurd h (by with_reducible exact nI_ge (by omega) (by omega)), fun _ => ?_⟩
            | refine ⟨fun _ => ?_, fun h => absurd (by with_reducible exact nI_le (by omega) (by omega)) h⟩
            | refine ⟨fun h => absurd h (by with_reducible exact nI_nlt (by omega) (by omega)), fun _ => ?_⟩
            | refine ⟨fun _ => ?_, fun h => absurd (by with_reducible exact nI_lt (by omega) (by omega)) h⟩
            | refine ⟨fun h => absurd h (by with_reducible exact nI_pos (by omega)), fun _ => ?_⟩
            | refine ⟨fun _ => ?_, fun h => absurd (by with_reducible exact nI_0le (by omega)) h⟩
            | refine ⟨fun h => absurd h (by decide), fun _ => ?_⟩
            | refine ⟨fun _ => ?_, fun h => absurd (by decide) h⟩
            | refine ⟨fun _ => ?_, fun h => absurd h (by decide)⟩
            | refine ⟨fun h => absurd (by decide) h, fun _ => ?_⟩
            | refine ⟨by decide, ?_⟩
            | refine ⟨rfl, ?_⟩)
    try (conv => whnf)
    exact h116 _ m pc dr2 a b sh rf s2 t2 σ2 τ (by omega) (by omega) (by omega) (by omega) (by omega) (by omega) hS hD2 hI2 (cFl0 hz2) (by rw [h89]; exact hk9)
  · skip
    repeat (conv => whnf
            try dsimp only
            try simp (decide := true) only [zu_same, zu_ne1, zu_ne2, zu_row, zuL_same, zuL_ne1, zuL_ne2, zrow_n1, zx0, zx1, zx2, zx3, nI_1, Nat.reduceAdd, Nat.reduceMul, Int32.reduceAdd, Int32.reduceSub, Int32.reduceMul]
            first
            | refine ⟨zrm (by assumption), ?_⟩
            | refine ⟨vp_inb (by decide), ?_⟩
            | refine ⟨by with_reducible exact zi (by omega), ?_⟩
            | refine ⟨fun h => absurd h (by with_reducible exact nI_ge (by omega) (by omega)), fun _ => ?_⟩
            | refine ⟨fun _ => ?_, fun h => absurd (by with_reducible exact nI_le (by omega) (by omega)) h⟩
            | refine ⟨fun h => absurd h (by with_reducible exact nI_nlt (by omega) (by omega)), fun _ => ?_⟩
            | refine ⟨fun _ => ?_, fun h => absurd (by with_reducible exact nI_lt (by omega) (by omega)) h⟩
            | refine ⟨fun h => absurd h (by with_reducible exact nI_pos (by omega)), fun _ => ?_⟩
            | refine ⟨fun _ => ?_, fun h => absurd (by with_reducible exact nI_0le (by omega)) h⟩
            | refine ⟨fun h => absurd h (by decide), fun _ => ?_⟩
            | refine ⟨fun _ => ?_, fun h => absurd (by decide) h⟩
            | refine ⟨fun _ => ?_, fun h => absurd h (by decide)⟩
            | refine ⟨fun h => absurd (by decide) h, fun _ => ?_⟩
            | refine ⟨by decide, ?_⟩
            | refine ⟨rfl, ?_⟩)
    try (conv => whnf)
    refine ⟨(m, sh, rf, s1, t, σ, τ, pc, dr + 1), rfl, rfl, ⟨hS, hD1, hI, hF, by omega⟩, ?_⟩
    try dsimp only [cond_true, cond_false]
    rintro _ _ ⟨rfl, s2, t2, σ2, dr2, rfl, hD2, hI2, hF2, hdr2, hkk⟩
    repeat (conv => whnf
            try dsimp only
            try simp (decide := true) only [zu_same, zu_ne1, zu_ne2, zu_row, zuL_same, zuL_ne1, zuL_ne2, zrow_n1, zx0, zx1, zx2, zx3, nI_1, Nat.reduceAdd, Nat.reduceMul, Int32.reduceAdd, Int32.reduceSub, Int32.reduceMul]
            first
            | refine ⟨zrm (by assumption), ?_⟩
            | refine ⟨vp_inb (by decide), ?_⟩
            | refine ⟨by with_reducible exact zi (by omega), ?_⟩
            | refine ⟨fun h => absurd h (by with_reducible exact nI_ge (by omega) (by omega)), fun _ => ?_⟩
            | refine ⟨fun _ => ?_, fun h => absurd (by with_reducible exact nI_le (by omega) (by omega)) h⟩
            | refine ⟨fun h => absurd h (by with_reducible exact nI_nlt (by omega) (by omega)), fun _ => ?_⟩
            | refine ⟨fun _ => ?_, fun h => absurd (by with_reducible exact nI_lt (by omega) (by omega)) h⟩
            | refine ⟨fun h => absurd h (by with_reducible exact nI_pos (by omega)), fun _ => ?_⟩
            | refine ⟨fun _ => ?_, fun h => absurd (by with_reducible exact nI_0le (by omega)) h⟩
            | refine ⟨fun h => absurd h (by decide), fun _ => ?_⟩
            | refine ⟨fun _ => ?_, fun h => absurd (by decide) h⟩
            | refine ⟨fun _ => ?_, fun h => absurd h (by decide)⟩
            | refine ⟨fun h => absurd (by decide) h, fun _ => ?_⟩
            | refine ⟨by decide, ?_⟩
            | refine ⟨rfl, ?_⟩)
    try (conv => whnf)
    exact h116 _ m pc dr2 a b sh rf s2 t2 σ2 τ (by omega) (by omega) (by omega) (by omega) (by omega) (by omega) hS hD2 hI2 hF2 (hkk hk9)
  · skip
    repeat (conv => whnf
            try dsimp only
            try simp (decide := true) only [zu_same, zu_ne1, zu_ne2, zu_row, zuL_same, zuL_ne1, zuL_ne2, zrow_n1, zx0, zx1, zx2, zx3, nI_1, Nat.reduceAdd, Nat.reduceMul, Int32.reduceAdd, Int32.reduceSub, Int32.reduceMul]
            first
            | refine ⟨zrm (by assumption), ?_⟩
            | refine ⟨vp_inb (by decide), ?_⟩
            | refine ⟨by with_reducible exact zi (by omega), ?_⟩
            | refine ⟨fun h => absurd h (by with_reducible exact nI_ge (by omega) (by omega)), fun _ => ?_⟩
            | refine ⟨fun _ => ?_, fun h => absurd (by with_reducible exact nI_le (by omega) (by omega)) h⟩
            | refine ⟨fun h => absurd h (by with_reducible exact nI_nlt (by omega) (by omega)), fun _ => ?_⟩
            | refine ⟨fun _ => ?_, fun h => absurd (by with_reducible exact nI_lt (by omega) (by omega)) h⟩
            | refine ⟨fun h => absurd h (by with_reducible exact nI_pos (by omega)), fun _ => ?_⟩
            | refine ⟨fun _ => ?_, fun h => absurd (by with_reducible exact nI_0le (by omega)) h⟩
            | refine ⟨fun h => absurd h (by decide), fun _ => ?_⟩
            | refine ⟨fun _ => ?_, fun h => absurd (by decide) h⟩
            | refine ⟨fun _ => ?_, fun h => absurd h (by decide)⟩
            | refine ⟨fun h => absurd (by decide) h, fun _ => ?_⟩
            | refine ⟨by decide, ?_⟩
            | refine ⟨rfl, ?_⟩)
    try (conv => whnf)
    refine ⟨(m, sh, rf, s1, t, σ, τ, pc, dr + 1), rfl, rfl, ⟨hS, hD1, hI, hF, by omega⟩, ?_⟩
    try dsimp only [cond_true, cond_false]
    rintro _ _ ⟨rfl, s2, t2, σ2, dr2, rfl, hD2, hI2, hF2, hdr2, h89⟩
    repeat (conv => whnf
            try dsimp only
            try simp (decide := true) only [zu_same, zu_ne1, zu_ne2, zu_row, zuL_same, zuL_ne1, zuL_ne2, zrow_n1, zx0, zx1, zx2, zx3, nI_1, Nat.reduceAdd, Nat.reduceMul, Int32.reduceAdd, Int32.reduceSub, Int32.reduceMul]
            first
            | refine ⟨zrm (by assumption), ?_⟩
            | refine ⟨vp_inb (by decide), ?_⟩
            | refine ⟨by with_reducible exact zi (by omega), ?_⟩
            | refine ⟨fun h => absurd h (by with_reducible exact nI_ge (by omega) (by omega)), fun _ => ?_⟩
            | refine ⟨fun _ => ?_, fun h => absurd (by with_reducible exact nI_le (by omega) (by omega)) h⟩
            | refine ⟨fun h => absurd h (by with_reducible exact nI_nlt (by omega) (by omega)), fun _ => ?_⟩
            | refine ⟨fun _ => ?_, fun h => absurd (by with_reducible exact nI_lt (by omega) (by omega)) h⟩
            | refine ⟨fun h => absurd h (by with_reducible exact nI_pos (by omega)), fun _ => ?_⟩
            | refine ⟨fun _ => ?_, fun h => absurd (by with_reducible exact nI_0le (by omega)) h⟩
            | refine ⟨fun h => absurd h (by decide), fun _ => ?_⟩
            | refine ⟨fun _ => ?_, fun h => absurd (by decide) h⟩
            | refine ⟨fun _ => ?_, fun h => absurd h (by decide)⟩
            | refine ⟨fun h => absurd (by decide) h, fun _ => ?_⟩
            | refine ⟨by decide, ?_⟩
            | refine ⟨rfl, ?_⟩)
    try (conv => whnf)
    exact h116 _ m pc dr2 a b sh rf s2 t2 σ2 τ (by omega) (by omega) (by omega) (by omega) (by omega) (by omega) hS hD2 hI2 hF2 (by rw [h89]; exact hk9)
  · skip
    repeat (conv => whnf
            try dsimp only
            try simp (decide := true) only [zu_same, zu_ne1, zu_ne2, zu_row, zuL_same, zuL_ne1, zuL_ne2, zrow_n1, zx0, zx1, zx2, zx3, nI_1, Nat.reduceAdd, Nat.reduceMul, Int32.reduceAdd, Int32.reduceSub, Int32.reduceMul]
            first
            | refine ⟨zrm (by assumption), ?_⟩
            | refine ⟨vp_inb (by decide), ?_⟩
            | refine ⟨by with_reducible exact zi (by omega), ?_⟩
            | refine ⟨fun h => absurd h (by with_reducible exact nI_ge (by omega) (by omega)), fun _ => ?_⟩
            | refine ⟨fun _ => ?_, fun h => absurd (by with_reducible exact nI_le (by omega) (by omega)) h⟩
            | refine ⟨fun h => absurd h (by with_reducible exact nI_nlt (by omega) (by omega)), fun _ => ?_⟩
            | refine ⟨fun _ => ?_, fun h => absurd (by with_reducible exact nI_lt (by omega) (by omega)) h⟩
            | refine ⟨fun h => absurd h (by with_reducible exact nI_pos (by omega)), fun _ => ?_⟩
            | refine ⟨fun _ => ?_, fun h => absurd (by with_reducible exact nI_0le (by omega)) h⟩
            | refine ⟨fun h => absurd h (by decide), fun _ => ?_⟩
            | refine ⟨fun _ => ?_, fun h => absurd (by decide) h⟩
            | refine ⟨fun _ => ?_, fun h => absurd h (by decide)⟩
            | refine ⟨fun h => absurd (by decide) h, fun _ => ?_⟩
            | refine ⟨by decide, ?_⟩
            | refine ⟨rfl, ?_⟩)
    try (conv => whnf)
    refine ⟨(m, sh, rf, s1, t, σ, τ, pc, dr + 1), rfl, rfl, ⟨hS, hD1, hI, hpc, by omega, by omega⟩, ?_⟩
    try dsimp only [cond_true, cond_false]
    rintro _ _ ⟨rfl, sh2, rf2, s2, t2, σ2, τ2, dr2, rfl, hS2, hD2, hI2, hf2, hdr2⟩
    repeat (conv => whnf
            try dsimp only
            try simp (decide := true) only [zu_same, zu_ne1, zu_ne2, zu_row, zuL_same, zuL_ne1, zuL_ne2, zrow_n1, zx0, zx1, zx2, zx3, nI_1, Nat.reduceAdd, Nat.reduceMul, Int32.reduceAdd, Int32.reduceSub, Int32.reduceMul]
            first
            | refine ⟨zrm (by assumption), ?_⟩
            | refine ⟨vp_inb (by decide), ?_⟩
            | refine ⟨by with_reducible exact zi (by omega), ?_⟩
            | refine ⟨fun h => absurd h (by with_reducible exact nI_ge (by omega) (by omega)), fun _ => ?_⟩
            | refine ⟨fun _ => ?_, fun h => absurd (by with_reducible exact nI_le (by omega) (by omega)) h⟩
            | refine ⟨fun h => absurd h (by with_reducible exact nI_nlt (by omega) (by omega)), fun _ => ?_⟩
            | refine ⟨fun _ => ?_, fun h => absurd (by with_reducible exact nI_lt (by omega) (by omega)) h⟩
            | refine ⟨fun h => absurd h (by with_reducible exact nI_pos (by omega)), fun _ => ?_⟩
            | refine ⟨fun _ => ?_, fun h => absurd (by with_reducible exact nI_0le (by omega)) h⟩
            | refine ⟨fun h => absurd h (by decide), fun _ => ?_⟩
            | refine ⟨fun _ => ?_, fun h => absurd (by decide) h⟩
            | refine ⟨fun _ => ?_, fun h => absurd h (by decide)⟩
            | refine ⟨fun h => absurd (by decide) h, fun _ => ?_⟩
            | refine ⟨by decide, ?_⟩
            | refine ⟨rfl, ?_⟩)
    try (conv => whnf)
    refine ⟨(m + 1, sh2, rf2, s2, t2, σ2, τ2, pc + 1, dr2), rfl, rfl, ⟨hS2, hD2, hI2, by omega, by omega⟩, ?_⟩
    try dsimp only [cond_true, cond_false]
    rintro _ _ ⟨rfl, s3, t3, σ3, dr3, rfl, hD3, hI3, hdr3, hz3, h89⟩
    repeat (conv => whnf
            try dsimp only
            try simp (decide := true) only [zu_same, zu_ne1, zu_ne2, zu_row, zuL_same, zuL_ne1, zuL_ne2, zrow_n1, zx0, zx1, zx2, zx3, nI_1, Nat.reduceAdd, Nat.reduceMul, Int32.reduceAdd, Int32.reduceSub, Int32.reduceMul]
            first
            | refine ⟨zrm (by assumption), ?_⟩
            | refine ⟨vp_inb (by decide), ?_⟩
            | refine ⟨by with_reducible exact zi (by omega), ?_⟩
            | refine ⟨fun h => absurd h (by with_reducible exact nI_ge (by omega) (by omega)), fun _ => ?_⟩
            | refine ⟨fun _ => ?_, fun h => absurd (by with_reducible exact nI_le (by omega) (by omega)) h⟩
            | refine ⟨fun h => absurd h (by with_reducible exact nI_nlt (by omega) (by omega)), fun _ => ?_⟩
            | refine ⟨fun _ => ?_, fun h => absurd (by with_reducible exact nI_lt (by omega) (by omega)) h⟩
            | refine ⟨fun h => absurd h (by with_reducible exact nI_pos (by omega)), fun _ => ?_⟩
            | refine ⟨fun _ => ?_, fun h => absurd (by with_reducible exact nI_0le (by omega)) h⟩
            | refine ⟨fun h => absurd h (by decide), fun _ => ?_⟩
            | refine ⟨fun _ => ?_, fun h => absurd (by decide) h⟩
            | refine ⟨fun _ => ?_, fun h => absurd h (by decide)⟩
            | refine ⟨fun h => absurd (by decide) h, fun _ => ?_⟩
            | refine ⟨by decide, ?_⟩
            | refine ⟨rfl, ?_⟩)
    try (conv => whnf)
    exact h116 _ (m + 1) (pc + 1) dr3 (a + 1) (b + 4) sh2 rf2 s3 t3 σ3 τ2 (by omega) (by omega) (by omega) (by omega) (by omega) (by omega) hS2 hD3 hI3 (cFl0 hz3) (by rw [h89, hf2 89 (by decide)]; exact hk9)
/-- what is told of a step, and what was found of it -/
def wS (m pc dr : Nat) (sh : zSh) (rf : zRf) (s : zIn) (t : zLo) (σ0 : zIn) (τ : zLo) : Prop := lS m 4 6 sh rf ∧ ∃ σ : zIn, lD 4 6 pc dr s t σ τ ∧ cTq σ0 σ
theorem wS_gS {pc : Nat} {σ0 σ : zIn} {τ : zLo} (h0 : gS σ0 τ 6 pc 4) (hq : cTq σ0 σ) : gS σ τ 6 pc 4 := gS_cg h0 hq
theorem cTq_t {σ σ1 σ2 : zIn} (h1 : cTq σ σ1) (h2 : cTq σ1 σ2) : cTq σ σ2 := fun r a b => (h2 r a b).trans (h1 r a b)
theorem cTq_r {σ : zIn} : cTq σ σ := fun _ _ _ => rfl
theorem lD_q {pc dr : Nat} {s s1 : zIn} {t t1 : zLo} {σ σ1 : zIn} {τ : zLo} (h : lD 4 6 pc dr s t σ τ) (hb : zBc s1 t1 σ1 τ) (hf : ∀ k, k = 0 ∨ 120 ≤ k → s1 k = s k ∧ t1 k = t k) (hq : σ1 100 = σ 100 ∧ σ1 15 = σ 15 ∧ σ1 16 = σ 16 ∧ σ1 87 = σ 87 ∧ σ1 88 = σ 88 ∧ σ1 89 = σ 89) : lD 4 6 pc dr s1 t1 σ1 τ := by
  obtain ⟨q1, q2, q3, q4, q5, q6⟩ := hq
  refine ⟨hb, ?_, fun u hu => ?_, fun v hv => ?_⟩
  · rw [(hf 0 (Or.inl rfl)).1, q1]
    exact h.2.1
  · rw [(hf (125 + u) (Or.inr (by omega))).1, q2, q3]
    exact h.2.2.1 u hu
  · rw [(hf (129 + v) (Or.inr (by omega))).1, q4, q5, q6]
    exact h.2.2.2 v hv
theorem wS_q {m pc dr : Nat} {sh : zSh} {rf : zRf} {s s1 : zIn} {t t1 : zLo} {σ0 σ σ1 : zIn} {τ : zLo} (hS : lS m 4 6 sh rf) (h : lD 4 6 pc dr s t σ τ) (h0 : cTq σ0 σ) (hb : zBc s1 t1 σ1 τ) (hf : ∀ k, k = 0 ∨ 120 ≤ k → s1 k = s k ∧ t1 k = t k) (hq : cTq σ σ1) : wS m pc dr sh rf s1 t1 σ0 τ :=
  ⟨hS, σ1, lD_q h hb hf ⟨hq 100 (by decide) (by decide), hq 15 (by decide) (by decide), hq 16 (by decide) (by decide), hq 87 (by decide) (by decide), hq 88 (by decide) (by decide), hq 89 (by decide) (by decide)⟩, cTq_t h0 hq⟩
theorem lw_C (Gl : zK) (hG : zSt (zCL_lawC calC) [116, 134] Gl) {ti st m pc dr a b : Nat} {c5 : Int32} (hκ : a ≤ 200000 ∧ b ≤ 2000000) (l6 l7 l8 l9 l10 l11 l12 l13 l14 l15 l16 l17 : Option Value) {sh : zSh} {rf : zRf} {s : zIn} {t : zLo} {σ : zIn} {τ : zLo} (hS : lS m 4 6 sh rf) (hD : lD 4 6 pc dr s t σ τ) (hI : cI σ τ 6 pc 4) (hF : cFl σ 6) (hk9 : ∀ v, v < 6 → kq (σ 89 v))
    (h134 : ∀ (s : zIn) (t : zLo) (σ0 : zIn), gS σ0 τ 6 pc 4 → (∀ v, v < 6 → kq (σ0 89 v)) → wS m pc dr sh rf s t σ0 τ → Gl 134 [some (.ref zS), some (.int (nI ti)), some (.ref 0), some (.ref 1), some (.int (nI st)), some (.int c5), some (.long (cDg σ0 τ 6 pc 4)), none, some (.int 0), some (.int 0), some (.int 0), some (.int 0), l12, l13, l14, l15, l16, l17] [] (a, b) (m, sh, rf, s, t)) :
    Gl 116 [some (.ref zS), some (.int (nI ti)), some (.ref 0), some (.ref 1), some (.int (nI st)), some (.int c5), l6, l7, l8, l9, l10, l11, l12, l13, l14, l15, l16, l17] [] (a, b) (m, sh, rf, s, t) := by
  obtain ⟨⟨hm, -⟩, hBs, h999, ⟨h0, -⟩, ⟨r0, r1, -⟩, -⟩ := id hS
  refine hG 40 _ _ _ _ _ ?_
  repeat (conv => whnf
          try dsimp only
          try simp (decide := true) only [zu_same, zu_ne1, zu_ne2, zu_row, zuL_same, zuL_ne1, zuL_ne2, zrow_n1, zx0, zx1, zx2, zx3, nI_1, Nat.reduceAdd, Nat.reduceMul, Int32.reduceAdd, Int32.reduceSub, Int32.reduceMul]
          first
          | refine ⟨zrm (by assumption), ?_⟩
          | refine ⟨vp_inb (by decide), ?_⟩
          | refine ⟨by with_reducible exact zi (by omega), ?_⟩
          | refine ⟨fun h => absurd h (by with_reducible exact nI_ge (by omega) (by omega)), fun _ => ?_⟩
          | refine ⟨fun _ => ?_, fun h => absurd (by with_reducible exact nI_le (by omega) (by omega)) h⟩
          | refine ⟨fun h => absurd h (by with_reducible exact nI_nlt (by omega) (by omega)), fun _ => ?_⟩
          | refine ⟨fun _ => ?_, fun h => absurd (by with_reducible exact nI_lt (by omega) (by omega)) h⟩
          | refine ⟨fun h => absurd h (by with_reducible exact nI_pos (by omega)), fun _ => ?_⟩
          | refine ⟨fun _ => ?_, fun h => absurd (by with_reducible exact nI_0le (by omega)) h⟩
          | refine ⟨fun h => absurd h (by decide), fun _ => ?_⟩
          | refine ⟨fun _ => ?_, fun h => absurd (by decide) h⟩
          | refine ⟨fun _ => ?_, fun h => absurd h (by decide)⟩
          | refine ⟨fun h => absurd (by decide) h, fun _ => ?_⟩
          | refine ⟨by decide, ?_⟩
          | refine ⟨rfl, ?_⟩)
  try (conv => whnf)
  refine ⟨[.ref 0], σ, τ, rfl, rfl, hBs, hD.1, by show 120 ≤ m; omega, (σ, τ, 6, pc, 4), rfl, rfl, ⟨hI, hF⟩, ?_⟩
  try dsimp only [cond_true, cond_false]
  rintro _ _ ⟨σ1, rfl, rfl, hg, hf1, -⟩
  refine ⟨σ1, τ, rfl, rfl, fun s2 t2 hc hfr => ?_⟩
  repeat (conv => whnf
          try dsimp only
          try simp (decide := true) only [zu_same, zu_ne1, zu_ne2, zu_row, zuL_same, zuL_ne1, zuL_ne2, zrow_n1, zx0, zx1, zx2, zx3, nI_1, Nat.reduceAdd, Nat.reduceMul, Int32.reduceAdd, Int32.reduceSub, Int32.reduceMul]
          first
          | refine ⟨zrm (by assumption), ?_⟩
          | refine ⟨vp_inb (by decide), ?_⟩
          | refine ⟨by with_reducible exact zi (by omega), ?_⟩
          | refine ⟨fun h => absurd h (by with_reducible exact nI_ge (by omega) (by omega)), fun _ => ?_⟩
          | refine ⟨fun _ => ?_, fun h => absurd (by with_reducible exact nI_le (by omega) (by omega)) h⟩
          | refine ⟨fun h => absurd h (by with_reducible exact nI_nlt (by omega) (by omega)), fun _ => ?_⟩
          | refine ⟨fun _ => ?_, fun h => absurd (by with_reducible exact nI_lt (by omega) (by omega)) h⟩
          | refine ⟨fun h => absurd h (by with_reducible exact nI_pos (by omega)), fun _ => ?_⟩
          | refine ⟨fun _ => ?_, fun h => absurd (by with_reducible exact nI_0le (by omega)) h⟩
          | refine ⟨fun h => absurd h (by decide), fun _ => ?_⟩
          | refine ⟨fun _ => ?_, fun h => absurd (by decide) h⟩
          | refine ⟨fun _ => ?_, fun h => absurd h (by decide)⟩
          | refine ⟨fun h => absurd (by decide) h, fun _ => ?_⟩
          | refine ⟨by decide, ?_⟩
          | refine ⟨rfl, ?_⟩)
  try (conv => whnf)
  exact h134 s2 t2 σ1 hg (by rw [hf1 89 (by decide) (by omega)]; exact hk9) ⟨hS, σ1, lD_q hD hc hfr ⟨hf1 100 (by decide) (by omega), hf1 15 (by decide) (by omega), hf1 16 (by decide) (by omega), hf1 87 (by decide) (by omega), hf1 88 (by decide) (by omega), hf1 89 (by decide) (by omega)⟩, cTq_r⟩

/-! ===== the sheet: units ===== -/
theorem zx4 : Int32.toNatClampNeg 4 = 4 := rfl
theorem zx5 : Int32.toNatClampNeg 5 = 5 := rfl
def spX8_addUnit : zSp := zDQ (X := zSh × zRf × zIn × zLo × zIn × zLo × Nat × Nat × Nat) (fun x => match x with | (sh, rf, s, t, σ, τ, un, pc, dr) => [.ref 0]) (fun x => match x with | (sh, rf, s, t, σ, τ, un, pc, dr) => (125 + un, sh, rf, s, t)) (fun x => match x with | (sh, rf, s, t, σ, τ, un, pc, dr) => lS (125 + un) un 0 sh rf ∧ lD un 0 pc dr s t σ τ ∧ cI σ τ 0 pc un ∧ (σ 0 13 = 0 ∧ σ 0 14 = 0 ∧ σ 0 15 = 0) ∧ un < 4 ∧ dr + 8 < 10000) (fun x r9 μ9 => match x with | (sh, rf, s, t, σ, τ, un, pc, dr) => r9 = some (.int 1) ∧ ∃ (sh1 : zSh) (rf1 : zRf) (s1 : zIn) (t1 : zLo) (σ1 : zIn) (dr1 : Nat), μ9 = (125 + (un + 1), sh1, rf1, s1, t1) ∧ lS (125 + (un + 1)) (un + 1) 0 sh1 rf1 ∧ lD (un + 1) 0 pc dr1 s1 t1 σ1 τ ∧ cI σ1 τ 0 pc (un + 1) ∧ (σ1 0 13 = 0 ∧ σ1 0 14 = 0 ∧ σ1 0 15 = 0) ∧ dr1 ≤ dr + 8)
abbrev rmX8_addUnit : Room := ({ frames := 2, cells := 1, slots := 6, locals := 52 } : Room)
set_option maxRecDepth 100000 in
set_option maxHeartbeats 4000000 in
theorem ctX8_addUnit (l : Launch) (D : va_G) (cA : Nat → ClassId) : zCt true l D cA yX8_addUnit cX8_addUnit 2 (some .boolean) rmX8_addUnit spX8_addUnit := by
  refine zct_Q (zCX8_addUnit [(58, 0, 1, spX8_draw, rmX8_draw.cells, rmX8_draw.slots), (62, 0, 6, spJX7_unit, rmX7_unit.cells, rmX7_unit.slots)]) zpX8_addUnit [15, 47, 68, 88, 111] (by decide +kernel) zkX8_addUnit (Or.inr (by decide +kernel)) trivial ⟨by decide +kernel, by decide +kernel⟩ (fun x ad => Nat.le_of_ble_eq_true rfl) ?_ ?_
  · intro p e s m args below meth c A H0 ad0 n0 Q F hml hNw hA hX
    exact ⟨zco_V hX hA F hml hNw (ctX8_draw l D cA) ⟨⟨zlX8_addUnit_58, zwX8_draw.1.1, zwX8_draw.1.2⟩, zwX8_draw.2⟩ zdX8_draw ⟨Nat.le_of_ble_eq_true rfl, Nat.le_of_ble_eq_true rfl⟩ (ci := 8) (by decide) rfl (by rintro av μ K ⟨⟨m, sh, rf, s, t, dr, k⟩, rfl, rfl, ⟨h, -⟩, -⟩; exact ⟨_, _, rfl, congrArg Prod.fst h⟩), zco_V hX hA F hml hNw (zct_X (ctJX7_unit l D cA)) ⟨⟨zlX8_addUnit_62, zwX7_unit.1.1, zwX7_unit.1.2⟩, zwX7_unit.2⟩ zdX7_unit ⟨Nat.le_of_ble_eq_true rfl, Nat.le_of_ble_eq_true rfl⟩ (ci := 7) (by decide) rfl (zrvJ (by rintro av μ K ⟨x, rfl, -⟩; exact ⟨_, rfl⟩)), trivial⟩
  · rintro ⟨sh, rf, s, t, σ, τ, un, pc, dr⟩ Ret hP hK Gl hG
    try dsimp only at hP hK
    show Gl 0 (zent 2 [.ref 0]) [] (0, 0) ((125 + un, sh, rf, s, t))
    obtain ⟨hS, hD, hI, hf0, hu4, hdr⟩ := hP
    generalize hm : 125 + un = m at *
    have hb126 : 126 ≤ m := hS.1.1
    have hm0 : m ≠ 0 := by omega
    have k1 : ∀ g, g < 2000 → (1 : Int32) ≤ 1 + nI g ∧ 1 + nI g ≤ 100000 := by decide +kernel
    have body9 : ∀ (sh1 : zSh) (rf1 : zRf) (s1 : zIn) (t1 : zLo), lS (m + 1) un 0 sh1 rf1 → lD un 0 pc dr s1 t1 σ τ → sh1 m = (100, 6) → Gl 15 [some (.ref 0), none] [.ref m] (1, 6) (m + 1, sh1, rf1, s1, t1) := by
      intro sh1 rf1 s1 t1 hS1 hD1 hsm
      obtain ⟨⟨b1, b2, b3, b4, b5⟩, hBs, h999, ⟨h0, h120, h121, h122⟩, ⟨r0, r1, r4, r6, r8⟩, hu9, hv9⟩ := id hS1
      have h111 : ∀ (s2 : zIn) (a b d p : Int32) (k dr2 : Nat), uS s1 s2 m dr2 → dr2 ≤ dr + 7 → s2 m 0 = a → s2 m 1 = b → s2 m 2 = 0 → s2 m 3 = d → s2 m 4 = p → (-3 ≤ a ∧ a ≤ 3) → (-3 ≤ b ∧ b ≤ 3) → (-3 ≤ d ∧ d ≤ 3) → (1 ≤ p ∧ p ≤ 100000) → 0 < k → k ≤ 2000 → Gl 111 [some (.ref 0), none] [.int (nI k), .ref 0, .int 1, .int 5, .ref m, .ref m] (1, 6) (m + 1, sh1, rf1, s2, t1) := by
        intro s2 a b d p k dr2 hU hdr2 g0 g1 g2 g3 g4 ra rb rd rp hk hk2
        refine hG 100 _ _ _ _ _ ?_
        repeat (conv => whnf
                try dsimp only
                try simp (decide := true) only [zu_same, zu_ne1, zu_ne2, zu_row, zuL_same, zuL_ne1, zuL_ne2, zrow_n1, zx0, zx1, zx2, zx3, nI_1, Nat.reduceAdd, Nat.reduceMul, Int32.reduceAdd, Int32.reduceSub, Int32.reduceMul]
                first
                | refine ⟨vp_inb (by decide), ?_⟩
                | refine ⟨by with_reducible exact zi (by omega), ?_⟩
                | refine ⟨fun h => absurd h (by with_reducible exact nI_ge (by omega) (by omega)), fun _ => ?_⟩
                | refine ⟨fun _ => ?_, fun h => absurd (by with_reducible exact nI_le (by omega) (by omega)) h⟩
                | refine ⟨fun h => absurd h (by with_reducible exact nI_nlt (by omega) (by omega)), fun _ => ?_⟩
                | refine ⟨fun _ => ?_, fun h => absurd (by with_reducible exact nI_lt (by omega) (by omega)) h⟩
                | refine ⟨fun h => absurd h (by with_reducible exact nI_pos (by omega)), fun _ => ?_⟩
                | refine ⟨fun _ => ?_, fun h => absurd (by with_reducible exact nI_0le (by omega)) h⟩
                | refine ⟨fun h => absurd h (by decide), fun _ => ?_⟩
                | refine ⟨fun _ => ?_, fun h => absurd (by decide) h⟩
                | refine ⟨fun _ => ?_, fun h => absurd h (by decide)⟩
                | refine ⟨fun h => absurd (by decide) h, fun _ => ?_⟩
                | refine ⟨by decide, ?_⟩
                | refine ⟨rfl, ?_⟩)
        try (conv => whnf)
        refine ⟨(m + 1, sh1, rf1, s2, t1, dr2, k), rfl, rfl, ⟨h0, r1, h999, hU.1, by omega, hk, by omega⟩, ?_⟩
        try dsimp only [cond_true, cond_false]
        rintro _ _ ⟨⟨y, hy, rfl⟩, s3, rfl, d3⟩
        have f3 : s3 m = s2 m := d3.2.2 m hm0
        have hU4 : uS s1 (zu s3 m 5 (1 + nI y)) m (dr2 + 1) := uS_u hm0 (uS_d hU d3)
        have e0 : zu s3 m 5 (1 + nI y) m 0 = a := (zu_ne2 (by decide)).trans (by rw [f3]; exact g0)
        have e1 : zu s3 m 5 (1 + nI y) m 1 = b := (zu_ne2 (by decide)).trans (by rw [f3]; exact g1)
        have e2 : zu s3 m 5 (1 + nI y) m 2 = 0 := (zu_ne2 (by decide)).trans (by rw [f3]; exact g2)
        have e3 : zu s3 m 5 (1 + nI y) m 3 = d := (zu_ne2 (by decide)).trans (by rw [f3]; exact g3)
        have e4 : zu s3 m 5 (1 + nI y) m 4 = p := (zu_ne2 (by decide)).trans (by rw [f3]; exact g4)
        have e5 : zu s3 m 5 (1 + nI y) m 5 = 1 + nI y := zu_same
        have rq := k1 y (by omega)
        repeat (first
          | (conv => whnf
             try dsimp only
             try simp (decide := true) only [zx4, zx5, h0, hsm, zu_same, zu_ne1, zu_ne2, zu_row, zuL_same, zuL_ne1, zuL_ne2, zrow_n1, zx0, zx1, zx2, zx3, nI_1, Nat.reduceAdd, Nat.reduceMul, Int32.reduceAdd, Int32.reduceSub, Int32.reduceMul]
             first
             | refine ⟨vp_inb (by decide), ?_⟩
             | refine ⟨by with_reducible exact zi (by omega), ?_⟩
             | refine ⟨fun h => absurd h (by with_reducible exact nI_ge (by omega) (by omega)), fun _ => ?_⟩
             | refine ⟨fun _ => ?_, fun h => absurd (by with_reducible exact nI_le (by omega) (by omega)) h⟩
             | refine ⟨fun h => absurd h (by with_reducible exact nI_nlt (by omega) (by omega)), fun _ => ?_⟩
             | refine ⟨fun _ => ?_, fun h => absurd (by with_reducible exact nI_lt (by omega) (by omega)) h⟩
             | refine ⟨fun h => absurd h (by with_reducible exact nI_pos (by omega)), fun _ => ?_⟩
             | refine ⟨fun _ => ?_, fun h => absurd (by with_reducible exact nI_0le (by omega)) h⟩
             | refine ⟨fun h => absurd h (by decide), fun _ => ?_⟩
             | refine ⟨fun _ => ?_, fun h => absurd (by decide) h⟩
             | refine ⟨fun _ => ?_, fun h => absurd h (by decide)⟩
             | refine ⟨fun h => absurd (by decide) h, fun _ => ?_⟩
             | refine ⟨by decide, ?_⟩
             | refine ⟨rfl, ?_⟩)
          | (conv => whnf
             fail_if_success refine Exists.intro ?_ ?_
             simp only [zx4, zx5, h0, hsm]))
        try (conv => whnf)
        generalize hq : 1 + nI y = q at *
        generalize zu s3 m 5 q = s4 at hU4 e0 e1 e2 e3 e4 e5 ⊢
        have hS0 : lS m un 0 sh rf := hS
        have hD4 := lD_uS hS0 hD1 hU4
        have h03 : s4 0 3 = nI un := hD4.2.1.2.1
        repeat (first
          | (conv => whnf
             try dsimp only
             try simp (decide := true) only [zx4, zx5, h0, hsm, r0, r4, h120, h03, nI_clamp (show un < 2 ^ 31 by omega), zu_same, zu_ne1, zu_ne2, zu_row, zuL_same, zuL_ne1, zuL_ne2, zrow_n1, zx0, zx1, zx2, zx3, nI_1, Nat.reduceAdd, Nat.reduceMul, Int32.reduceAdd, Int32.reduceSub, Int32.reduceMul]
             first
             | refine ⟨vp_inb (by decide), ?_⟩
             | refine ⟨by with_reducible exact zi (by omega), ?_⟩
             | refine ⟨fun h => absurd h (by with_reducible exact nI_ge (by omega) (by omega)), fun _ => ?_⟩
             | refine ⟨fun _ => ?_, fun h => absurd (by with_reducible exact nI_le (by omega) (by omega)) h⟩
             | refine ⟨fun h => absurd h (by with_reducible exact nI_nlt (by omega) (by omega)), fun _ => ?_⟩
             | refine ⟨fun _ => ?_, fun h => absurd (by with_reducible exact nI_lt (by omega) (by omega)) h⟩
             | refine ⟨fun h => absurd h (by with_reducible exact nI_pos (by omega)), fun _ => ?_⟩
             | refine ⟨fun _ => ?_, fun h => absurd (by with_reducible exact nI_0le (by omega)) h⟩
             | refine ⟨fun h => absurd h (by decide), fun _ => ?_⟩
             | refine ⟨fun _ => ?_, fun h => absurd (by decide) h⟩
             | refine ⟨fun _ => ?_, fun h => absurd h (by decide)⟩
             | refine ⟨fun h => absurd (by decide) h, fun _ => ?_⟩
             | refine ⟨by decide, ?_⟩
             | refine ⟨rfl, ?_⟩)
          | (conv => whnf
             fail_if_success refine Exists.intro ?_ ?_
             simp only [zx4, zx5, h0, hsm, r0, r4, h120, h03, nI_clamp (show un < 2 ^ 31 by omega)]))
        try (conv => whnf)
        rw [zuR_ne (show (0 : Nat) ≠ 120 by decide), r0]
        repeat (first
          | (conv => whnf
             try dsimp only
             try simp (decide := true) only [zx4, zx5, h0, hsm, r0, r4, h120, h03, e0, e1, e2, e3, e4, e5, nI_clamp (show un < 2 ^ 31 by omega), zu_same, zu_ne1, zu_ne2, zu_row, zuL_same, zuL_ne1, zuL_ne2, zrow_n1, zx0, zx1, zx2, zx3, nI_1, Nat.reduceAdd, Nat.reduceMul, Int32.reduceAdd, Int32.reduceSub, Int32.reduceMul]
             first
             | refine ⟨vp_inb (by decide), ?_⟩
             | refine ⟨by with_reducible exact zi (by omega), ?_⟩
             | refine ⟨fun h => absurd h (by with_reducible exact nI_ge (by omega) (by omega)), fun _ => ?_⟩
             | refine ⟨fun _ => ?_, fun h => absurd (by with_reducible exact nI_le (by omega) (by omega)) h⟩
             | refine ⟨fun h => absurd h (by with_reducible exact nI_nlt (by omega) (by omega)), fun _ => ?_⟩
             | refine ⟨fun _ => ?_, fun h => absurd (by with_reducible exact nI_lt (by omega) (by omega)) h⟩
             | refine ⟨fun h => absurd h (by with_reducible exact nI_pos (by omega)), fun _ => ?_⟩
             | refine ⟨fun _ => ?_, fun h => absurd (by with_reducible exact nI_0le (by omega)) h⟩
             | refine ⟨fun h => absurd h (by decide), fun _ => ?_⟩
             | refine ⟨fun _ => ?_, fun h => absurd (by decide) h⟩
             | refine ⟨fun _ => ?_, fun h => absurd h (by decide)⟩
             | refine ⟨fun h => absurd (by decide) h, fun _ => ?_⟩
             | refine ⟨by decide, ?_⟩
             | refine ⟨rfl, ?_⟩)
          | (conv => whnf
             fail_if_success refine Exists.intro ?_ ?_
             simp only [zx4, zx5, h0, hsm, r0, r4, h120, h03, e0, e1, e2, e3, e4, e5, nI_clamp (show un < 2 ^ 31 by omega)]))
        try (conv => whnf)
        refine ⟨[.ref 0, .int a, .int b, .int 0, .int d, .int p, .int q], σ, τ, rfl, rfl, (zBs_zuR hBs (by omega)), hD4.1, by show 120 ≤ m + 1; omega, (σ, τ, 0, pc, un, a, b, 0, d, p, q), rfl, rfl, ⟨hI, by omega, ra, rb, ⟨by decide, by decide⟩, rd, rp, rq⟩, ?_⟩
        try dsimp only [cond_true, cond_false]
        rintro _ _ ⟨rfl, σ1, rfl, c1, c2, c3, c4, c5⟩
        refine ⟨σ1, τ, rfl, rfl, fun s5 t5 hbc hfr => ?_⟩
        have z03 : s5 0 3 = nI un := by rw [(hfr 0 (Or.inl rfl)).1]; exact h03
        repeat (first
          | (conv => whnf
             try dsimp only
             try simp (decide := true) only [h0, z03, zu_same, zu_ne1, zu_ne2, zu_row, zuL_same, zuL_ne1, zuL_ne2, zrow_n1, zx0, zx1, zx2, zx3, nI_1, Nat.reduceAdd, Nat.reduceMul, Int32.reduceAdd, Int32.reduceSub, Int32.reduceMul]
             first
             | refine ⟨vp_inb (by decide), ?_⟩
             | refine ⟨by with_reducible exact zi (by omega), ?_⟩
             | refine ⟨fun h => absurd h (by with_reducible exact nI_ge (by omega) (by omega)), fun _ => ?_⟩
             | refine ⟨fun _ => ?_, fun h => absurd (by with_reducible exact nI_le (by omega) (by omega)) h⟩
             | refine ⟨fun h => absurd h (by with_reducible exact nI_nlt (by omega) (by omega)), fun _ => ?_⟩
             | refine ⟨fun _ => ?_, fun h => absurd (by with_reducible exact nI_lt (by omega) (by omega)) h⟩
             | refine ⟨fun h => absurd h (by with_reducible exact nI_pos (by omega)), fun _ => ?_⟩
             | refine ⟨fun _ => ?_, fun h => absurd (by with_reducible exact nI_0le (by omega)) h⟩
             | refine ⟨fun h => absurd h (by decide), fun _ => ?_⟩
             | refine ⟨fun _ => ?_, fun h => absurd (by decide) h⟩
             | refine ⟨fun _ => ?_, fun h => absurd h (by decide)⟩
             | refine ⟨fun h => absurd (by decide) h, fun _ => ?_⟩
             | refine ⟨by decide, ?_⟩
             | refine ⟨rfl, ?_⟩)
          | (conv => whnf
             fail_if_success refine Exists.intro ?_ ?_
             simp only [h0, z03]))
        try (conv => whnf)
        try dsimp only
        try simp (decide := true) only [zu_same, zu_ne1, zu_ne2, zu_row, zuL_same, zuL_ne1, zuL_ne2, zrow_n1, zx0, zx1, zx2, zx3, nI_1, Nat.reduceAdd, Nat.reduceMul, Int32.reduceAdd, Int32.reduceSub, Int32.reduceMul]
        obtain ⟨-, ⟨q2, q3, q5, q7, q9⟩, qu, qv⟩ := hD4
        have zr : ∀ r, 120 ≤ r → zu s5 0 3 (nI (un + 1)) r = s4 r := fun r hr => by rw [zu_row (by omega)]; exact (hfr r (Or.inr hr)).1
        have zz : ∀ j, j ≠ 3 → zu s5 0 3 (nI (un + 1)) 0 j = s4 0 j := fun j hj => by rw [zu_ne2 hj, (hfr 0 (Or.inl rfl)).1]
        refine hK _ _ ⟨rfl, sh1, _, _, t5, σ1, dr2 + 1, by rw [show 125 + (un + 1) = m + 1 by omega], ?_, ⟨zBc_zu (Or.inl rfl) hbc, ⟨by rw [zz 2 (by decide)]; exact q2, zu_same, by rw [zz 5 (by decide)]; exact q5, by rw [zz 7 (by decide)]; exact q7, by rw [zz 9 (by decide), c2 100 (by decide) (by decide)]; exact q9⟩, fun w hw => ?_, fun w hw => absurd hw (Nat.not_lt_zero w)⟩, c1, by rw [c2 0 (by decide) (by decide)]; exact hf0, by omega⟩
        · rw [show 125 + (un + 1) = m + 1 by omega]
          refine ⟨⟨by omega, by omega, by omega, by omega, by omega⟩, zBs_zuR hBs (by omega), h999, ⟨h0, h120, h121, h122⟩, by rw [zuR_ne (by decide)]; exact ⟨r0, r1, r4, r6, r8⟩, fun w hw => ?_, fun w hw => absurd hw (Nat.not_lt_zero w)⟩
          by_cases e : w = un
          · rw [e, zuR_same, hm]
            exact ⟨rfl, hsm⟩
          · rw [zuR_ne2 e]
            exact hu9 w (by omega)
        · rw [zr (125 + w) (by omega)]
          by_cases e : w = un
          · rw [e, hm, c4, c5]
            exact ⟨e4, e5⟩
          · rw [(c3 w e).1, (c3 w e).2]
            exact qu w (by omega)
      have h88 : ∀ (s2 : zIn) (a b d : Int32) (k dr2 : Nat), uS s1 s2 m dr2 → dr2 ≤ dr + 5 → s2 m 0 = a → s2 m 1 = b → s2 m 2 = 0 → s2 m 3 = d → (-3 ≤ a ∧ a ≤ 3) → (-3 ≤ b ∧ b ≤ 3) → (-3 ≤ d ∧ d ≤ 3) → 0 < k → k ≤ 2000 → Gl 88 [some (.ref 0), none] [.int (nI k), .ref 0, .int 1, .int 4, .ref m, .ref m] (1, 6) (m + 1, sh1, rf1, s2, t1) := by
        intro s2 a b d k dr2 hU hdr2 g0 g1 g2 g3 ra rb rd hk hk2
        refine hG 100 _ _ _ _ _ ?_
        repeat (conv => whnf
                try dsimp only
                try simp (decide := true) only [zu_same, zu_ne1, zu_ne2, zu_row, zuL_same, zuL_ne1, zuL_ne2, zrow_n1, zx0, zx1, zx2, zx3, nI_1, Nat.reduceAdd, Nat.reduceMul, Int32.reduceAdd, Int32.reduceSub, Int32.reduceMul]
                first
                | refine ⟨vp_inb (by decide), ?_⟩
                | refine ⟨by with_reducible exact zi (by omega), ?_⟩
                | refine ⟨fun h => absurd h (by with_reducible exact nI_ge (by omega) (by omega)), fun _ => ?_⟩
                | refine ⟨fun _ => ?_, fun h => absurd (by with_reducible exact nI_le (by omega) (by omega)) h⟩
                | refine ⟨fun h => absurd h (by with_reducible exact nI_nlt (by omega) (by omega)), fun _ => ?_⟩
                | refine ⟨fun _ => ?_, fun h => absurd (by with_reducible exact nI_lt (by omega) (by omega)) h⟩
                | refine ⟨fun h => absurd h (by with_reducible exact nI_pos (by omega)), fun _ => ?_⟩
                | refine ⟨fun _ => ?_, fun h => absurd (by with_reducible exact nI_0le (by omega)) h⟩
                | refine ⟨fun h => absurd h (by decide), fun _ => ?_⟩
                | refine ⟨fun _ => ?_, fun h => absurd (by decide) h⟩
                | refine ⟨fun _ => ?_, fun h => absurd h (by decide)⟩
                | refine ⟨fun h => absurd (by decide) h, fun _ => ?_⟩
                | refine ⟨by decide, ?_⟩
                | refine ⟨rfl, ?_⟩)
        try (conv => whnf)
        refine ⟨(m + 1, sh1, rf1, s2, t1, dr2, k), rfl, rfl, ⟨h0, r1, h999, hU.1, by omega, hk, by omega⟩, ?_⟩
        try dsimp only [cond_true, cond_false]
        rintro _ _ ⟨⟨y, hy, rfl⟩, s3, rfl, d3⟩
        have f3 : s3 m = s2 m := d3.2.2 m hm0
        have hU4 : uS s1 (zu s3 m 4 (1 + nI y)) m (dr2 + 1) := uS_u hm0 (uS_d hU d3)
        have e0 : zu s3 m 4 (1 + nI y) m 0 = a := (zu_ne2 (by decide)).trans (by rw [f3]; exact g0)
        have e1 : zu s3 m 4 (1 + nI y) m 1 = b := (zu_ne2 (by decide)).trans (by rw [f3]; exact g1)
        have e2 : zu s3 m 4 (1 + nI y) m 2 = 0 := (zu_ne2 (by decide)).trans (by rw [f3]; exact g2)
        have e3 : zu s3 m 4 (1 + nI y) m 3 = d := (zu_ne2 (by decide)).trans (by rw [f3]; exact g3)
        have e4 : zu s3 m 4 (1 + nI y) m 4 = 1 + nI y := zu_same
        have rq := k1 y (by omega)
        repeat (first
          | (conv => whnf
             try dsimp only
             try simp (decide := true) only [zx4, zx5, h0, hsm, zu_same, zu_ne1, zu_ne2, zu_row, zuL_same, zuL_ne1, zuL_ne2, zrow_n1, zx0, zx1, zx2, zx3, nI_1, Nat.reduceAdd, Nat.reduceMul, Int32.reduceAdd, Int32.reduceSub, Int32.reduceMul]
             first
             | refine ⟨vp_inb (by decide), ?_⟩
             | refine ⟨by with_reducible exact zi (by omega), ?_⟩
             | refine ⟨fun h => absurd h (by with_reducible exact nI_ge (by omega) (by omega)), fun _ => ?_⟩
             | refine ⟨fun _ => ?_, fun h => absurd (by with_reducible exact nI_le (by omega) (by omega)) h⟩
             | refine ⟨fun h => absurd h (by with_reducible exact nI_nlt (by omega) (by omega)), fun _ => ?_⟩
             | refine ⟨fun _ => ?_, fun h => absurd (by with_reducible exact nI_lt (by omega) (by omega)) h⟩
             | refine ⟨fun h => absurd h (by with_reducible exact nI_pos (by omega)), fun _ => ?_⟩
             | refine ⟨fun _ => ?_, fun h => absurd (by with_reducible exact nI_0le (by omega)) h⟩
             | refine ⟨fun h => absurd h (by decide), fun _ => ?_⟩
             | refine ⟨fun _ => ?_, fun h => absurd (by decide) h⟩
             | refine ⟨fun _ => ?_, fun h => absurd h (by decide)⟩
             | refine ⟨fun h => absurd (by decide) h, fun _ => ?_⟩
             | refine ⟨by decide, ?_⟩
             | refine ⟨rfl, ?_⟩)
          | (conv => whnf
             fail_if_success refine Exists.intro ?_ ?_
             simp only [zx4, zx5, h0, hsm]))
        try (conv => whnf)
        generalize hq : 1 + nI y = q at *
        generalize zu s3 m 4 q = s4 at hU4 e0 e1 e2 e3 e4 ⊢
        refine ⟨(m + 1, sh1, rf1, s4, t1, dr2 + 1, 2), rfl, rfl, ⟨h0, r1, h999, hU4.1, by omega, by decide, by decide⟩, ?_⟩
        try dsimp only [cond_true, cond_false]
        rintro _ _ ⟨⟨z, hz, rfl⟩, s5, rfl, d5⟩
        have f5 : s5 m = s4 m := d5.2.2 m hm0
        refine ⟨fun h => ?_, fun h => ?_⟩
        · skip
          repeat (conv => whnf
                  try dsimp only
                  try simp (decide := true) only [zu_same, zu_ne1, zu_ne2, zu_row, zuL_same, zuL_ne1, zuL_ne2, zrow_n1, zx0, zx1, zx2, zx3, nI_1, Nat.reduceAdd, Nat.reduceMul, Int32.reduceAdd, Int32.reduceSub, Int32.reduceMul]
                  first
                  | refine ⟨vp_inb (by decide), ?_⟩
                  | refine ⟨by with_reducible exact zi (by omega), ?_⟩
                  | refine ⟨fun h => absurd h (by with_reducible exact nI_ge (by omega) (by omega)), fun _ => ?_⟩
                  | refine ⟨fun _ => ?_, fun h => absurd (by with_reducible exact nI_le (by omega) (by omega)) h⟩
                  | refine ⟨fun h => absurd h (by with_reducible exact nI_nlt (by omega) (by omega)), fun _ => ?_⟩
                  | refine ⟨fun _ => ?_, fun h => absurd (by with_reducible exact nI_lt (by omega) (by omega)) h⟩
                  | refine ⟨fun h => absurd h (by with_reducible exact nI_pos (by omega)), fun _ => ?_⟩
                  | refine ⟨fun _ => ?_, fun h => absurd (by with_reducible exact nI_0le (by omega)) h⟩
                  | refine ⟨fun h => absurd h (by decide), fun _ => ?_⟩
                  | refine ⟨fun _ => ?_, fun h => absurd (by decide) h⟩
                  | refine ⟨fun _ => ?_, fun h => absurd h (by decide)⟩
                  | refine ⟨fun h => absurd (by decide) h, fun _ => ?_⟩
                  | refine ⟨by decide, ?_⟩
                  | refine ⟨rfl, ?_⟩)
          try (conv => whnf)
          exact h111 s5 a b d q 100 (dr2 + 2) (uS_d hU4 d5) (by omega) (by rw [f5]; exact e0) (by rw [f5]; exact e1) (by rw [f5]; exact e2) (by rw [f5]; exact e3) (by rw [f5]; exact e4) ra rb rd rq (by omega) (by omega)
        · skip
          repeat (conv => whnf
                  try dsimp only
                  try simp (decide := true) only [zu_same, zu_ne1, zu_ne2, zu_row, zuL_same, zuL_ne1, zuL_ne2, zrow_n1, zx0, zx1, zx2, zx3, nI_1, Nat.reduceAdd, Nat.reduceMul, Int32.reduceAdd, Int32.reduceSub, Int32.reduceMul]
                  first
                  | refine ⟨vp_inb (by decide), ?_⟩
                  | refine ⟨by with_reducible exact zi (by omega), ?_⟩
                  | refine ⟨fun h => absurd h (by with_reducible exact nI_ge (by omega) (by omega)), fun _ => ?_⟩
                  | refine ⟨fun _ => ?_, fun h => absurd (by with_reducible exact nI_le (by omega) (by omega)) h⟩
                  | refine ⟨fun h => absurd h (by with_reducible exact nI_nlt (by omega) (by omega)), fun _ => ?_⟩
                  | refine ⟨fun _ => ?_, fun h => absurd (by with_reducible exact nI_lt (by omega) (by omega)) h⟩
                  | refine ⟨fun h => absurd h (by with_reducible exact nI_pos (by omega)), fun _ => ?_⟩
                  | refine ⟨fun _ => ?_, fun h => absurd (by with_reducible exact nI_0le (by omega)) h⟩
                  | refine ⟨fun h => absurd h (by decide), fun _ => ?_⟩
                  | refine ⟨fun _ => ?_, fun h => absurd (by decide) h⟩
                  | refine ⟨fun _ => ?_, fun h => absurd h (by decide)⟩
                  | refine ⟨fun h => absurd (by decide) h, fun _ => ?_⟩
                  | refine ⟨by decide, ?_⟩
                  | refine ⟨rfl, ?_⟩)
          try (conv => whnf)
          exact h111 s5 a b d q 3 (dr2 + 2) (uS_d hU4 d5) (by omega) (by rw [f5]; exact e0) (by rw [f5]; exact e1) (by rw [f5]; exact e2) (by rw [f5]; exact e3) (by rw [f5]; exact e4) ra rb rd rq (by omega) (by omega)
      have h68 : ∀ (s2 : zIn) (a b d : Int32) (dr2 : Nat), uS s1 s2 m dr2 → dr2 ≤ dr + 4 → s2 m 0 = a → s2 m 1 = b → s2 m 2 = 0 → (-3 ≤ a ∧ a ≤ 3) → (-3 ≤ b ∧ b ≤ 3) → (-3 ≤ d ∧ d ≤ 3) → Gl 68 [some (.ref 0), none] [.int d, .int 3, .ref m, .ref m] (1, 6) (m + 1, sh1, rf1, s2, t1) := by
        intro s2 a b d dr2 hU hdr2 g0 g1 g2 ra rb rd
        have hU4 : uS s1 (zu s2 m 3 d) m dr2 := uS_u hm0 hU
        have e0 : zu s2 m 3 d m 0 = a := (zu_ne2 (by decide)).trans g0
        have e1 : zu s2 m 3 d m 1 = b := (zu_ne2 (by decide)).trans g1
        have e2 : zu s2 m 3 d m 2 = 0 := (zu_ne2 (by decide)).trans g2
        have e3 : zu s2 m 3 d m 3 = d := zu_same
        refine hG 100 _ _ _ _ _ ?_
        repeat (first
          | (conv => whnf
             try dsimp only
             try simp (decide := true) only [zx4, zx5, h0, hsm, zu_same, zu_ne1, zu_ne2, zu_row, zuL_same, zuL_ne1, zuL_ne2, zrow_n1, zx0, zx1, zx2, zx3, nI_1, Nat.reduceAdd, Nat.reduceMul, Int32.reduceAdd, Int32.reduceSub, Int32.reduceMul]
             first
             | refine ⟨vp_inb (by decide), ?_⟩
             | refine ⟨by with_reducible exact zi (by omega), ?_⟩
             | refine ⟨fun h => absurd h (by with_reducible exact nI_ge (by omega) (by omega)), fun _ => ?_⟩
             | refine ⟨fun _ => ?_, fun h => absurd (by with_reducible exact nI_le (by omega) (by omega)) h⟩
             | refine ⟨fun h => absurd h (by with_reducible exact nI_nlt (by omega) (by omega)), fun _ => ?_⟩
             | refine ⟨fun _ => ?_, fun h => absurd (by with_reducible exact nI_lt (by omega) (by omega)) h⟩
             | refine ⟨fun h => absurd h (by with_reducible exact nI_pos (by omega)), fun _ => ?_⟩
             | refine ⟨fun _ => ?_, fun h => absurd (by with_reducible exact nI_0le (by omega)) h⟩
             | refine ⟨fun h => absurd h (by decide), fun _ => ?_⟩
             | refine ⟨fun _ => ?_, fun h => absurd (by decide) h⟩
             | refine ⟨fun _ => ?_, fun h => absurd h (by decide)⟩
             | refine ⟨fun h => absurd (by decide) h, fun _ => ?_⟩
             | refine ⟨by decide, ?_⟩
             | refine ⟨rfl, ?_⟩)
          | (conv => whnf
             fail_if_success refine Exists.intro ?_ ?_
             simp only [zx4, zx5, h0, hsm]))
        try (conv => whnf)
        generalize zu s2 m 3 d = s4 at hU4 e0 e1 e2 e3 ⊢
        refine ⟨(m + 1, sh1, rf1, s4, t1, dr2, 2), rfl, rfl, ⟨h0, r1, h999, hU4.1, by omega, by decide, by decide⟩, ?_⟩
        try dsimp only [cond_true, cond_false]
        rintro _ _ ⟨⟨z, hz, rfl⟩, s5, rfl, d5⟩
        have f5 : s5 m = s4 m := d5.2.2 m hm0
        refine ⟨fun h => ?_, fun h => ?_⟩
        · skip
          repeat (conv => whnf
                  try dsimp only
                  try simp (decide := true) only [zu_same, zu_ne1, zu_ne2, zu_row, zuL_same, zuL_ne1, zuL_ne2, zrow_n1, zx0, zx1, zx2, zx3, nI_1, Nat.reduceAdd, Nat.reduceMul, Int32.reduceAdd, Int32.reduceSub, Int32.reduceMul]
                  first
                  | refine ⟨vp_inb (by decide), ?_⟩
                  | refine ⟨by with_reducible exact zi (by omega), ?_⟩
                  | refine ⟨fun h => absurd h (by with_reducible exact nI_ge (by omega) (by omega)), fun _ => ?_⟩
                  | refine ⟨fun _ => ?_, fun h => absurd (by with_reducible exact nI_le (by omega) (by omega)) h⟩
                  | refine ⟨fun h => absurd h (by with_reducible exact nI_nlt (by omega) (by omega)), fun _ => ?_⟩
                  | refine ⟨fun _ => ?_, fun h => absurd (by with_reducible exact nI_lt (by omega) (by omega)) h⟩
                  | refine ⟨fun h => absurd h (by with_reducible exact nI_pos (by omega)), fun _ => ?_⟩
                  | refine ⟨fun _ => ?_, fun h => absurd (by with_reducible exact nI_0le (by omega)) h⟩
                  | refine ⟨fun h => absurd h (by decide), fun _ => ?_⟩
                  | refine ⟨fun _ => ?_, fun h => absurd (by decide) h⟩
                  | refine ⟨fun _ => ?_, fun h => absurd h (by decide)⟩
                  | refine ⟨fun h => absurd (by decide) h, fun _ => ?_⟩
                  | refine ⟨by decide, ?_⟩
                  | refine ⟨rfl, ?_⟩)
          try (conv => whnf)
          exact h88 s5 a b d 2000 (dr2 + 1) (uS_d hU4 d5) (by omega) (by rw [f5]; exact e0) (by rw [f5]; exact e1) (by rw [f5]; exact e2) (by rw [f5]; exact e3) ra rb rd (by omega) (by omega)
        · skip
          repeat (conv => whnf
                  try dsimp only
                  try simp (decide := true) only [zu_same, zu_ne1, zu_ne2, zu_row, zuL_same, zuL_ne1, zuL_ne2, zrow_n1, zx0, zx1, zx2, zx3, nI_1, Nat.reduceAdd, Nat.reduceMul, Int32.reduceAdd, Int32.reduceSub, Int32.reduceMul]
                  first
                  | refine ⟨vp_inb (by decide), ?_⟩
                  | refine ⟨by with_reducible exact zi (by omega), ?_⟩
                  | refine ⟨fun h => absurd h (by with_reducible exact nI_ge (by omega) (by omega)), fun _ => ?_⟩
                  | refine ⟨fun _ => ?_, fun h => absurd (by with_reducible exact nI_le (by omega) (by omega)) h⟩
                  | refine ⟨fun h => absurd h (by with_reducible exact nI_nlt (by omega) (by omega)), fun _ => ?_⟩
                  | refine ⟨fun _ => ?_, fun h => absurd (by with_reducible exact nI_lt (by omega) (by omega)) h⟩
                  | refine ⟨fun h => absurd h (by with_reducible exact nI_pos (by omega)), fun _ => ?_⟩
                  | refine ⟨fun _ => ?_, fun h => absurd (by with_reducible exact nI_0le (by omega)) h⟩
                  | refine ⟨fun h => absurd h (by decide), fun _ => ?_⟩
                  | refine ⟨fun _ => ?_, fun h => absurd (by decide) h⟩
                  | refine ⟨fun _ => ?_, fun h => absurd h (by decide)⟩
                  | refine ⟨fun h => absurd (by decide) h, fun _ => ?_⟩
                  | refine ⟨by decide, ?_⟩
                  | refine ⟨rfl, ?_⟩)
          try (conv => whnf)
          exact h88 s5 a b d 3 (dr2 + 1) (uS_d hU4 d5) (by omega) (by rw [f5]; exact e0) (by rw [f5]; exact e1) (by rw [f5]; exact e2) (by rw [f5]; exact e3) ra rb rd (by omega) (by omega)
      have h47 : ∀ (s2 : zIn) (a b : Int32) (dr2 : Nat), uS s1 s2 m dr2 → dr2 ≤ dr + 3 → s2 m 0 = a → (-3 ≤ a ∧ a ≤ 3) → (-3 ≤ b ∧ b ≤ 3) → Gl 47 [some (.ref 0), none] [.int b, .int 1, .ref m, .ref m] (1, 6) (m + 1, sh1, rf1, s2, t1) := by
        intro s2 a b dr2 hU hdr2 g0 ra rb
        have hU4 : uS s1 (zu (zu s2 m 1 b) m 2 0) m dr2 := uS_u hm0 (uS_u hm0 hU)
        have e0 : zu (zu s2 m 1 b) m 2 0 m 0 = a := (zu_ne2 (by decide)).trans ((zu_ne2 (by decide)).trans g0)
        have e1 : zu (zu s2 m 1 b) m 2 0 m 1 = b := (zu_ne2 (by decide)).trans zu_same
        have e2 : zu (zu s2 m 1 b) m 2 0 m 2 = 0 := zu_same
        refine hG 100 _ _ _ _ _ ?_
        repeat (first
          | (conv => whnf
             try dsimp only
             try simp (decide := true) only [zx4, zx5, h0, hsm, zu_same, zu_ne1, zu_ne2, zu_row, zuL_same, zuL_ne1, zuL_ne2, zrow_n1, zx0, zx1, zx2, zx3, nI_1, Nat.reduceAdd, Nat.reduceMul, Int32.reduceAdd, Int32.reduceSub, Int32.reduceMul]
             first
             | refine ⟨vp_inb (by decide), ?_⟩
             | refine ⟨by with_reducible exact zi (by omega), ?_⟩
             | refine ⟨fun h => absurd h (by with_reducible exact nI_ge (by omega) (by omega)), fun _ => ?_⟩
             | refine ⟨fun _ => ?_, fun h => absurd (by with_reducible exact nI_le (by omega) (by omega)) h⟩
             | refine ⟨fun h => absurd h (by with_reducible exact nI_nlt (by omega) (by omega)), fun _ => ?_⟩
             | refine ⟨fun _ => ?_, fun h => absurd (by with_reducible exact nI_lt (by omega) (by omega)) h⟩
             | refine ⟨fun h => absurd h (by with_reducible exact nI_pos (by omega)), fun _ => ?_⟩
             | refine ⟨fun _ => ?_, fun h => absurd (by with_reducible exact nI_0le (by omega)) h⟩
             | refine ⟨fun h => absurd h (by decide), fun _ => ?_⟩
             | refine ⟨fun _ => ?_, fun h => absurd (by decide) h⟩
             | refine ⟨fun _ => ?_, fun h => absurd h (by decide)⟩
             | refine ⟨fun h => absurd (by decide) h, fun _ => ?_⟩
             | refine ⟨by decide, ?_⟩
             | refine ⟨rfl, ?_⟩)
          | (conv => whnf
             fail_if_success refine Exists.intro ?_ ?_
             simp only [zx4, zx5, h0, hsm]))
        try (conv => whnf)
        generalize zu (zu s2 m 1 b) m 2 0 = s4 at hU4 e0 e1 e2 ⊢
        refine ⟨(m + 1, sh1, rf1, s4, t1, dr2, 6), rfl, rfl, ⟨h0, r1, h999, hU4.1, by omega, by decide, by decide⟩, ?_⟩
        try dsimp only [cond_true, cond_false]
        rintro _ _ ⟨⟨z, hz, rfl⟩, s5, rfl, d5⟩
        have f5 : s5 m = s4 m := d5.2.2 m hm0
        refine ⟨fun h => ?_, fun h => ?_⟩
        · skip
          repeat (conv => whnf
                  try dsimp only
                  try simp (decide := true) only [zu_same, zu_ne1, zu_ne2, zu_row, zuL_same, zuL_ne1, zuL_ne2, zrow_n1, zx0, zx1, zx2, zx3, nI_1, Nat.reduceAdd, Nat.reduceMul, Int32.reduceAdd, Int32.reduceSub, Int32.reduceMul]
                  first
                  | refine ⟨vp_inb (by decide), ?_⟩
                  | refine ⟨by with_reducible exact zi (by omega), ?_⟩
                  | refine ⟨fun h => absurd h (by with_reducible exact nI_ge (by omega) (by omega)), fun _ => ?_⟩
                  | refine ⟨fun _ => ?_, fun h => absurd (by with_reducible exact nI_le (by omega) (by omega)) h⟩
                  | refine ⟨fun h => absurd h (by with_reducible exact nI_nlt (by omega) (by omega)), fun _ => ?_⟩
                  | refine ⟨fun _ => ?_, fun h => absurd (by with_reducible exact nI_lt (by omega) (by omega)) h⟩
                  | refine ⟨fun h => absurd h (by with_reducible exact nI_pos (by omega)), fun _ => ?_⟩
                  | refine ⟨fun _ => ?_, fun h => absurd (by with_reducible exact nI_0le (by omega)) h⟩
                  | refine ⟨fun h => absurd h (by decide), fun _ => ?_⟩
                  | refine ⟨fun _ => ?_, fun h => absurd (by decide) h⟩
                  | refine ⟨fun _ => ?_, fun h => absurd h (by decide)⟩
                  | refine ⟨fun h => absurd (by decide) h, fun _ => ?_⟩
                  | refine ⟨by decide, ?_⟩
                  | refine ⟨rfl, ?_⟩)
          try (conv => whnf)
          exact h68 s5 a b 0 (dr2 + 1) (uS_d hU4 d5) (by omega) (by rw [f5]; exact e0) (by rw [f5]; exact e1) (by rw [f5]; exact e2) ra rb ⟨by decide, by decide⟩
        · skip
          repeat (conv => whnf
                  try dsimp only
                  try simp (decide := true) only [zu_same, zu_ne1, zu_ne2, zu_row, zuL_same, zuL_ne1, zuL_ne2, zrow_n1, zx0, zx1, zx2, zx3, nI_1, Nat.reduceAdd, Nat.reduceMul, Int32.reduceAdd, Int32.reduceSub, Int32.reduceMul]
                  first
                  | refine ⟨vp_inb (by decide), ?_⟩
                  | refine ⟨by with_reducible exact zi (by omega), ?_⟩
                  | refine ⟨fun h => absurd h (by with_reducible exact nI_ge (by omega) (by omega)), fun _ => ?_⟩
                  | refine ⟨fun _ => ?_, fun h => absurd (by with_reducible exact nI_le (by omega) (by omega)) h⟩
                  | refine ⟨fun h => absurd h (by with_reducible exact nI_nlt (by omega) (by omega)), fun _ => ?_⟩
                  | refine ⟨fun _ => ?_, fun h => absurd (by with_reducible exact nI_lt (by omega) (by omega)) h⟩
                  | refine ⟨fun h => absurd h (by with_reducible exact nI_pos (by omega)), fun _ => ?_⟩
                  | refine ⟨fun _ => ?_, fun h => absurd (by with_reducible exact nI_0le (by omega)) h⟩
                  | refine ⟨fun h => absurd h (by decide), fun _ => ?_⟩
                  | refine ⟨fun _ => ?_, fun h => absurd (by decide) h⟩
                  | refine ⟨fun _ => ?_, fun h => absurd h (by decide)⟩
                  | refine ⟨fun h => absurd (by decide) h, fun _ => ?_⟩
                  | refine ⟨by decide, ?_⟩
                  | refine ⟨rfl, ?_⟩)
          try (conv => whnf)
          exact h68 s5 a b 1 (dr2 + 1) (uS_d hU4 d5) (by omega) (by rw [f5]; exact e0) (by rw [f5]; exact e1) (by rw [f5]; exact e2) ra rb ⟨by decide, by decide⟩
      have ka : ∀ g, g < 3 → (-3 : Int32) ≤ nI g - 1 ∧ nI g - 1 ≤ 3 := by decide +kernel
      have kb9 : ∀ g, g < 7 → (-3 : Int32) ≤ nI g - 3 ∧ nI g - 3 ≤ 3 := by decide +kernel
      refine hG 100 _ _ _ _ _ ?_
      repeat (conv => whnf
              try dsimp only
              try simp (decide := true) only [zu_same, zu_ne1, zu_ne2, zu_row, zuL_same, zuL_ne1, zuL_ne2, zrow_n1, zx0, zx1, zx2, zx3, nI_1, Nat.reduceAdd, Nat.reduceMul, Int32.reduceAdd, Int32.reduceSub, Int32.reduceMul]
              first
              | refine ⟨vp_inb (by decide), ?_⟩
              | refine ⟨by with_reducible exact zi (by omega), ?_⟩
              | refine ⟨fun h => absurd h (by with_reducible exact nI_ge (by omega) (by omega)), fun _ => ?_⟩
              | refine ⟨fun _ => ?_, fun h => absurd (by with_reducible exact nI_le (by omega) (by omega)) h⟩
              | refine ⟨fun h => absurd h (by with_reducible exact nI_nlt (by omega) (by omega)), fun _ => ?_⟩
              | refine ⟨fun _ => ?_, fun h => absurd (by with_reducible exact nI_lt (by omega) (by omega)) h⟩
              | refine ⟨fun h => absurd h (by with_reducible exact nI_pos (by omega)), fun _ => ?_⟩
              | refine ⟨fun _ => ?_, fun h => absurd (by with_reducible exact nI_0le (by omega)) h⟩
              | refine ⟨fun h => absurd h (by decide), fun _ => ?_⟩
              | refine ⟨fun _ => ?_, fun h => absurd (by decide) h⟩
              | refine ⟨fun _ => ?_, fun h => absurd h (by decide)⟩
              | refine ⟨fun h => absurd (by decide) h, fun _ => ?_⟩
              | refine ⟨by decide, ?_⟩
              | refine ⟨rfl, ?_⟩)
      try (conv => whnf)
      refine ⟨(m + 1, sh1, rf1, s1, t1, dr, 3), rfl, rfl, ⟨h0, r1, h999, hD1.2.1.1, by omega, by decide, by decide⟩, ?_⟩
      try dsimp only [cond_true, cond_false]
      rintro _ _ ⟨⟨y, hy, rfl⟩, s2, rfl, d2⟩
      have hU4 : uS s1 (zu s2 m 0 (nI y - 1)) m (dr + 1) := uS_u hm0 (dS_uS d2)
      have e0 : zu s2 m 0 (nI y - 1) m 0 = nI y - 1 := zu_same
      have ra := ka y hy
      repeat (first
        | (conv => whnf
           try dsimp only
           try simp (decide := true) only [zx4, zx5, h0, hsm, zu_same, zu_ne1, zu_ne2, zu_row, zuL_same, zuL_ne1, zuL_ne2, zrow_n1, zx0, zx1, zx2, zx3, nI_1, Nat.reduceAdd, Nat.reduceMul, Int32.reduceAdd, Int32.reduceSub, Int32.reduceMul]
           first
           | refine ⟨vp_inb (by decide), ?_⟩
           | refine ⟨by with_reducible exact zi (by omega), ?_⟩
           | refine ⟨fun h => absurd h (by with_reducible exact nI_ge (by omega) (by omega)), fun _ => ?_⟩
           | refine ⟨fun _ => ?_, fun h => absurd (by with_reducible exact nI_le (by omega) (by omega)) h⟩
           | refine ⟨fun h => absurd h (by with_reducible exact nI_nlt (by omega) (by omega)), fun _ => ?_⟩
           | refine ⟨fun _ => ?_, fun h => absurd (by with_reducible exact nI_lt (by omega) (by omega)) h⟩
           | refine ⟨fun h => absurd h (by with_reducible exact nI_pos (by omega)), fun _ => ?_⟩
           | refine ⟨fun _ => ?_, fun h => absurd (by with_reducible exact nI_0le (by omega)) h⟩
           | refine ⟨fun h => absurd h (by decide), fun _ => ?_⟩
           | refine ⟨fun _ => ?_, fun h => absurd (by decide) h⟩
           | refine ⟨fun _ => ?_, fun h => absurd h (by decide)⟩
           | refine ⟨fun h => absurd (by decide) h, fun _ => ?_⟩
           | refine ⟨by decide, ?_⟩
           | refine ⟨rfl, ?_⟩)
        | (conv => whnf
           fail_if_success refine Exists.intro ?_ ?_
           simp only [zx4, zx5, h0, hsm]))
      try (conv => whnf)
      generalize hq : nI y - 1 = a at *
      generalize zu s2 m 0 a = s4 at hU4 e0 ⊢
      refine ⟨(m + 1, sh1, rf1, s4, t1, dr + 1, 4), rfl, rfl, ⟨h0, r1, h999, hU4.1, by omega, by decide, by decide⟩, ?_⟩
      try dsimp only [cond_true, cond_false]
      rintro _ _ ⟨⟨z, hz, rfl⟩, s5, rfl, d5⟩
      have f5 : s5 m = s4 m := d5.2.2 m hm0
      refine ⟨fun h => ?_, fun h => ?_⟩
      · skip
        repeat (conv => whnf
                try dsimp only
                try simp (decide := true) only [zu_same, zu_ne1, zu_ne2, zu_row, zuL_same, zuL_ne1, zuL_ne2, zrow_n1, zx0, zx1, zx2, zx3, nI_1, Nat.reduceAdd, Nat.reduceMul, Int32.reduceAdd, Int32.reduceSub, Int32.reduceMul]
                first
                | refine ⟨vp_inb (by decide), ?_⟩
                | refine ⟨by with_reducible exact zi (by omega), ?_⟩
                | refine ⟨fun h => absurd h (by with_reducible exact nI_ge (by omega) (by omega)), fun _ => ?_⟩
                | refine ⟨fun _ => ?_, fun h => absurd (by with_reducible exact nI_le (by omega) (by omega)) h⟩
                | refine ⟨fun h => absurd h (by with_reducible exact nI_nlt (by omega) (by omega)), fun _ => ?_⟩
                | refine ⟨fun _ => ?_, fun h => absurd (by with_reducible exact nI_lt (by omega) (by omega)) h⟩
                | refine ⟨fun h => absurd h (by with_reducible exact nI_pos (by omega)), fun _ => ?_⟩
                | refine ⟨fun _ => ?_, fun h => absurd (by with_reducible exact nI_0le (by omega)) h⟩
                | refine ⟨fun h => absurd h (by decide), fun _ => ?_⟩
                | refine ⟨fun _ => ?_, fun h => absurd (by decide) h⟩
                | refine ⟨fun _ => ?_, fun h => absurd h (by decide)⟩
                | refine ⟨fun h => absurd (by decide) h, fun _ => ?_⟩
                | refine ⟨by decide, ?_⟩
                | refine ⟨rfl, ?_⟩)
        try (conv => whnf)
        exact h47 s5 a 0 (dr + 2) (uS_d hU4 d5) (by omega) (by rw [f5]; exact e0) ra ⟨by decide, by decide⟩
      · skip
        repeat (conv => whnf
                try dsimp only
                try simp (decide := true) only [zu_same, zu_ne1, zu_ne2, zu_row, zuL_same, zuL_ne1, zuL_ne2, zrow_n1, zx0, zx1, zx2, zx3, nI_1, Nat.reduceAdd, Nat.reduceMul, Int32.reduceAdd, Int32.reduceSub, Int32.reduceMul]
                first
                | refine ⟨vp_inb (by decide), ?_⟩
                | refine ⟨by with_reducible exact zi (by omega), ?_⟩
                | refine ⟨fun h => absurd h (by with_reducible exact nI_ge (by omega) (by omega)), fun _ => ?_⟩
                | refine ⟨fun _ => ?_, fun h => absurd (by with_reducible exact nI_le (by omega) (by omega)) h⟩
                | refine ⟨fun h => absurd h (by with_reducible exact nI_nlt (by omega) (by omega)), fun _ => ?_⟩
                | refine ⟨fun _ => ?_, fun h => absurd (by with_reducible exact nI_lt (by omega) (by omega)) h⟩
                | refine ⟨fun h => absurd h (by with_reducible exact nI_pos (by omega)), fun _ => ?_⟩
                | refine ⟨fun _ => ?_, fun h => absurd (by with_reducible exact nI_0le (by omega)) h⟩
                | refine ⟨fun h => absurd h (by decide), fun _ => ?_⟩
                | refine ⟨fun _ => ?_, fun h => absurd (by decide) h⟩
                | refine ⟨fun _ => ?_, fun h => absurd h (by decide)⟩
                | refine ⟨fun h => absurd (by decide) h, fun _ => ?_⟩
                | refine ⟨by decide, ?_⟩
                | refine ⟨rfl, ?_⟩)
        try (conv => whnf)
        refine ⟨(m + 1, sh1, rf1, s5, t1, dr + 2, 7), rfl, rfl, ⟨h0, r1, h999, d5.1, by omega, by decide, by decide⟩, ?_⟩
        try dsimp only [cond_true, cond_false]
        rintro _ _ ⟨⟨g, hg, rfl⟩, s6, rfl, d6⟩
        have f6 : s6 m = s5 m := d6.2.2 m hm0
        repeat (conv => whnf
                try dsimp only
                try simp (decide := true) only [zu_same, zu_ne1, zu_ne2, zu_row, zuL_same, zuL_ne1, zuL_ne2, zrow_n1, zx0, zx1, zx2, zx3, nI_1, Nat.reduceAdd, Nat.reduceMul, Int32.reduceAdd, Int32.reduceSub, Int32.reduceMul]
                first
                | refine ⟨vp_inb (by decide), ?_⟩
                | refine ⟨by with_reducible exact zi (by omega), ?_⟩
                | refine ⟨fun h => absurd h (by with_reducible exact nI_ge (by omega) (by omega)), fun _ => ?_⟩
                | refine ⟨fun _ => ?_, fun h => absurd (by with_reducible exact nI_le (by omega) (by omega)) h⟩
                | refine ⟨fun h => absurd h (by with_reducible exact nI_nlt (by omega) (by omega)), fun _ => ?_⟩
                | refine ⟨fun _ => ?_, fun h => absurd (by with_reducible exact nI_lt (by omega) (by omega)) h⟩
                | refine ⟨fun h => absurd h (by with_reducible exact nI_pos (by omega)), fun _ => ?_⟩
                | refine ⟨fun _ => ?_, fun h => absurd (by with_reducible exact nI_0le (by omega)) h⟩
                | refine ⟨fun h => absurd h (by decide), fun _ => ?_⟩
                | refine ⟨fun _ => ?_, fun h => absurd (by decide) h⟩
                | refine ⟨fun _ => ?_, fun h => absurd h (by decide)⟩
                | refine ⟨fun h => absurd (by decide) h, fun _ => ?_⟩
                | refine ⟨by decide, ?_⟩
                | refine ⟨rfl, ?_⟩)
        try (conv => whnf)
        exact h47 s6 a _ (dr + 3) (uS_d (uS_d hU4 d5) d6) (by omega) (by rw [f6, f5]; exact e0) ra (kb9 g hg)
    obtain ⟨⟨b1, b2, b3, b4, b5⟩, hBs, h999, ⟨h0, h120, h121, h122⟩, ⟨r0, r1, r4, r6, r8⟩, hu9, hv9⟩ := id hS
    refine hG 100 _ _ _ _ _ ?_
    repeat (first
      | (conv => whnf
         try dsimp only
         try simp (decide := true) only [h0, hD.2.1.2.1, nI12, zu_same, zu_ne1, zu_ne2, zu_row, zuL_same, zuL_ne1, zuL_ne2, zrow_n1, zx0, zx1, zx2, zx3, nI_1, Nat.reduceAdd, Nat.reduceMul, Int32.reduceAdd, Int32.reduceSub, Int32.reduceMul]
         first
         | refine ⟨vp_inb (by decide), ?_⟩
         | refine ⟨by with_reducible exact zi (by omega), ?_⟩
         | refine ⟨fun h => absurd h (by with_reducible exact nI_ge (by omega) (by omega)), fun _ => ?_⟩
         | refine ⟨fun _ => ?_, fun h => absurd (by with_reducible exact nI_le (by omega) (by omega)) h⟩
         | refine ⟨fun h => absurd h (by with_reducible exact nI_nlt (by omega) (by omega)), fun _ => ?_⟩
         | refine ⟨fun _ => ?_, fun h => absurd (by with_reducible exact nI_lt (by omega) (by omega)) h⟩
         | refine ⟨fun h => absurd h (by with_reducible exact nI_pos (by omega)), fun _ => ?_⟩
         | refine ⟨fun _ => ?_, fun h => absurd (by with_reducible exact nI_0le (by omega)) h⟩
         | refine ⟨fun h => absurd h (by decide), fun _ => ?_⟩
         | refine ⟨fun _ => ?_, fun h => absurd (by decide) h⟩
         | refine ⟨fun _ => ?_, fun h => absurd h (by decide)⟩
         | refine ⟨fun h => absurd (by decide) h, fun _ => ?_⟩
         | refine ⟨by decide, ?_⟩
         | refine ⟨rfl, ?_⟩)
      | (conv => whnf
         fail_if_success refine Exists.intro ?_ ?_
         simp only [h0, hD.2.1.2.1, nI12]))
    try (conv => whnf)
    refine ⟨fun _ => ?_, fun e => absurd ((nI_eq (by omega) (by omega)).mp e) (by omega)⟩
    repeat (conv => whnf
            try dsimp only
            try simp (decide := true) only [zu_same, zu_ne1, zu_ne2, zu_row, zuL_same, zuL_ne1, zuL_ne2, zrow_n1, zx0, zx1, zx2, zx3, nI_1, Nat.reduceAdd, Nat.reduceMul, Int32.reduceAdd, Int32.reduceSub, Int32.reduceMul]
            first
            | refine ⟨vp_inb (by decide), ?_⟩
            | refine ⟨by with_reducible exact zi (by omega), ?_⟩
            | refine ⟨fun h => absurd h (by with_reducible exact nI_ge (by omega) (by omega)), fun _ => ?_⟩
            | refine ⟨fun _ => ?_, fun h => absurd (by with_reducible exact nI_le (by omega) (by omega)) h⟩
            | refine ⟨fun h => absurd h (by with_reducible exact nI_nlt (by omega) (by omega)), fun _ => ?_⟩
            | refine ⟨fun _ => ?_, fun h => absurd (by with_reducible exact nI_lt (by omega) (by omega)) h⟩
            | refine ⟨fun h => absurd h (by with_reducible exact nI_pos (by omega)), fun _ => ?_⟩
            | refine ⟨fun _ => ?_, fun h => absurd (by with_reducible exact nI_0le (by omega)) h⟩
            | refine ⟨fun h => absurd h (by decide), fun _ => ?_⟩
            | refine ⟨fun _ => ?_, fun h => absurd (by decide) h⟩
            | refine ⟨fun _ => ?_, fun h => absurd h (by decide)⟩
            | refine ⟨fun h => absurd (by decide) h, fun _ => ?_⟩
            | refine ⟨by decide, ?_⟩
            | refine ⟨rfl, ?_⟩)
    try (conv => whnf)
    exact body9 _ _ _ _ (lS_new hS (by omega) zuS_ne (fun j hj => if_neg hj)) (lD_new hS hD (fun r hr => zrow_ne hr) (fun r hr => if_neg hr)) zuS_same

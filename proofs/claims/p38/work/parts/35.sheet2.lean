/-! ===== the sheet: set, setTurns ===== -/
theorem cFl0 {σ : zIn} {n : Nat} (h : σ 0 13 = 0 ∧ σ 0 14 = 0 ∧ σ 0 15 = 0) : cFl σ n := ⟨Or.inl h.1, Or.inl h.2.1, Or.inl h.2.2⟩
theorem cFl_told {σ σ1 : zIn} {n : Nat} (h : cFl σ n) (h0 : σ1 0 13 = σ 0 13 ∧ σ1 0 14 = 0 ∧ σ1 0 15 = 0) (f : ∀ r, r ≠ 0 → r ≠ 89 → r < 100 → σ1 r = σ r) : cFl σ1 n := by
  refine ⟨?_, Or.inl h0.2.1, Or.inl h0.2.2⟩
  rw [h0.1]
  rcases h.1 with q | ⟨q, ho, hf⟩
  · exact Or.inl q
  · refine Or.inr ⟨q, ?_, ?_⟩
    · unfold cOr
      rw [f 88 (by decide) (by decide) (by decide), f 85 (by decide) (by decide) (by decide), f 94 (by decide) (by decide) (by decide), f 95 (by decide) (by decide) (by decide), f 96 (by decide) (by decide) (by decide), f 97 (by decide) (by decide) (by decide), f 98 (by decide) (by decide) (by decide), f 99 (by decide) (by decide) (by decide)]
      exact ho
    · unfold pFt
      rw [f 88 (by decide) (by decide) (by decide), f 90 (by decide) (by decide) (by decide), f 91 (by decide) (by decide) (by decide)]
      exact hf
def spX8_set : zSp := zDQ (X := Nat × zSh × zRf × zIn × zLo × zIn × zLo × Nat × Nat) (fun x => match x with | (m, sh, rf, s, t, σ, τ, pc, dr) => [.ref 0]) (fun x => match x with | (m, sh, rf, s, t, σ, τ, pc, dr) => (m, sh, rf, s, t)) (fun x => match x with | (m, sh, rf, s, t, σ, τ, pc, dr) => lS m 4 6 sh rf ∧ lD 4 6 pc dr s t σ τ ∧ cI σ τ 6 pc 4 ∧ cFl σ 6 ∧ dr + 3 < 10000) (fun x r9 μ9 => match x with | (m, sh, rf, s, t, σ, τ, pc, dr) => r9 = some (.int 1) ∧ ∃ (s1 : zIn) (t1 : zLo) (σ1 : zIn) (dr1 : Nat), μ9 = (m, sh, rf, s1, t1) ∧ lD 4 6 pc dr1 s1 t1 σ1 τ ∧ cI σ1 τ 6 pc 4 ∧ cFl σ1 6 ∧ dr1 ≤ dr + 3 ∧ ((∀ v, v < 6 → kq (σ 89 v)) → ∀ v, v < 6 → kq (σ1 89 v)))
abbrev rmX8_set : Room := ({ frames := 3, cells := 0, slots := 0, locals := 65 } : Room)
set_option maxRecDepth 100000 in
set_option maxHeartbeats 4000000 in
theorem ctX8_set (l : Launch) (D : va_G) (cA : Nat → ClassId) : zCt true l D cA yX8_set cX8_set 2 (some .boolean) rmX8_set spX8_set := by
  refine zct_Q (zCX8_set [(58, 0, 1, spX8_draw, rmX8_draw.cells, rmX8_draw.slots), (103, 0, 2, spJX7_set, rmX7_set.cells, rmX7_set.slots), (106, 0, 2, spX8_without, rmX8_without.cells, rmX8_without.slots)]) zpX8_set [60] (by decide +kernel) zkX8_set (Or.inr (by decide +kernel)) trivial ⟨by decide +kernel, by decide +kernel⟩ (fun x ad => Nat.le_of_ble_eq_true rfl) ?_ ?_
  · intro p e s m args below meth c A H0 ad0 n0 Q F hml hNw hA hX
    exact ⟨zco_V hX hA F hml hNw (ctX8_draw l D cA) ⟨⟨zlX8_set_58, zwX8_draw.1.1, zwX8_draw.1.2⟩, zwX8_draw.2⟩ zdX8_draw ⟨Nat.le_of_ble_eq_true rfl, Nat.le_of_ble_eq_true rfl⟩ (ci := 8) (by decide) rfl (by rintro av μ K ⟨⟨m, sh, rf, s, t, dr, k⟩, rfl, rfl, ⟨h, -⟩, -⟩; exact ⟨_, _, rfl, congrArg Prod.fst h⟩), zco_V hX hA F hml hNw (zct_X (ctJX7_set l D cA)) ⟨⟨zlX8_set_103, zwX7_set.1.1, zwX7_set.1.2⟩, zwX7_set.2⟩ zdX7_set ⟨Nat.le_of_ble_eq_true rfl, Nat.le_of_ble_eq_true rfl⟩ (ci := 7) (by decide) rfl (zrvJ (by rintro av μ K ⟨x, rfl, -⟩; exact ⟨_, rfl⟩)), zco_V hX hA F hml hNw (zct_X (ctX8_without l D cA)) ⟨⟨zlX8_set_106, zwX8_without.1.1, zwX8_without.1.2⟩, zwX8_without.2⟩ zdX8_without ⟨Nat.le_of_ble_eq_true rfl, Nat.le_of_ble_eq_true rfl⟩ (ci := 8) (by decide) rfl (by rintro av μ K ⟨⟨m, sh, rf, s, t, a, u, un, n⟩, rfl, rfl, ⟨h, -⟩, -⟩; exact ⟨_, _, rfl, lS_0 h⟩), trivial⟩
  · rintro ⟨m, sh, rf, s, t, σ, τ, pc, dr⟩ Ret hP hK Gl hG
    try dsimp only at hP hK
    show Gl 0 (zent 2 [.ref 0]) [] (0, 0) ((m, sh, rf, s, t))
    obtain ⟨hS, hD, hI, hF, hdr⟩ := hP
    obtain ⟨⟨b1, b2, b3, b4, b5⟩, hBs, h999, ⟨h0, h120, h121, h122⟩, ⟨r0, r1, r4, r6, r8⟩, hu9, hv9⟩ := id hS
    refine hG 100 _ _ _ _ _ ?_
    repeat (first
      | (conv => whnf
         try dsimp only
         try simp (decide := true) only [h0, r1, r4, r6, r8, h121, hD.2.1.2.2.1, zu_same, zu_ne1, zu_ne2, zu_row, zuL_same, zuL_ne1, zuL_ne2, zrow_n1, zx0, zx1, zx2, zx3, nI_1, Nat.reduceAdd, Nat.reduceMul, Int32.reduceAdd, Int32.reduceSub, Int32.reduceMul]
         first
         | refine ⟨vp_inb (by decide), ?_⟩
         | refine ⟨by with_reducible exact zi (by omega), ?_⟩
         | refine ⟨fun h => absurd h (by with_reducible exact nI_ge (by omega) (by omega)), fun _ => ?_⟩
         | refine ⟨fun _ => ?_, fun h => absurd (by with_reducible exact nI_le (by omega) (by omega)) h⟩
         | refine ⟨fun h => absurd h (by with_reducible exact nI_nlt (by omega) (by omega)), fun _ => ?_⟩
         | refine ⟨fun _ => ?_, fun h => absurd (by with_reducible exact nI_lt (by omega) (by omega)) h⟩
         | refine ⟨fun h => absurd h (by with_reducible exact nI_pos (by omega)), fun _ => ?_⟩
         | refine ⟨fun _ => ?_, fun h => absurd (by with_reducible exact nI_0le (by omega)) h⟩
         | refine ⟨fun h => absurd h (by decide), fun _ => ?_⟩
         | refine ⟨fun _ => ?_, fun h => absurd (by decide) h⟩
         | refine ⟨fun _ => ?_, fun h => absurd h (by decide)⟩
         | refine ⟨fun h => absurd (by decide) h, fun _ => ?_⟩
         | refine ⟨by decide, ?_⟩
         | refine ⟨rfl, ?_⟩)
      | (conv => whnf
         fail_if_success refine Exists.intro ?_ ?_
         simp only [h0, r1, r4, r6, r8, h121, hD.2.1.2.2.1]))
    try (conv => whnf)
    refine ⟨(m, sh, rf, s, t, dr, 6), rfl, rfl, ⟨h0, r1, h999, hD.2.1.1, by omega, by decide, by decide⟩, ?_⟩
    try dsimp only [cond_true, cond_false]
    rintro _ _ ⟨⟨v, hv, rfl⟩, s1, rfl, d1⟩
    have hD1 := lD_dS hD d1
    obtain ⟨w1, w2⟩ := hv9 v hv
    obtain ⟨y0, y1, y2⟩ := hD1.2.2.2 v hv
    obtain ⟨⟨u, hu, hu4⟩, -⟩ := hI.2.2.2.1 v hv
    have fin : σ 88 v < 0 → ∀ (s2 : zIn) (p : Int32) (dr2 : Nat), dS s s2 dr2 → dr2 ≤ dr + 3 → (-1000000000 ≤ p ∧ p ≤ 1000000000) → kq p → Gl 60 [some (.ref 0), some (.int (nI v))] [.int p, .int 2, .ref (129 + v)] (0, 0) (m, sh, rf, s2, t) := by
      intro hc s2 p dr2 d2 hdr2 hp hkp
      have hD2 := lD_dS hD d2
      refine hG 100 _ _ _ _ _ ?_
      repeat (first
        | (conv => whnf
           try dsimp only
           try simp (decide := true) only [h0, r0, r1, r4, r6, r8, h121, w1, w2, nI_clamp (show v < 2 ^ 31 by omega), zu_same, zu_ne1, zu_ne2, zu_row, zuL_same, zuL_ne1, zuL_ne2, zrow_n1, zx0, zx1, zx2, zx3, nI_1, Nat.reduceAdd, Nat.reduceMul, Int32.reduceAdd, Int32.reduceSub, Int32.reduceMul]
           first
           | refine ⟨vp_inb (by decide), ?_⟩
           | refine ⟨by with_reducible exact zi (by omega), ?_⟩
           | refine ⟨fun h => absurd h (by with_reducible exact nI_ge (by omega) (by omega)), fun _ => ?_⟩
           | refine ⟨fun _ => ?_, fun h => absurd (by with_reducible exact nI_le (by omega) (by omega)) h⟩
           | refine ⟨fun h => absurd h (by with_reducible exact nI_nlt (by omega) (by omega)), fun _ => ?_⟩
           | refine ⟨fun _ => ?_, fun h => absurd (by with_reducible exact nI_lt (by omega) (by omega)) h⟩
           | refine ⟨fun h => absurd h (by with_reducible exact nI_pos (by omega)), fun _ => ?_⟩
           | refine ⟨fun _ => ?_, fun h => absurd (by with_reducible exact nI_0le (by omega)) h⟩
           | refine ⟨fun h => absurd h (by decide), fun _ => ?_⟩
           | refine ⟨fun _ => ?_, fun h => absurd (by decide) h⟩
           | refine ⟨fun _ => ?_, fun h => absurd h (by decide)⟩
           | refine ⟨fun h => absurd (by decide) h, fun _ => ?_⟩
           | refine ⟨by decide, ?_⟩
           | refine ⟨rfl, ?_⟩)
        | (conv => whnf
           fail_if_success refine Exists.intro ?_ ?_
           simp only [h0, r0, r1, r4, r6, r8, h121, w1, w2, nI_clamp (show v < 2 ^ 31 by omega)]))
      try (conv => whnf)
      refine ⟨[.ref 0, .int (nI v), .int p], σ, τ, rfl, rfl, hBs, (zBc_zu (Or.inr (by omega)) hD2.1), by show 120 ≤ m; omega, (σ, τ, 6, pc, 4, v, p), rfl, rfl, ⟨hI, hv, hc, hp⟩, ?_⟩
      try dsimp only [cond_true, cond_false]
      rintro _ _ ⟨rfl, σ1, rfl, c1, c2, c3, c4⟩
      refine ⟨σ1, τ, rfl, rfl, fun s3 t3 hbc hfr => ?_⟩
      obtain ⟨-, ⟨q2, q3, q5, q7, q9⟩, qu, qv⟩ := hD2
      have z1 : ∀ j, s3 0 j = s2 0 j := fun j => by rw [(hfr 0 (Or.inl rfl)).1]; exact zu_ne1 (by omega)
      have z2 : ∀ r, 120 ≤ r → r ≠ 129 + v → s3 r = s2 r := fun r hr hn => by rw [(hfr r (Or.inr hr)).1]; exact zu_row hn
      have z3 : s3 (129 + v) 2 = p := by rw [(hfr (129 + v) (Or.inr (by omega))).1]; exact zu_same
      have z4 : s3 (129 + v) 0 = nI u := by rw [(hfr (129 + v) (Or.inr (by omega))).1, ← hu]; exact (zu_ne2 (by decide)).trans (qv v hv).1
      have z5 : s3 (125 + u) 4 = σ 15 u ∧ s3 (125 + u) 5 = σ 16 u := by rw [z2 (125 + u) (by omega) (by omega)]; exact qu u hu4
      repeat (first
        | (conv => whnf
           try dsimp only
           try simp (decide := true) only [h0, r0, r1, r4, r6, r8, h121, w1, w2, z3, z4, nI_clamp (show v < 2 ^ 31 by omega), zu_same, zu_ne1, zu_ne2, zu_row, zuL_same, zuL_ne1, zuL_ne2, zrow_n1, zx0, zx1, zx2, zx3, nI_1, Nat.reduceAdd, Nat.reduceMul, Int32.reduceAdd, Int32.reduceSub, Int32.reduceMul]
           first
           | refine ⟨vp_inb (by decide), ?_⟩
           | refine ⟨by with_reducible exact zi (by omega), ?_⟩
           | refine ⟨fun h => absurd h (by with_reducible exact nI_ge (by omega) (by omega)), fun _ => ?_⟩
           | refine ⟨fun _ => ?_, fun h => absurd (by with_reducible exact nI_le (by omega) (by omega)) h⟩
           | refine ⟨fun h => absurd h (by with_reducible exact nI_nlt (by omega) (by omega)), fun _ => ?_⟩
           | refine ⟨fun _ => ?_, fun h => absurd (by with_reducible exact nI_lt (by omega) (by omega)) h⟩
           | refine ⟨fun h => absurd h (by with_reducible exact nI_pos (by omega)), fun _ => ?_⟩
           | refine ⟨fun _ => ?_, fun h => absurd (by with_reducible exact nI_0le (by omega)) h⟩
           | refine ⟨fun h => absurd h (by decide), fun _ => ?_⟩
           | refine ⟨fun _ => ?_, fun h => absurd (by decide) h⟩
           | refine ⟨fun _ => ?_, fun h => absurd h (by decide)⟩
           | refine ⟨fun h => absurd (by decide) h, fun _ => ?_⟩
           | refine ⟨by decide, ?_⟩
           | refine ⟨rfl, ?_⟩)
        | (conv => whnf
           fail_if_success refine Exists.intro ?_ ?_
           simp only [h0, r0, r1, r4, r6, r8, h121, w1, w2, z3, z4, nI_clamp (show v < 2 ^ 31 by omega)]))
      try (conv => whnf)
      refine ⟨(m, sh, rf, s3, t3, p, u, 4, 6), rfl, rfl, ⟨hS, hu4, (by rw [z5.2]; exact (by obtain ⟨u', g1, g2, g3⟩ := cI_nz hI v hv; rw [hu] at g1; rw [(nI_eq (by omega) (by omega)).mp g1]; exact g3))⟩, ?_⟩
      try dsimp only [cond_true, cond_false]
      rw [z5.1, z5.2, show fKept (p.toInt64 * (σ 15 u).toInt64 / (σ 16 u).toInt64) = pWo (σ 15) (σ 16) p (σ 87 v) by unfold pWo; rw [hu, nI_clamp (by omega)]]
      repeat (conv => whnf
              try dsimp only
              try simp (decide := true) only [zu_same, zu_ne1, zu_ne2, zu_row, zuL_same, zuL_ne1, zuL_ne2, zrow_n1, zx0, zx1, zx2, zx3, nI_1, Nat.reduceAdd, Nat.reduceMul, Int32.reduceAdd, Int32.reduceSub, Int32.reduceMul]
              first
              | refine ⟨vp_inb (by decide), ?_⟩
              | refine ⟨by with_reducible exact zi (by omega), ?_⟩
              | refine ⟨fun h => absurd h (by with_reducible exact nI_ge (by omega) (by omega)), fun _ => ?_⟩
              | refine ⟨fun _ => ?_, fun h => absurd (by with_reducible exact nI_le (by omega) (by omega)) h⟩
              | refine ⟨fun h => absurd h (by with_reducible exact nI_nlt (by omega) (by omega)), fun _ => ?_⟩
              | refine ⟨fun _ => ?_, fun h => absurd (by with_reducible exact nI_lt (by omega) (by omega)) h⟩
              | refine ⟨fun h => absurd h (by with_reducible exact nI_pos (by omega)), fun _ => ?_⟩
              | refine ⟨fun _ => ?_, fun h => absurd (by with_reducible exact nI_0le (by omega)) h⟩
              | refine ⟨fun h => absurd h (by decide), fun _ => ?_⟩
              | refine ⟨fun _ => ?_, fun h => absurd (by decide) h⟩
              | refine ⟨fun _ => ?_, fun h => absurd h (by decide)⟩
              | refine ⟨fun h => absurd (by decide) h, fun _ => ?_⟩
              | refine ⟨by decide, ?_⟩
              | refine ⟨rfl, ?_⟩)
      try (conv => whnf)
      refine hK _ _ ⟨rfl, s3, t3, σ1, dr2, rfl, ⟨hbc, ⟨by rw [z1]; exact q2, by rw [z1]; exact q3, by rw [z1]; exact q5, by rw [z1]; exact q7, by rw [z1, c3 100 (by decide) (by decide)]; exact q9⟩, fun k hk => ?_, fun w hw => ?_⟩, c1, cFl_told hF c2 (fun r h1 h2 _ => c3 r h1 h2), hdr2, fun hk9 w hw => by
        rw [c4]
        show kq (if w = v then p else σ 89 w)
        by_cases e : w = v
        · rw [if_pos e]
          exact hkp
        · rw [if_neg e]
          exact hk9 w hw⟩
      · rw [z2 (125 + k) (by omega) (by omega), c3 15 (by decide) (by decide), c3 16 (by decide) (by decide)]
        exact qu k hk
      · rw [c3 87 (by decide) (by decide), c3 88 (by decide) (by decide), c4]
        dsimp only
        by_cases e : w = v
        · rw [e, if_pos rfl, (hfr (129 + v) (Or.inr (by omega))).1]
          exact ⟨(zu_ne2 (by decide)).trans (qv v hv).1, (zu_ne2 (by decide)).trans (qv v hv).2.1, zu_same⟩
        · rw [if_neg e, z2 (129 + w) (by omega) (by omega)]
          exact qv w hw
    repeat (first
      | (conv => whnf
         try dsimp only
         try simp (decide := true) only [h0, r0, r1, r4, r6, r8, h121, w1, w2, y1, nI_clamp (show v < 2 ^ 31 by omega), zu_same, zu_ne1, zu_ne2, zu_row, zuL_same, zuL_ne1, zuL_ne2, zrow_n1, zx0, zx1, zx2, zx3, nI_1, Nat.reduceAdd, Nat.reduceMul, Int32.reduceAdd, Int32.reduceSub, Int32.reduceMul]
         first
         | refine ⟨vp_inb (by decide), ?_⟩
         | refine ⟨by with_reducible exact zi (by omega), ?_⟩
         | refine ⟨fun h => absurd h (by with_reducible exact nI_ge (by omega) (by omega)), fun _ => ?_⟩
         | refine ⟨fun _ => ?_, fun h => absurd (by with_reducible exact nI_le (by omega) (by omega)) h⟩
         | refine ⟨fun h => absurd h (by with_reducible exact nI_nlt (by omega) (by omega)), fun _ => ?_⟩
         | refine ⟨fun _ => ?_, fun h => absurd (by with_reducible exact nI_lt (by omega) (by omega)) h⟩
         | refine ⟨fun h => absurd h (by with_reducible exact nI_pos (by omega)), fun _ => ?_⟩
         | refine ⟨fun _ => ?_, fun h => absurd (by with_reducible exact nI_0le (by omega)) h⟩
         | refine ⟨fun h => absurd h (by decide), fun _ => ?_⟩
         | refine ⟨fun _ => ?_, fun h => absurd (by decide) h⟩
         | refine ⟨fun _ => ?_, fun h => absurd h (by decide)⟩
         | refine ⟨fun h => absurd (by decide) h, fun _ => ?_⟩
         | refine ⟨by decide, ?_⟩
         | refine ⟨rfl, ?_⟩)
      | (conv => whnf
         fail_if_success refine Exists.intro ?_ ?_
         simp only [h0, r0, r1, r4, r6, r8, h121, w1, w2, y1, nI_clamp (show v < 2 ^ 31 by omega)]))
    try (conv => whnf)
    refine ⟨fun hc => ?_, fun hc => ?_⟩
    · have hc' : σ 88 v < 0 := hc
      repeat (first
        | (conv => whnf
           try dsimp only
           try simp (decide := true) only [h0, r0, r1, r4, r6, r8, h121, w1, w2, y1, nI_clamp (show v < 2 ^ 31 by omega), zu_same, zu_ne1, zu_ne2, zu_row, zuL_same, zuL_ne1, zuL_ne2, zrow_n1, zx0, zx1, zx2, zx3, nI_1, Nat.reduceAdd, Nat.reduceMul, Int32.reduceAdd, Int32.reduceSub, Int32.reduceMul]
           first
           | refine ⟨vp_inb (by decide), ?_⟩
           | refine ⟨by with_reducible exact zi (by omega), ?_⟩
           | refine ⟨fun h => absurd h (by with_reducible exact nI_ge (by omega) (by omega)), fun _ => ?_⟩
           | refine ⟨fun _ => ?_, fun h => absurd (by with_reducible exact nI_le (by omega) (by omega)) h⟩
           | refine ⟨fun h => absurd h (by with_reducible exact nI_nlt (by omega) (by omega)), fun _ => ?_⟩
           | refine ⟨fun _ => ?_, fun h => absurd (by with_reducible exact nI_lt (by omega) (by omega)) h⟩
           | refine ⟨fun h => absurd h (by with_reducible exact nI_pos (by omega)), fun _ => ?_⟩
           | refine ⟨fun _ => ?_, fun h => absurd (by with_reducible exact nI_0le (by omega)) h⟩
           | refine ⟨fun h => absurd h (by decide), fun _ => ?_⟩
           | refine ⟨fun _ => ?_, fun h => absurd (by decide) h⟩
           | refine ⟨fun _ => ?_, fun h => absurd h (by decide)⟩
           | refine ⟨fun h => absurd (by decide) h, fun _ => ?_⟩
           | refine ⟨by decide, ?_⟩
           | refine ⟨rfl, ?_⟩)
        | (conv => whnf
           fail_if_success refine Exists.intro ?_ ?_
           simp only [h0, r0, r1, r4, r6, r8, h121, w1, w2, y1, nI_clamp (show v < 2 ^ 31 by omega)]))
      try (conv => whnf)
      refine ⟨(m, sh, rf, s1, t, dr + 1, 2), rfl, rfl, ⟨h0, r1, h999, d1.1, by omega, by decide, by decide⟩, ?_⟩
      try dsimp only [cond_true, cond_false]
      rintro _ _ ⟨⟨y, hy, rfl⟩, s2, rfl, d2⟩
      have d2' := dS_t d1 d2
      have mul : ∀ g, g < 20 → (-1000000000 : Int32) ≤ nI g * 500 ∧ nI g * 500 ≤ 1000000000 := by decide +kernel
      have mulq : ∀ g, g < 20 → kq (nI g * 500) := by decide +kernel
      have subq : ∀ g, g < 90001 → kq (nI g - 30000) := fun g hg => by
        have e1 : (nI g).toInt = (g : Int) := nI_toInt (by omega)
        have e2 : (nI g - 30000).toInt = (g : Int) - 30000 := by
          rw [Int32.toInt_sub, e1, show (30000 : Int32).toInt = 30000 from rfl]
          exact b32 (by omega) (by omega)
        refine ⟨?_, ?_⟩
        · rw [e2]; omega
        · rw [e2]; omega
      have sub : ∀ g, g < 90001 → (-1000000000 : Int32) ≤ nI g - 30000 ∧ nI g - 30000 ≤ 1000000000 := fun g hg => by
        have e1 : (nI g).toInt = (g : Int) := nI_toInt (by omega)
        have e2 : (nI g - 30000).toInt = (g : Int) - 30000 := by
          rw [Int32.toInt_sub, e1, show (30000 : Int32).toInt = 30000 from rfl]
          exact b32 (by omega) (by omega)
        refine ⟨Int32.le_iff_toInt_le.mpr ?_, Int32.le_iff_toInt_le.mpr ?_⟩
        · rw [e2, show (-1000000000 : Int32).toInt = -1000000000 from rfl]; omega
        · rw [e2, show (1000000000 : Int32).toInt = 1000000000 from rfl]; omega
      refine ⟨fun h => ?_, fun h => ?_⟩
      · skip
        repeat (first
          | (conv => whnf
             try dsimp only
             try simp (decide := true) only [h0, zu_same, zu_ne1, zu_ne2, zu_row, zuL_same, zuL_ne1, zuL_ne2, zrow_n1, zx0, zx1, zx2, zx3, nI_1, Nat.reduceAdd, Nat.reduceMul, Int32.reduceAdd, Int32.reduceSub, Int32.reduceMul]
             first
             | refine ⟨vp_inb (by decide), ?_⟩
             | refine ⟨by with_reducible exact zi (by omega), ?_⟩
             | refine ⟨fun h => absurd h (by with_reducible exact nI_ge (by omega) (by omega)), fun _ => ?_⟩
             | refine ⟨fun _ => ?_, fun h => absurd (by with_reducible exact nI_le (by omega) (by omega)) h⟩
             | refine ⟨fun h => absurd h (by with_reducible exact nI_nlt (by omega) (by omega)), fun _ => ?_⟩
             | refine ⟨fun _ => ?_, fun h => absurd (by with_reducible exact nI_lt (by omega) (by omega)) h⟩
             | refine ⟨fun h => absurd h (by with_reducible exact nI_pos (by omega)), fun _ => ?_⟩
             | refine ⟨fun _ => ?_, fun h => absurd (by with_reducible exact nI_0le (by omega)) h⟩
             | refine ⟨fun h => absurd h (by decide), fun _ => ?_⟩
             | refine ⟨fun _ => ?_, fun h => absurd (by decide) h⟩
             | refine ⟨fun _ => ?_, fun h => absurd h (by decide)⟩
             | refine ⟨fun h => absurd (by decide) h, fun _ => ?_⟩
             | refine ⟨by decide, ?_⟩
             | refine ⟨rfl, ?_⟩)
          | (conv => whnf
             fail_if_success refine Exists.intro ?_ ?_
             simp only [h0]))
        try (conv => whnf)
        refine ⟨(m, sh, rf, s2, t, dr + 2, 90001), rfl, rfl, ⟨h0, r1, h999, d2.1, by omega, by decide, by decide⟩, ?_⟩
        try dsimp only [cond_true, cond_false]
        rintro _ _ ⟨⟨g, hg, rfl⟩, s3, rfl, d3⟩
        repeat (conv => whnf
                try dsimp only
                try simp (decide := true) only [zu_same, zu_ne1, zu_ne2, zu_row, zuL_same, zuL_ne1, zuL_ne2, zrow_n1, zx0, zx1, zx2, zx3, nI_1, Nat.reduceAdd, Nat.reduceMul, Int32.reduceAdd, Int32.reduceSub, Int32.reduceMul]
                first
                | refine ⟨vp_inb (by decide), ?_⟩
                | refine ⟨by with_reducible exact zi (by omega), ?_⟩
                | refine ⟨fun h => absurd h (by with_reducible exact nI_ge (by omega) (by omega)), fun _ => ?_⟩
                | refine ⟨fun _ => ?_, fun h => absurd (by with_reducible exact nI_le (by omega) (by omega)) h⟩
                | refine ⟨fun h => absurd h (by with_reducible exact nI_nlt (by omega) (by omega)), fun _ => ?_⟩
                | refine ⟨fun _ => ?_, fun h => absurd (by with_reducible exact nI_lt (by omega) (by omega)) h⟩
                | refine ⟨fun h => absurd h (by with_reducible exact nI_pos (by omega)), fun _ => ?_⟩
                | refine ⟨fun _ => ?_, fun h => absurd (by with_reducible exact nI_0le (by omega)) h⟩
                | refine ⟨fun h => absurd h (by decide), fun _ => ?_⟩
                | refine ⟨fun _ => ?_, fun h => absurd (by decide) h⟩
                | refine ⟨fun _ => ?_, fun h => absurd h (by decide)⟩
                | refine ⟨fun h => absurd (by decide) h, fun _ => ?_⟩
                | refine ⟨by decide, ?_⟩
                | refine ⟨rfl, ?_⟩)
        try (conv => whnf)
        exact fin hc' s3 _ (dr + 3) (dS_t d2' d3) (by omega) (sub g hg) (subq g hg)
      · skip
        repeat (first
          | (conv => whnf
             try dsimp only
             try simp (decide := true) only [h0, zu_same, zu_ne1, zu_ne2, zu_row, zuL_same, zuL_ne1, zuL_ne2, zrow_n1, zx0, zx1, zx2, zx3, nI_1, Nat.reduceAdd, Nat.reduceMul, Int32.reduceAdd, Int32.reduceSub, Int32.reduceMul]
             first
             | refine ⟨vp_inb (by decide), ?_⟩
             | refine ⟨by with_reducible exact zi (by omega), ?_⟩
             | refine ⟨fun h => absurd h (by with_reducible exact nI_ge (by omega) (by omega)), fun _ => ?_⟩
             | refine ⟨fun _ => ?_, fun h => absurd (by with_reducible exact nI_le (by omega) (by omega)) h⟩
             | refine ⟨fun h => absurd h (by with_reducible exact nI_nlt (by omega) (by omega)), fun _ => ?_⟩
             | refine ⟨fun _ => ?_, fun h => absurd (by with_reducible exact nI_lt (by omega) (by omega)) h⟩
             | refine ⟨fun h => absurd h (by with_reducible exact nI_pos (by omega)), fun _ => ?_⟩
             | refine ⟨fun _ => ?_, fun h => absurd (by with_reducible exact nI_0le (by omega)) h⟩
             | refine ⟨fun h => absurd h (by decide), fun _ => ?_⟩
             | refine ⟨fun _ => ?_, fun h => absurd (by decide) h⟩
             | refine ⟨fun _ => ?_, fun h => absurd h (by decide)⟩
             | refine ⟨fun h => absurd (by decide) h, fun _ => ?_⟩
             | refine ⟨by decide, ?_⟩
             | refine ⟨rfl, ?_⟩)
          | (conv => whnf
             fail_if_success refine Exists.intro ?_ ?_
             simp only [h0]))
        try (conv => whnf)
        refine ⟨(m, sh, rf, s2, t, dr + 2, 20), rfl, rfl, ⟨h0, r1, h999, d2.1, by omega, by decide, by decide⟩, ?_⟩
        try dsimp only [cond_true, cond_false]
        rintro _ _ ⟨⟨g, hg, rfl⟩, s3, rfl, d3⟩
        repeat (conv => whnf
                try dsimp only
                try simp (decide := true) only [zu_same, zu_ne1, zu_ne2, zu_row, zuL_same, zuL_ne1, zuL_ne2, zrow_n1, zx0, zx1, zx2, zx3, nI_1, Nat.reduceAdd, Nat.reduceMul, Int32.reduceAdd, Int32.reduceSub, Int32.reduceMul]
                first
                | refine ⟨vp_inb (by decide), ?_⟩
                | refine ⟨by with_reducible exact zi (by omega), ?_⟩
                | refine ⟨fun h => absurd h (by with_reducible exact nI_ge (by omega) (by omega)), fun _ => ?_⟩
                | refine ⟨fun _ => ?_, fun h => absurd (by with_reducible exact nI_le (by omega) (by omega)) h⟩
                | refine ⟨fun h => absurd h (by with_reducible exact nI_nlt (by omega) (by omega)), fun _ => ?_⟩
                | refine ⟨fun _ => ?_, fun h => absurd (by with_reducible exact nI_lt (by omega) (by omega)) h⟩
                | refine ⟨fun h => absurd h (by with_reducible exact nI_pos (by omega)), fun _ => ?_⟩
                | refine ⟨fun _ => ?_, fun h => absurd (by with_reducible exact nI_0le (by omega)) h⟩
                | refine ⟨fun h => absurd h (by decide), fun _ => ?_⟩
                | refine ⟨fun _ => ?_, fun h => absurd (by decide) h⟩
                | refine ⟨fun _ => ?_, fun h => absurd h (by decide)⟩
                | refine ⟨fun h => absurd (by decide) h, fun _ => ?_⟩
                | refine ⟨by decide, ?_⟩
                | refine ⟨rfl, ?_⟩)
        try (conv => whnf)
        exact fin hc' s3 _ (dr + 3) (dS_t d2' d3) (by omega) (mul g hg) (mulq g hg)
    · skip
      repeat (conv => whnf
              try dsimp only
              try simp (decide := true) only [zu_same, zu_ne1, zu_ne2, zu_row, zuL_same, zuL_ne1, zuL_ne2, zrow_n1, zx0, zx1, zx2, zx3, nI_1, Nat.reduceAdd, Nat.reduceMul, Int32.reduceAdd, Int32.reduceSub, Int32.reduceMul]
              first
              | refine ⟨vp_inb (by decide), ?_⟩
              | refine ⟨by with_reducible exact zi (by omega), ?_⟩
              | refine ⟨fun h => absurd h (by with_reducible exact nI_ge (by omega) (by omega)), fun _ => ?_⟩
              | refine ⟨fun _ => ?_, fun h => absurd (by with_reducible exact nI_le (by omega) (by omega)) h⟩
              | refine ⟨fun h => absurd h (by with_reducible exact nI_nlt (by omega) (by omega)), fun _ => ?_⟩
              | refine ⟨fun _ => ?_, fun h => absurd (by with_reducible exact nI_lt (by omega) (by omega)) h⟩
              | refine ⟨fun h => absurd h (by with_reducible exact nI_pos (by omega)), fun _ => ?_⟩
              | refine ⟨fun _ => ?_, fun h => absurd (by with_reducible exact nI_0le (by omega)) h⟩
              | refine ⟨fun h => absurd h (by decide), fun _ => ?_⟩
              | refine ⟨fun _ => ?_, fun h => absurd (by decide) h⟩
              | refine ⟨fun _ => ?_, fun h => absurd h (by decide)⟩
              | refine ⟨fun h => absurd (by decide) h, fun _ => ?_⟩
              | refine ⟨by decide, ?_⟩
              | refine ⟨rfl, ?_⟩)
      try (conv => whnf)
      exact hK _ _ ⟨rfl, s1, t, σ, dr + 1, rfl, hD1, hI, hF, by omega, fun q => q⟩
def spX8_setTurns : zSp := zDQ (X := Nat × zSh × zRf × zIn × zLo × zIn × zLo × Nat × Nat) (fun x => match x with | (m, sh, rf, s, t, σ, τ, pc, dr) => [.ref 0]) (fun x => match x with | (m, sh, rf, s, t, σ, τ, pc, dr) => (m, sh, rf, s, t)) (fun x => match x with | (m, sh, rf, s, t, σ, τ, pc, dr) => lS m 4 6 sh rf ∧ lD 4 6 pc dr s t σ τ ∧ cI σ τ 6 pc 4 ∧ cFl σ 6 ∧ dr + 4 < 10000) (fun x r9 μ9 => match x with | (m, sh, rf, s, t, σ, τ, pc, dr) => r9 = some (.int 1) ∧ ∃ (s1 : zIn) (t1 : zLo) (σ1 : zIn) (dr1 : Nat), μ9 = (m, sh, rf, s1, t1) ∧ lD 4 6 pc dr1 s1 t1 σ1 τ ∧ cI σ1 τ 6 pc 4 ∧ cFl σ1 6 ∧ dr1 ≤ dr + 4 ∧ σ1 89 = σ 89)
abbrev rmX8_setTurns : Room := ({ frames := 2, cells := 0, slots := 0, locals := 43 } : Room)
set_option maxRecDepth 100000 in
set_option maxHeartbeats 4000000 in
theorem ctX8_setTurns (l : Launch) (D : va_G) (cA : Nat → ClassId) : zCt true l D cA yX8_setTurns cX8_setTurns 2 (some .boolean) rmX8_setTurns spX8_setTurns := by
  refine zct_Q (zCX8_setTurns [(58, 0, 1, spX8_draw, rmX8_draw.cells, rmX8_draw.slots), (112, 0, 2, spJX7_setTurns, rmX7_setTurns.cells, rmX7_setTurns.slots)]) zpX8_setTurns [25, 51] (by decide +kernel) zkX8_setTurns (Or.inr (by decide +kernel)) trivial ⟨by decide +kernel, by decide +kernel⟩ (fun x ad => Nat.le_of_ble_eq_true rfl) ?_ ?_
  · intro p e s m args below meth c A H0 ad0 n0 Q F hml hNw hA hX
    exact ⟨zco_V hX hA F hml hNw (ctX8_draw l D cA) ⟨⟨zlX8_setTurns_58, zwX8_draw.1.1, zwX8_draw.1.2⟩, zwX8_draw.2⟩ zdX8_draw ⟨Nat.le_of_ble_eq_true rfl, Nat.le_of_ble_eq_true rfl⟩ (ci := 8) (by decide) rfl (by rintro av μ K ⟨⟨m, sh, rf, s, t, dr, k⟩, rfl, rfl, ⟨h, -⟩, -⟩; exact ⟨_, _, rfl, congrArg Prod.fst h⟩), zco_V hX hA F hml hNw (zct_X (ctJX7_setTurns l D cA)) ⟨⟨zlX8_setTurns_112, zwX7_setTurns.1.1, zwX7_setTurns.1.2⟩, zwX7_setTurns.2⟩ zdX7_setTurns ⟨Nat.le_of_ble_eq_true rfl, Nat.le_of_ble_eq_true rfl⟩ (ci := 7) (by decide) rfl (zrvJ (by rintro av μ K ⟨x, rfl, -⟩; exact ⟨_, rfl⟩)), trivial⟩
  · rintro ⟨m, sh, rf, s, t, σ, τ, pc, dr⟩ Ret hP hK Gl hG
    try dsimp only at hP hK
    show Gl 0 (zent 2 [.ref 0]) [] (0, 0) ((m, sh, rf, s, t))
    obtain ⟨hS, hD, hI, hF, hdr⟩ := hP
    obtain ⟨⟨b1, b2, b3, b4, b5⟩, hBs, h999, ⟨h0, h120, h121, h122⟩, ⟨r0, r1, r4, r6, r8⟩, hu9, hv9⟩ := id hS
    have was : s 0 9 = σ 100 6 := hD.2.1.2.2.2.2
    have fin2 : ∀ (s2 s4 : zIn) (p d : Int32) (dr2 : Nat), dS s s2 dr2 → dr2 ≤ dr + 4 → (0 ≤ p ∧ p ≤ 10000) → (1 ≤ d ∧ d ≤ 100) → s4 0 9 = p → (∀ j, j ≠ 9 → s4 0 j = s2 0 j) → (∀ r, r ≠ 0 → s4 r = s2 r) → Gl 51 [some (.ref 0), some (.int (σ 100 6))] [.int d, .ref 0] (0, 0) (m, sh, rf, s4, t) := by
      intro s2 s4 p d dr2 d2 hdr2 hp hd p9 pj pr
      have hD2 := lD_dS hD d2
      obtain ⟨qc, ⟨q2, q3, q5, q7, q9⟩, qu, qv⟩ := hD2
      have hbc4 : zBc s4 t σ τ := fun k hk => by rw [pr (1 + k) (by omega)]; exact qc k hk
      refine hG 100 _ _ _ _ _ ?_
      repeat (first
        | (conv => whnf
           try dsimp only
           try simp (decide := true) only [h0, r0, p9, zu_same, zu_ne1, zu_ne2, zu_row, zuL_same, zuL_ne1, zuL_ne2, zrow_n1, zx0, zx1, zx2, zx3, nI_1, Nat.reduceAdd, Nat.reduceMul, Int32.reduceAdd, Int32.reduceSub, Int32.reduceMul]
           first
           | refine ⟨vp_inb (by decide), ?_⟩
           | refine ⟨by with_reducible exact zi (by omega), ?_⟩
           | refine ⟨fun h => absurd h (by with_reducible exact nI_ge (by omega) (by omega)), fun _ => ?_⟩
           | refine ⟨fun _ => ?_, fun h => absurd (by with_reducible exact nI_le (by omega) (by omega)) h⟩
           | refine ⟨fun h => absurd h (by with_reducible exact nI_nlt (by omega) (by omega)), fun _ => ?_⟩
           | refine ⟨fun _ => ?_, fun h => absurd (by with_reducible exact nI_lt (by omega) (by omega)) h⟩
           | refine ⟨fun h => absurd h (by with_reducible exact nI_pos (by omega)), fun _ => ?_⟩
           | refine ⟨fun _ => ?_, fun h => absurd (by with_reducible exact nI_0le (by omega)) h⟩
           | refine ⟨fun h => absurd h (by decide), fun _ => ?_⟩
           | refine ⟨fun _ => ?_, fun h => absurd (by decide) h⟩
           | refine ⟨fun _ => ?_, fun h => absurd h (by decide)⟩
           | refine ⟨fun h => absurd (by decide) h, fun _ => ?_⟩
           | refine ⟨by decide, ?_⟩
           | refine ⟨rfl, ?_⟩)
        | (conv => whnf
           fail_if_success refine Exists.intro ?_ ?_
           simp only [h0, r0, p9]))
      try (conv => whnf)
      refine ⟨[.ref 0, .int p, .int d], σ, τ, rfl, rfl, hBs, (zBc_zu (Or.inl rfl) hbc4), by show 120 ≤ m; omega, (σ, τ, 6, pc, 4, p, d), rfl, rfl, ⟨hI, hp, hd⟩, ?_⟩
      try dsimp only [cond_true, cond_false]
      rintro _ _ ⟨rfl, σ1, rfl, c1, c2, c3, c4⟩
      refine ⟨σ1, τ, rfl, rfl, fun s3 t3 hbc hfr => ?_⟩
      have z1 : ∀ j, j ≠ 9 → j ≠ 10 → s3 0 j = s2 0 j := fun j h9 h10 => by rw [(hfr 0 (Or.inl rfl)).1, ← pj j h9]; exact zu_ne2 h10
      have z9 : s3 0 9 = p := by rw [(hfr 0 (Or.inl rfl)).1, ← p9]; exact zu_ne2 (by decide)
      have z2 : ∀ r, 120 ≤ r → s3 r = s2 r := fun r hr => by rw [(hfr r (Or.inr hr)).1, ← pr r (by omega)]; exact zu_row (by omega)
      repeat (conv => whnf
              try dsimp only
              try simp (decide := true) only [zu_same, zu_ne1, zu_ne2, zu_row, zuL_same, zuL_ne1, zuL_ne2, zrow_n1, zx0, zx1, zx2, zx3, nI_1, Nat.reduceAdd, Nat.reduceMul, Int32.reduceAdd, Int32.reduceSub, Int32.reduceMul]
              first
              | refine ⟨vp_inb (by decide), ?_⟩
              | refine ⟨by with_reducible exact zi (by omega), ?_⟩
              | refine ⟨fun h => absurd h (by with_reducible exact nI_ge (by omega) (by omega)), fun _ => ?_⟩
              | refine ⟨fun _ => ?_, fun h => absurd (by with_reducible exact nI_le (by omega) (by omega)) h⟩
              | refine ⟨fun h => absurd h (by with_reducible exact nI_nlt (by omega) (by omega)), fun _ => ?_⟩
              | refine ⟨fun _ => ?_, fun h => absurd (by with_reducible exact nI_lt (by omega) (by omega)) h⟩
              | refine ⟨fun h => absurd h (by with_reducible exact nI_pos (by omega)), fun _ => ?_⟩
              | refine ⟨fun _ => ?_, fun h => absurd (by with_reducible exact nI_0le (by omega)) h⟩
              | refine ⟨fun h => absurd h (by decide), fun _ => ?_⟩
              | refine ⟨fun _ => ?_, fun h => absurd (by decide) h⟩
              | refine ⟨fun _ => ?_, fun h => absurd h (by decide)⟩
              | refine ⟨fun h => absurd (by decide) h, fun _ => ?_⟩
              | refine ⟨by decide, ?_⟩
              | refine ⟨rfl, ?_⟩)
      try (conv => whnf)
      refine hK _ _ ⟨rfl, s3, t3, σ1, dr2, rfl, ⟨hbc, ⟨by rw [z1 2 (by decide) (by decide)]; exact q2, by rw [z1 3 (by decide) (by decide)]; exact q3, by rw [z1 5 (by decide) (by decide)]; exact q5, by rw [z1 7 (by decide) (by decide)]; exact q7, z9.trans c4.symm⟩, fun k hk => ?_, fun w hw => ?_⟩, c1, cFl_told hF c2 (fun r h1 h2 h3 => c3 r h1 (by omega)), hdr2, c3 89 (by decide) (by decide)⟩
      · rw [z2 (125 + k) (by omega), c3 15 (by decide) (by decide), c3 16 (by decide) (by decide)]
        exact qu k hk
      · rw [c3 87 (by decide) (by decide), c3 88 (by decide) (by decide), c3 89 (by decide) (by decide), z2 (129 + w) (by omega)]
        exact qv w hw
    have add : ∀ g, g < 80 → (1 : Int32) ≤ 20 + nI g ∧ 20 + nI g ≤ 100 := by decide +kernel
    have fin1 : ∀ (s2 : zIn) (p : Int32) (dr2 : Nat), dS s s2 dr2 → dr2 ≤ dr + 2 → (0 ≤ p ∧ p ≤ 10000) → Gl 25 [some (.ref 0), some (.int (σ 100 6))] [.int p, .ref 0] (0, 0) (m, sh, rf, s2, t) := by
      intro s2 p dr2 d2 hdr2 hp
      refine hG 100 _ _ _ _ _ ?_
      repeat (first
        | (conv => whnf
           try dsimp only
           try simp (decide := true) only [h0, zu_same, zu_ne1, zu_ne2, zu_row, zuL_same, zuL_ne1, zuL_ne2, zrow_n1, zx0, zx1, zx2, zx3, nI_1, Nat.reduceAdd, Nat.reduceMul, Int32.reduceAdd, Int32.reduceSub, Int32.reduceMul]
           first
           | refine ⟨vp_inb (by decide), ?_⟩
           | refine ⟨by with_reducible exact zi (by omega), ?_⟩
           | refine ⟨fun h => absurd h (by with_reducible exact nI_ge (by omega) (by omega)), fun _ => ?_⟩
           | refine ⟨fun _ => ?_, fun h => absurd (by with_reducible exact nI_le (by omega) (by omega)) h⟩
           | refine ⟨fun h => absurd h (by with_reducible exact nI_nlt (by omega) (by omega)), fun _ => ?_⟩
           | refine ⟨fun _ => ?_, fun h => absurd (by with_reducible exact nI_lt (by omega) (by omega)) h⟩
           | refine ⟨fun h => absurd h (by with_reducible exact nI_pos (by omega)), fun _ => ?_⟩
           | refine ⟨fun _ => ?_, fun h => absurd (by with_reducible exact nI_0le (by omega)) h⟩
           | refine ⟨fun h => absurd h (by decide), fun _ => ?_⟩
           | refine ⟨fun _ => ?_, fun h => absurd (by decide) h⟩
           | refine ⟨fun _ => ?_, fun h => absurd h (by decide)⟩
           | refine ⟨fun h => absurd (by decide) h, fun _ => ?_⟩
           | refine ⟨by decide, ?_⟩
           | refine ⟨rfl, ?_⟩)
        | (conv => whnf
           fail_if_success refine Exists.intro ?_ ?_
           simp only [h0]))
      try (conv => whnf)
      refine ⟨(m, sh, rf, zu s2 0 9 p, t, dr2, 2), rfl, rfl, ⟨h0, r1, h999, (zu_ne2 (by decide)).trans d2.1, by omega, by decide, by decide⟩, ?_⟩
      try dsimp only [cond_true, cond_false]
      rintro _ _ ⟨⟨y, hy, rfl⟩, s3, rfl, d3⟩
      have hx : ∀ (s5 : zIn) (dr5 : Nat), dS (zu s2 0 9 p) s5 dr5 → s5 0 9 = p ∧ (∃ s6 : zIn, dS s s6 dr5 ∧ (∀ j, j ≠ 9 → s5 0 j = s6 0 j) ∧ ∀ r, r ≠ 0 → s5 r = s6 r) := fun s5 dr5 h5 => by
        refine ⟨(h5.2.1 9 (by decide)).trans zu_same, zu s2 0 2 (nI dr5), ⟨zu_same, fun j hj => (zu_ne2 hj).trans (d2.2.1 j hj), fun r hr => (zu_row hr).trans (d2.2.2 r hr)⟩, fun j hj => ?_, fun r hr => ?_⟩
        · by_cases e : j = 2
          · rw [e, h5.1, zu_same]
          · rw [h5.2.1 j e, zu_ne2 hj, zu_ne2 e]
        · rw [h5.2.2 r hr, zu_row hr, zu_row hr]
      refine ⟨fun h => ?_, fun h => ?_⟩
      · skip
        repeat (first
          | (conv => whnf
             try dsimp only
             try simp (decide := true) only [h0, zu_same, zu_ne1, zu_ne2, zu_row, zuL_same, zuL_ne1, zuL_ne2, zrow_n1, zx0, zx1, zx2, zx3, nI_1, Nat.reduceAdd, Nat.reduceMul, Int32.reduceAdd, Int32.reduceSub, Int32.reduceMul]
             first
             | refine ⟨vp_inb (by decide), ?_⟩
             | refine ⟨by with_reducible exact zi (by omega), ?_⟩
             | refine ⟨fun h => absurd h (by with_reducible exact nI_ge (by omega) (by omega)), fun _ => ?_⟩
             | refine ⟨fun _ => ?_, fun h => absurd (by with_reducible exact nI_le (by omega) (by omega)) h⟩
             | refine ⟨fun h => absurd h (by with_reducible exact nI_nlt (by omega) (by omega)), fun _ => ?_⟩
             | refine ⟨fun _ => ?_, fun h => absurd (by with_reducible exact nI_lt (by omega) (by omega)) h⟩
             | refine ⟨fun h => absurd h (by with_reducible exact nI_pos (by omega)), fun _ => ?_⟩
             | refine ⟨fun _ => ?_, fun h => absurd (by with_reducible exact nI_0le (by omega)) h⟩
             | refine ⟨fun h => absurd h (by decide), fun _ => ?_⟩
             | refine ⟨fun _ => ?_, fun h => absurd (by decide) h⟩
             | refine ⟨fun _ => ?_, fun h => absurd h (by decide)⟩
             | refine ⟨fun h => absurd (by decide) h, fun _ => ?_⟩
             | refine ⟨by decide, ?_⟩
             | refine ⟨rfl, ?_⟩)
          | (conv => whnf
             fail_if_success refine Exists.intro ?_ ?_
             simp only [h0]))
        try (conv => whnf)
        refine ⟨(m, sh, rf, s3, t, dr2 + 1, 80), rfl, rfl, ⟨h0, r1, h999, d3.1, by omega, by decide, by decide⟩, ?_⟩
        try dsimp only [cond_true, cond_false]
        rintro _ _ ⟨⟨g, hg, rfl⟩, s4, rfl, d4⟩
        repeat (conv => whnf
                try dsimp only
                try simp (decide := true) only [zu_same, zu_ne1, zu_ne2, zu_row, zuL_same, zuL_ne1, zuL_ne2, zrow_n1, zx0, zx1, zx2, zx3, nI_1, Nat.reduceAdd, Nat.reduceMul, Int32.reduceAdd, Int32.reduceSub, Int32.reduceMul]
                first
                | refine ⟨vp_inb (by decide), ?_⟩
                | refine ⟨by with_reducible exact zi (by omega), ?_⟩
                | refine ⟨fun h => absurd h (by with_reducible exact nI_ge (by omega) (by omega)), fun _ => ?_⟩
                | refine ⟨fun _ => ?_, fun h => absurd (by with_reducible exact nI_le (by omega) (by omega)) h⟩
                | refine ⟨fun h => absurd h (by with_reducible exact nI_nlt (by omega) (by omega)), fun _ => ?_⟩
                | refine ⟨fun _ => ?_, fun h => absurd (by with_reducible exact nI_lt (by omega) (by omega)) h⟩
                | refine ⟨fun h => absurd h (by with_reducible exact nI_pos (by omega)), fun _ => ?_⟩
                | refine ⟨fun _ => ?_, fun h => absurd (by with_reducible exact nI_0le (by omega)) h⟩
                | refine ⟨fun h => absurd h (by decide), fun _ => ?_⟩
                | refine ⟨fun _ => ?_, fun h => absurd (by decide) h⟩
                | refine ⟨fun _ => ?_, fun h => absurd h (by decide)⟩
                | refine ⟨fun h => absurd (by decide) h, fun _ => ?_⟩
                | refine ⟨by decide, ?_⟩
                | refine ⟨rfl, ?_⟩)
        try (conv => whnf)
        obtain ⟨e1, s6, e2, e3, e4⟩ := hx s4 _ (dS_t d3 d4)
        exact fin2 s6 s4 p _ (dr2 + 2) e2 (by omega) hp (add g hg) e1 e3 e4
      · skip
        repeat (first
          | (conv => whnf
             try dsimp only
             try simp (decide := true) only [h0, zu_same, zu_ne1, zu_ne2, zu_row, zuL_same, zuL_ne1, zuL_ne2, zrow_n1, zx0, zx1, zx2, zx3, nI_1, Nat.reduceAdd, Nat.reduceMul, Int32.reduceAdd, Int32.reduceSub, Int32.reduceMul]
             first
             | refine ⟨vp_inb (by decide), ?_⟩
             | refine ⟨by with_reducible exact zi (by omega), ?_⟩
             | refine ⟨fun h => absurd h (by with_reducible exact nI_ge (by omega) (by omega)), fun _ => ?_⟩
             | refine ⟨fun _ => ?_, fun h => absurd (by with_reducible exact nI_le (by omega) (by omega)) h⟩
             | refine ⟨fun h => absurd h (by with_reducible exact nI_nlt (by omega) (by omega)), fun _ => ?_⟩
             | refine ⟨fun _ => ?_, fun h => absurd (by with_reducible exact nI_lt (by omega) (by omega)) h⟩
             | refine ⟨fun h => absurd h (by with_reducible exact nI_pos (by omega)), fun _ => ?_⟩
             | refine ⟨fun _ => ?_, fun h => absurd (by with_reducible exact nI_0le (by omega)) h⟩
             | refine ⟨fun h => absurd h (by decide), fun _ => ?_⟩
             | refine ⟨fun _ => ?_, fun h => absurd (by decide) h⟩
             | refine ⟨fun _ => ?_, fun h => absurd h (by decide)⟩
             | refine ⟨fun h => absurd (by decide) h, fun _ => ?_⟩
             | refine ⟨by decide, ?_⟩
             | refine ⟨rfl, ?_⟩)
          | (conv => whnf
             fail_if_success refine Exists.intro ?_ ?_
             simp only [h0]))
        try (conv => whnf)
        obtain ⟨e1, s6, e2, e3, e4⟩ := hx s3 _ d3
        exact fin2 s6 s3 p 100 (dr2 + 1) e2 (by omega) hp ⟨by decide, by decide⟩ e1 e3 e4
    have lt : ∀ g, g < 200 → (0 : Int32) ≤ nI g ∧ nI g ≤ 10000 := by decide +kernel
    refine hG 100 _ _ _ _ _ ?_
    repeat (first
      | (conv => whnf
         try dsimp only
         try simp (decide := true) only [h0, was, zu_same, zu_ne1, zu_ne2, zu_row, zuL_same, zuL_ne1, zuL_ne2, zrow_n1, zx0, zx1, zx2, zx3, nI_1, Nat.reduceAdd, Nat.reduceMul, Int32.reduceAdd, Int32.reduceSub, Int32.reduceMul]
         first
         | refine ⟨vp_inb (by decide), ?_⟩
         | refine ⟨by with_reducible exact zi (by omega), ?_⟩
         | refine ⟨fun h => absurd h (by with_reducible exact nI_ge (by omega) (by omega)), fun _ => ?_⟩
         | refine ⟨fun _ => ?_, fun h => absurd (by with_reducible exact nI_le (by omega) (by omega)) h⟩
         | refine ⟨fun h => absurd h (by with_reducible exact nI_nlt (by omega) (by omega)), fun _ => ?_⟩
         | refine ⟨fun _ => ?_, fun h => absurd (by with_reducible exact nI_lt (by omega) (by omega)) h⟩
         | refine ⟨fun h => absurd h (by with_reducible exact nI_pos (by omega)), fun _ => ?_⟩
         | refine ⟨fun _ => ?_, fun h => absurd (by with_reducible exact nI_0le (by omega)) h⟩
         | refine ⟨fun h => absurd h (by decide), fun _ => ?_⟩
         | refine ⟨fun _ => ?_, fun h => absurd (by decide) h⟩
         | refine ⟨fun _ => ?_, fun h => absurd h (by decide)⟩
         | refine ⟨fun h => absurd (by decide) h, fun _ => ?_⟩
         | refine ⟨by decide, ?_⟩
         | refine ⟨rfl, ?_⟩)
      | (conv => whnf
         fail_if_success refine Exists.intro ?_ ?_
         simp only [h0, was]))
    try (conv => whnf)
    refine ⟨(m, sh, rf, s, t, dr, 2), rfl, rfl, ⟨h0, r1, h999, hD.2.1.1, by omega, by decide, by decide⟩, ?_⟩
    try dsimp only [cond_true, cond_false]
    rintro _ _ ⟨⟨y, hy, rfl⟩, s1, rfl, d1⟩
    refine ⟨fun h => ?_, fun h => ?_⟩
    · skip
      repeat (first
        | (conv => whnf
           try dsimp only
           try simp (decide := true) only [h0, zu_same, zu_ne1, zu_ne2, zu_row, zuL_same, zuL_ne1, zuL_ne2, zrow_n1, zx0, zx1, zx2, zx3, nI_1, Nat.reduceAdd, Nat.reduceMul, Int32.reduceAdd, Int32.reduceSub, Int32.reduceMul]
           first
           | refine ⟨vp_inb (by decide), ?_⟩
           | refine ⟨by with_reducible exact zi (by omega), ?_⟩
           | refine ⟨fun h => absurd h (by with_reducible exact nI_ge (by omega) (by omega)), fun _ => ?_⟩
           | refine ⟨fun _ => ?_, fun h => absurd (by with_reducible exact nI_le (by omega) (by omega)) h⟩
           | refine ⟨fun h => absurd h (by with_reducible exact nI_nlt (by omega) (by omega)), fun _ => ?_⟩
           | refine ⟨fun _ => ?_, fun h => absurd (by with_reducible exact nI_lt (by omega) (by omega)) h⟩
           | refine ⟨fun h => absurd h (by with_reducible exact nI_pos (by omega)), fun _ => ?_⟩
           | refine ⟨fun _ => ?_, fun h => absurd (by with_reducible exact nI_0le (by omega)) h⟩
           | refine ⟨fun h => absurd h (by decide), fun _ => ?_⟩
           | refine ⟨fun _ => ?_, fun h => absurd (by decide) h⟩
           | refine ⟨fun _ => ?_, fun h => absurd h (by decide)⟩
           | refine ⟨fun h => absurd (by decide) h, fun _ => ?_⟩
           | refine ⟨by decide, ?_⟩
           | refine ⟨rfl, ?_⟩)
        | (conv => whnf
           fail_if_success refine Exists.intro ?_ ?_
           simp only [h0]))
      try (conv => whnf)
      refine ⟨(m, sh, rf, s1, t, dr + 1, 200), rfl, rfl, ⟨h0, r1, h999, d1.1, by omega, by decide, by decide⟩, ?_⟩
      try dsimp only [cond_true, cond_false]
      rintro _ _ ⟨⟨g, hg, rfl⟩, s2, rfl, d2⟩
      repeat (conv => whnf
              try dsimp only
              try simp (decide := true) only [zu_same, zu_ne1, zu_ne2, zu_row, zuL_same, zuL_ne1, zuL_ne2, zrow_n1, zx0, zx1, zx2, zx3, nI_1, Nat.reduceAdd, Nat.reduceMul, Int32.reduceAdd, Int32.reduceSub, Int32.reduceMul]
              first
              | refine ⟨vp_inb (by decide), ?_⟩
              | refine ⟨by with_reducible exact zi (by omega), ?_⟩
              | refine ⟨fun h => absurd h (by with_reducible exact nI_ge (by omega) (by omega)), fun _ => ?_⟩
              | refine ⟨fun _ => ?_, fun h => absurd (by with_reducible exact nI_le (by omega) (by omega)) h⟩
              | refine ⟨fun h => absurd h (by with_reducible exact nI_nlt (by omega) (by omega)), fun _ => ?_⟩
              | refine ⟨fun _ => ?_, fun h => absurd (by with_reducible exact nI_lt (by omega) (by omega)) h⟩
              | refine ⟨fun h => absurd h (by with_reducible exact nI_pos (by omega)), fun _ => ?_⟩
              | refine ⟨fun _ => ?_, fun h => absurd (by with_reducible exact nI_0le (by omega)) h⟩
              | refine ⟨fun h => absurd h (by decide), fun _ => ?_⟩
              | refine ⟨fun _ => ?_, fun h => absurd (by decide) h⟩
              | refine ⟨fun _ => ?_, fun h => absurd h (by decide)⟩
              | refine ⟨fun h => absurd (by decide) h, fun _ => ?_⟩
              | refine ⟨by decide, ?_⟩
              | refine ⟨rfl, ?_⟩)
      try (conv => whnf)
      exact fin1 s2 _ (dr + 2) (dS_t d1 d2) (by omega) (lt g hg)
    · skip
      repeat (conv => whnf
              try dsimp only
              try simp (decide := true) only [zu_same, zu_ne1, zu_ne2, zu_row, zuL_same, zuL_ne1, zuL_ne2, zrow_n1, zx0, zx1, zx2, zx3, nI_1, Nat.reduceAdd, Nat.reduceMul, Int32.reduceAdd, Int32.reduceSub, Int32.reduceMul]
              first
              | refine ⟨vp_inb (by decide), ?_⟩
              | refine ⟨by with_reducible exact zi (by omega), ?_⟩
              | refine ⟨fun h => absurd h (by with_reducible exact nI_ge (by omega) (by omega)), fun _ => ?_⟩
              | refine ⟨fun _ => ?_, fun h => absurd (by with_reducible exact nI_le (by omega) (by omega)) h⟩
              | refine ⟨fun h => absurd h (by with_reducible exact nI_nlt (by omega) (by omega)), fun _ => ?_⟩
              | refine ⟨fun _ => ?_, fun h => absurd (by with_reducible exact nI_lt (by omega) (by omega)) h⟩
              | refine ⟨fun h => absurd h (by with_reducible exact nI_pos (by omega)), fun _ => ?_⟩
              | refine ⟨fun _ => ?_, fun h => absurd (by with_reducible exact nI_0le (by omega)) h⟩
              | refine ⟨fun h => absurd h (by decide), fun _ => ?_⟩
              | refine ⟨fun _ => ?_, fun h => absurd (by decide) h⟩
              | refine ⟨fun _ => ?_, fun h => absurd h (by decide)⟩
              | refine ⟨fun h => absurd (by decide) h, fun _ => ?_⟩
              | refine ⟨by decide, ?_⟩
              | refine ⟨rfl, ?_⟩)
      try (conv => whnf)
      exact fin1 s1 0 (dr + 1) d1 (by omega) ⟨by decide, by decide⟩

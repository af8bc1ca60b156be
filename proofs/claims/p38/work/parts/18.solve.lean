/-! ===== solving circles, by the machine ===== -/
theorem cTu_cg {σ σ1 : zIn} {τ : zLo} {n pc : Nat} (h : ∀ r, r < 101 → σ1 r = σ r) (H : cTu σ τ n pc) : cTu σ1 τ n pc := by
  have hg : zMG σ1 = zMG σ := by
    unfold zMG
    rw [zPT_cg (fun r _ h2 => h r (by omega)), h 88 (by decide), h 87 (by decide), h 15 (by decide), h 16 (by decide), h 100 (by decide), h 90 (by decide)]
  obtain ⟨h1, h2, h3, h4, h5, h6⟩ := H
  refine ⟨by rw [h 86 (by decide)]; exact h1, h2, h3, by rw [hg]; exact h4, by rw [h 88 (by decide)]; exact h5, fun f hf => pIn_cg (fun r _ h2 => h r (by omega)) (h6 f hf)⟩
theorem zMG_cg {σ σ1 : zIn} (h : ∀ r, r < 101 → σ1 r = σ r) : zMG σ1 = zMG σ := by
  unfold zMG
  rw [zPT_cg (fun r _ h2 => h r (by omega)), h 88 (by decide), h 87 (by decide), h 15 (by decide), h 16 (by decide), h 100 (by decide), h 90 (by decide)]
def spX4_solveAlone : zSp := zDQ (X := Bool × zIn × zLo × Nat × Nat × Nat) (fun x => match x with | (b, σ, τ, n, pc, v) => [.ref 100, .int (nI v), .ref (cond b 89 110), .ref (cond b 103 107)]) (fun x => match x with | (b, σ, τ, n, pc, v) => (119, zSH, zRH, σ, τ)) (fun x => match x with | (b, σ, τ, n, pc, v) => cTu σ τ n pc ∧ v < n ∧ ∃ u, σ 87 v = nI u ∧ u < 12 ∧ ¬ (σ 16 u).toInt64 = 0) (fun x r9 μ9 => match x with | (b, σ, τ, n, pc, v) => r9 = none ∧ ∃ σ1 : zIn, μ9 = (119, zSH, zRH, σ1, τ) ∧ (∀ r, r ≠ 101 → r ≠ cond b 103 107 → σ1 r = σ r) ∧ σ1 (cond b 103 107) = fun u => if u = v then (if σ 88 v < 0 then pWo (σ 15) (σ 16) (σ (cond b 89 110) v) (σ 87 v) else pW (zPT σ) (σ (cond b 103 107)) (σ 88 v).toNatClampNeg) else σ (cond b 103 107) u)
abbrev rmX4_solveAlone : Room := ({ frames := 3, cells := 0, slots := 0, locals := 76 } : Room)
set_option maxRecDepth 100000 in
set_option maxHeartbeats 4000000 in
theorem ctX4_solveAlone (l : Launch) (D : va_G) (cA : Nat → ClassId) : zCt false l D cA yX4_solveAlone cX4_solveAlone 4 (none) rmX4_solveAlone spX4_solveAlone := by
  refine zct_Q (zCX4_solveAlone [(90, 0, 1, spX6_isInput, rmX6_isInput.cells, rmX6_isInput.slots), (97, 0, 2, spX5_withoutUnit, rmX5_withoutUnit.cells, rmX5_withoutUnit.slots), (106, 0, 2, spX4_reckon, rmX4_reckon.cells, rmX4_reckon.slots)]) zpX4_solveAlone [] (by decide +kernel) zkX4_solveAlone (Or.inr (by decide +kernel)) trivial ⟨by decide +kernel, by decide +kernel⟩ (fun x ad => Nat.le_of_ble_eq_true rfl) ?_ ?_
  · intro p e s m args below meth c A H0 ad0 n0 Q F hml hNw hA hX
    exact ⟨zco_V hX hA F hml hNw (ctX6_isInput l D cA) ⟨⟨zlX4_solveAlone_90, zwX6_isInput.1.1, zwX6_isInput.1.2⟩, zwX6_isInput.2⟩ zdX6_isInput ⟨Nat.le_of_ble_eq_true rfl, Nat.le_of_ble_eq_true rfl⟩ (ci := 6) (by decide) rfl (by rintro av μ K ⟨x, rfl, rfl, -⟩; exact ⟨_, _, rfl, rfl⟩), zco_V hX hA F hml hNw (ctX5_withoutUnit l D cA) ⟨⟨zlX4_solveAlone_97, zwX5_withoutUnit.1.1, zwX5_withoutUnit.1.2⟩, zwX5_withoutUnit.2⟩ zdX5_withoutUnit ⟨Nat.le_of_ble_eq_true rfl, Nat.le_of_ble_eq_true rfl⟩ (ci := 5) (by decide) rfl (by rintro av μ K ⟨x, rfl, rfl, -⟩; exact ⟨_, _, rfl, rfl⟩), zco_V hX hA F hml hNw (ctX4_reckon l D cA) ⟨⟨zlX4_solveAlone_106, zwX4_reckon.1.1, zwX4_reckon.1.2⟩, zwX4_reckon.2⟩ zdX4_reckon ⟨Nat.le_of_ble_eq_true rfl, Nat.le_of_ble_eq_true rfl⟩ (ci := 4) (by decide) rfl (by rintro av μ K ⟨x, rfl, rfl, -⟩; exact ⟨_, _, rfl, rfl⟩), trivial⟩
  · rintro ⟨b, σ, τ, n, pc, v⟩ Ret hP hK Gl hG
    try dsimp only at hP hK
    show Gl 0 (zent 4 [.ref 100, .int (nI v), .ref (cond b 89 110), .ref (cond b 103 107)]) [] (0, 0) ((119, zSH, zRH, σ, τ))
    obtain ⟨⟨hn, h16, hp60, hnu, hfo, hin⟩, hv, u, hu, hu12, hq⟩ := hP
    cases b
    · try dsimp only [cond_true, cond_false] at *
      refine hG 100 _ _ _ _ _ ?_
      repeat (conv => whnf
              try dsimp only
              try simp (decide := true) only [zu_same, zu_ne1, zu_ne2, zu_row, zuL_same, zuL_ne1, zuL_ne2, zrow_n1, zx0, zx1, zx2, zx3, nI_1, Nat.reduceAdd, Nat.reduceMul, Int32.reduceAdd, Int32.reduceSub, Int32.reduceMul]
              first
              | refine ⟨vp_inb (by decide), ?_⟩
              | refine ⟨by with_reducible exact zi (by omega), ?_⟩
              | refine ⟨fun h => absurd h (by with_reducible exact nI_ge (by omega) (by omega)), fun _ => ?_⟩
              | refine ⟨fun _ => ?_, fun h => absurd (by with_reducible exact nI_le (by omega) (by omega)) h⟩
              | refine ⟨fun h => absurd h (by with_reducible exact nI_nlt (by omega) (by omega)), fun _ => ?_⟩
              | refine ⟨fun _ => ?_, fun h => absurd (by with_reducible exact nI_lt (by omega) (by omega)) h⟩
              | refine ⟨fun h => absurd h (by with_reducible exact nI_pos (by omega)), fun _ => ?_⟩
              | refine ⟨fun _ => ?_, fun h => absurd (by with_reducible exact nI_0le (by omega)) h⟩
              | refine ⟨fun h => absurd h (by decide), fun _ => ?_⟩
              | refine ⟨fun _ => ?_, fun h => absurd (by decide) h⟩
              | refine ⟨fun _ => ?_, fun h => absurd h (by decide)⟩
              | refine ⟨fun h => absurd (by decide) h, fun _ => ?_⟩
              | refine ⟨by decide, ?_⟩
              | refine ⟨rfl, ?_⟩)
      try (conv => whnf)
      refine ⟨(σ, τ, nI v), rfl, rfl, zi (by omega), ?_⟩
      try dsimp only [cond_true, cond_false]
      by_cases hc : σ 88 v < 0
      · rw [if_pos (show σ 88 (nI v).toNatClampNeg < 0 by rw [nI_clamp (by omega)]; exact hc)]
        repeat (first
          | (conv => whnf
             try dsimp only
             try simp (decide := true) only [hu, nI_clamp (show v < 2 ^ 31 by omega), zu_same, zu_ne1, zu_ne2, zu_row, zuL_same, zuL_ne1, zuL_ne2, zrow_n1, zx0, zx1, zx2, zx3, nI_1, Nat.reduceAdd, Nat.reduceMul, Int32.reduceAdd, Int32.reduceSub, Int32.reduceMul]
             first
             | refine ⟨vp_inb (by decide), ?_⟩
             | refine ⟨by with_reducible exact zi (by omega), ?_⟩
             | refine ⟨fun h => absurd h (by with_reducible exact nI_ge (by omega) (by omega)), fun _ => ?_⟩
             | refine ⟨fun _ => ?_, fun h => absurd (by with_reducible exact nI_le (by omega) (by omega)) h⟩
             | refine ⟨fun h => absurd h (by with_reducible exact nI_nlt (by omega) (by omega)), fun _ => ?_⟩
             | refine ⟨fun _ => ?_, fun h => absurd (by with_reducible exact nI_lt (by omega) (by omega)) h⟩
             | refine ⟨fun h => absurd h (by with_reducible exact nI_pos (by omega)), fun _ => ?_⟩
             | refine ⟨fun _ => ?_, fun h => absurd (by with_reducible exact nI_0le (by omega)) h⟩
             | refine ⟨fun h => absurd h (by decide), fun _ => ?_⟩
             | refine ⟨fun _ => ?_, fun h => absurd (by decide) h⟩
             | refine ⟨fun _ => ?_, fun h => absurd h (by decide)⟩
             | refine ⟨fun h => absurd (by decide) h, fun _ => ?_⟩
             | refine ⟨by decide, ?_⟩
             | refine ⟨rfl, ?_⟩)
          | (conv => whnf
             fail_if_success refine Exists.intro ?_ ?_
             simp only [hu, nI_clamp (show v < 2 ^ 31 by omega)]))
        try (conv => whnf)
        refine ⟨(σ, τ, σ 110 v, nI u), rfl, rfl, ⟨zi (by omega), by rw [nI_clamp (by omega)]; exact hq⟩, ?_⟩
        try dsimp only [cond_true, cond_false]
        repeat (first
          | (conv => whnf
             try dsimp only
             try simp (decide := true) only [nI_clamp (show v < 2 ^ 31 by omega), zu_same, zu_ne1, zu_ne2, zu_row, zuL_same, zuL_ne1, zuL_ne2, zrow_n1, zx0, zx1, zx2, zx3, nI_1, Nat.reduceAdd, Nat.reduceMul, Int32.reduceAdd, Int32.reduceSub, Int32.reduceMul]
             first
             | refine ⟨vp_inb (by decide), ?_⟩
             | refine ⟨by with_reducible exact zi (by omega), ?_⟩
             | refine ⟨fun h => absurd h (by with_reducible exact nI_ge (by omega) (by omega)), fun _ => ?_⟩
             | refine ⟨fun _ => ?_, fun h => absurd (by with_reducible exact nI_le (by omega) (by omega)) h⟩
             | refine ⟨fun h => absurd h (by with_reducible exact nI_nlt (by omega) (by omega)), fun _ => ?_⟩
             | refine ⟨fun _ => ?_, fun h => absurd (by with_reducible exact nI_lt (by omega) (by omega)) h⟩
             | refine ⟨fun h => absurd h (by with_reducible exact nI_pos (by omega)), fun _ => ?_⟩
             | refine ⟨fun _ => ?_, fun h => absurd (by with_reducible exact nI_0le (by omega)) h⟩
             | refine ⟨fun h => absurd h (by decide), fun _ => ?_⟩
             | refine ⟨fun _ => ?_, fun h => absurd (by decide) h⟩
             | refine ⟨fun _ => ?_, fun h => absurd h (by decide)⟩
             | refine ⟨fun h => absurd (by decide) h, fun _ => ?_⟩
             | refine ⟨by decide, ?_⟩
             | refine ⟨rfl, ?_⟩)
          | (conv => whnf
             fail_if_success refine Exists.intro ?_ ?_
             simp only [nI_clamp (show v < 2 ^ 31 by omega)]))
        try (conv => whnf)
        refine hK _ _ ⟨rfl, _, rfl, fun r h1 h2 => zu_row h2, ?_⟩
        rw [zu_row_eq]
        funext w
        try dsimp only [cond_true, cond_false]
        rw [if_pos hc, hu]
        rfl
      · rw [if_neg (show ¬ σ 88 (nI v).toNatClampNeg < 0 by rw [nI_clamp (by omega)]; exact hc)]
        obtain ⟨g9, hg9, hg60⟩ := hfo v (by omega) hc
        repeat (first
          | (conv => whnf
             try dsimp only
             try simp (decide := true) only [hg9, nI_clamp (show v < 2 ^ 31 by omega), zu_same, zu_ne1, zu_ne2, zu_row, zuL_same, zuL_ne1, zuL_ne2, zrow_n1, zx0, zx1, zx2, zx3, nI_1, Nat.reduceAdd, Nat.reduceMul, Int32.reduceAdd, Int32.reduceSub, Int32.reduceMul]
             first
             | refine ⟨vp_inb (by decide), ?_⟩
             | refine ⟨by with_reducible exact zi (by omega), ?_⟩
             | refine ⟨fun h => absurd h (by with_reducible exact nI_ge (by omega) (by omega)), fun _ => ?_⟩
             | refine ⟨fun _ => ?_, fun h => absurd (by with_reducible exact nI_le (by omega) (by omega)) h⟩
             | refine ⟨fun h => absurd h (by with_reducible exact nI_nlt (by omega) (by omega)), fun _ => ?_⟩
             | refine ⟨fun _ => ?_, fun h => absurd (by with_reducible exact nI_lt (by omega) (by omega)) h⟩
             | refine ⟨fun h => absurd h (by with_reducible exact nI_pos (by omega)), fun _ => ?_⟩
             | refine ⟨fun _ => ?_, fun h => absurd (by with_reducible exact nI_0le (by omega)) h⟩
             | refine ⟨fun h => absurd h (by decide), fun _ => ?_⟩
             | refine ⟨fun _ => ?_, fun h => absurd (by decide) h⟩
             | refine ⟨fun _ => ?_, fun h => absurd h (by decide)⟩
             | refine ⟨fun h => absurd (by decide) h, fun _ => ?_⟩
             | refine ⟨by decide, ?_⟩
             | refine ⟨rfl, ?_⟩)
          | (conv => whnf
             fail_if_success refine Exists.intro ?_ ?_
             simp only [hg9, nI_clamp (show v < 2 ^ 31 by omega)]))
        try (conv => whnf)
        refine ⟨(false, σ, τ, g9), rfl, rfl, ⟨by omega, hin g9 hg60⟩, ?_⟩
        try dsimp only [cond_true, cond_false]
        rintro _ _ ⟨rfl, w, rfl⟩
        repeat (first
          | (conv => whnf
             try dsimp only
             try simp (decide := true) only [nI_clamp (show v < 2 ^ 31 by omega), zu_same, zu_ne1, zu_ne2, zu_row, zuL_same, zuL_ne1, zuL_ne2, zrow_n1, zx0, zx1, zx2, zx3, nI_1, Nat.reduceAdd, Nat.reduceMul, Int32.reduceAdd, Int32.reduceSub, Int32.reduceMul]
             first
             | refine ⟨vp_inb (by decide), ?_⟩
             | refine ⟨by with_reducible exact zi (by omega), ?_⟩
             | refine ⟨fun h => absurd h (by with_reducible exact nI_ge (by omega) (by omega)), fun _ => ?_⟩
             | refine ⟨fun _ => ?_, fun h => absurd (by with_reducible exact nI_le (by omega) (by omega)) h⟩
             | refine ⟨fun h => absurd h (by with_reducible exact nI_nlt (by omega) (by omega)), fun _ => ?_⟩
             | refine ⟨fun _ => ?_, fun h => absurd (by with_reducible exact nI_lt (by omega) (by omega)) h⟩
             | refine ⟨fun h => absurd h (by with_reducible exact nI_pos (by omega)), fun _ => ?_⟩
             | refine ⟨fun _ => ?_, fun h => absurd (by with_reducible exact nI_0le (by omega)) h⟩
             | refine ⟨fun h => absurd h (by decide), fun _ => ?_⟩
             | refine ⟨fun _ => ?_, fun h => absurd (by decide) h⟩
             | refine ⟨fun _ => ?_, fun h => absurd h (by decide)⟩
             | refine ⟨fun h => absurd (by decide) h, fun _ => ?_⟩
             | refine ⟨by decide, ?_⟩
             | refine ⟨rfl, ?_⟩)
          | (conv => whnf
             fail_if_success refine Exists.intro ?_ ?_
             simp only [nI_clamp (show v < 2 ^ 31 by omega)]))
        try (conv => whnf)
        refine hK _ _ ⟨rfl, _, rfl, fun r h1 h2 => by rw [zu_row h2, zrow_ne h1], ?_⟩
        rw [zu_row_eq]
        funext w
        try dsimp only [cond_true, cond_false]
        rw [if_neg hc, hg9, nI_clamp (by omega)]
        rfl
    · try dsimp only [cond_true, cond_false] at *
      refine hG 100 _ _ _ _ _ ?_
      repeat (conv => whnf
              try dsimp only
              try simp (decide := true) only [zu_same, zu_ne1, zu_ne2, zu_row, zuL_same, zuL_ne1, zuL_ne2, zrow_n1, zx0, zx1, zx2, zx3, nI_1, Nat.reduceAdd, Nat.reduceMul, Int32.reduceAdd, Int32.reduceSub, Int32.reduceMul]
              first
              | refine ⟨vp_inb (by decide), ?_⟩
              | refine ⟨by with_reducible exact zi (by omega), ?_⟩
              | refine ⟨fun h => absurd h (by with_reducible exact nI_ge (by omega) (by omega)), fun _ => ?_⟩
              | refine ⟨fun _ => ?_, fun h => absurd (by with_reducible exact nI_le (by omega) (by omega)) h⟩
              | refine ⟨fun h => absurd h (by with_reducible exact nI_nlt (by omega) (by omega)), fun _ => ?_⟩
              | refine ⟨fun _ => ?_, fun h => absurd (by with_reducible exact nI_lt (by omega) (by omega)) h⟩
              | refine ⟨fun h => absurd h (by with_reducible exact nI_pos (by omega)), fun _ => ?_⟩
              | refine ⟨fun _ => ?_, fun h => absurd (by with_reducible exact nI_0le (by omega)) h⟩
              | refine ⟨fun h => absurd h (by decide), fun _ => ?_⟩
              | refine ⟨fun _ => ?_, fun h => absurd (by decide) h⟩
              | refine ⟨fun _ => ?_, fun h => absurd h (by decide)⟩
              | refine ⟨fun h => absurd (by decide) h, fun _ => ?_⟩
              | refine ⟨by decide, ?_⟩
              | refine ⟨rfl, ?_⟩)
      try (conv => whnf)
      refine ⟨(σ, τ, nI v), rfl, rfl, zi (by omega), ?_⟩
      try dsimp only [cond_true, cond_false]
      by_cases hc : σ 88 v < 0
      · rw [if_pos (show σ 88 (nI v).toNatClampNeg < 0 by rw [nI_clamp (by omega)]; exact hc)]
        repeat (first
          | (conv => whnf
             try dsimp only
             try simp (decide := true) only [hu, nI_clamp (show v < 2 ^ 31 by omega), zu_same, zu_ne1, zu_ne2, zu_row, zuL_same, zuL_ne1, zuL_ne2, zrow_n1, zx0, zx1, zx2, zx3, nI_1, Nat.reduceAdd, Nat.reduceMul, Int32.reduceAdd, Int32.reduceSub, Int32.reduceMul]
             first
             | refine ⟨vp_inb (by decide), ?_⟩
             | refine ⟨by with_reducible exact zi (by omega), ?_⟩
             | refine ⟨fun h => absurd h (by with_reducible exact nI_ge (by omega) (by omega)), fun _ => ?_⟩
             | refine ⟨fun _ => ?_, fun h => absurd (by with_reducible exact nI_le (by omega) (by omega)) h⟩
             | refine ⟨fun h => absurd h (by with_reducible exact nI_nlt (by omega) (by omega)), fun _ => ?_⟩
             | refine ⟨fun _ => ?_, fun h => absurd (by with_reducible exact nI_lt (by omega) (by omega)) h⟩
             | refine ⟨fun h => absurd h (by with_reducible exact nI_pos (by omega)), fun _ => ?_⟩
             | refine ⟨fun _ => ?_, fun h => absurd (by with_reducible exact nI_0le (by omega)) h⟩
             | refine ⟨fun h => absurd h (by decide), fun _ => ?_⟩
             | refine ⟨fun _ => ?_, fun h => absurd (by decide) h⟩
             | refine ⟨fun _ => ?_, fun h => absurd h (by decide)⟩
             | refine ⟨fun h => absurd (by decide) h, fun _ => ?_⟩
             | refine ⟨by decide, ?_⟩
             | refine ⟨rfl, ?_⟩)
          | (conv => whnf
             fail_if_success refine Exists.intro ?_ ?_
             simp only [hu, nI_clamp (show v < 2 ^ 31 by omega)]))
        try (conv => whnf)
        refine ⟨(σ, τ, σ 89 v, nI u), rfl, rfl, ⟨zi (by omega), by rw [nI_clamp (by omega)]; exact hq⟩, ?_⟩
        try dsimp only [cond_true, cond_false]
        repeat (first
          | (conv => whnf
             try dsimp only
             try simp (decide := true) only [nI_clamp (show v < 2 ^ 31 by omega), zu_same, zu_ne1, zu_ne2, zu_row, zuL_same, zuL_ne1, zuL_ne2, zrow_n1, zx0, zx1, zx2, zx3, nI_1, Nat.reduceAdd, Nat.reduceMul, Int32.reduceAdd, Int32.reduceSub, Int32.reduceMul]
             first
             | refine ⟨vp_inb (by decide), ?_⟩
             | refine ⟨by with_reducible exact zi (by omega), ?_⟩
             | refine ⟨fun h => absurd h (by with_reducible exact nI_ge (by omega) (by omega)), fun _ => ?_⟩
             | refine ⟨fun _ => ?_, fun h => absurd (by with_reducible exact nI_le (by omega) (by omega)) h⟩
             | refine ⟨fun h => absurd h (by with_reducible exact nI_nlt (by omega) (by omega)), fun _ => ?_⟩
             | refine ⟨fun _ => ?_, fun h => absurd (by with_reducible exact nI_lt (by omega) (by omega)) h⟩
             | refine ⟨fun h => absurd h (by with_reducible exact nI_pos (by omega)), fun _ => ?_⟩
             | refine ⟨fun _ => ?_, fun h => absurd (by with_reducible exact nI_0le (by omega)) h⟩
             | refine ⟨fun h => absurd h (by decide), fun _ => ?_⟩
             | refine ⟨fun _ => ?_, fun h => absurd (by decide) h⟩
             | refine ⟨fun _ => ?_, fun h => absurd h (by decide)⟩
             | refine ⟨fun h => absurd (by decide) h, fun _ => ?_⟩
             | refine ⟨by decide, ?_⟩
             | refine ⟨rfl, ?_⟩)
          | (conv => whnf
             fail_if_success refine Exists.intro ?_ ?_
             simp only [nI_clamp (show v < 2 ^ 31 by omega)]))
        try (conv => whnf)
        refine hK _ _ ⟨rfl, _, rfl, fun r h1 h2 => zu_row h2, ?_⟩
        rw [zu_row_eq]
        funext w
        try dsimp only [cond_true, cond_false]
        rw [if_pos hc, hu]
        rfl
      · rw [if_neg (show ¬ σ 88 (nI v).toNatClampNeg < 0 by rw [nI_clamp (by omega)]; exact hc)]
        obtain ⟨g9, hg9, hg60⟩ := hfo v (by omega) hc
        repeat (first
          | (conv => whnf
             try dsimp only
             try simp (decide := true) only [hg9, nI_clamp (show v < 2 ^ 31 by omega), zu_same, zu_ne1, zu_ne2, zu_row, zuL_same, zuL_ne1, zuL_ne2, zrow_n1, zx0, zx1, zx2, zx3, nI_1, Nat.reduceAdd, Nat.reduceMul, Int32.reduceAdd, Int32.reduceSub, Int32.reduceMul]
             first
             | refine ⟨vp_inb (by decide), ?_⟩
             | refine ⟨by with_reducible exact zi (by omega), ?_⟩
             | refine ⟨fun h => absurd h (by with_reducible exact nI_ge (by omega) (by omega)), fun _ => ?_⟩
             | refine ⟨fun _ => ?_, fun h => absurd (by with_reducible exact nI_le (by omega) (by omega)) h⟩
             | refine ⟨fun h => absurd h (by with_reducible exact nI_nlt (by omega) (by omega)), fun _ => ?_⟩
             | refine ⟨fun _ => ?_, fun h => absurd (by with_reducible exact nI_lt (by omega) (by omega)) h⟩
             | refine ⟨fun h => absurd h (by with_reducible exact nI_pos (by omega)), fun _ => ?_⟩
             | refine ⟨fun _ => ?_, fun h => absurd (by with_reducible exact nI_0le (by omega)) h⟩
             | refine ⟨fun h => absurd h (by decide), fun _ => ?_⟩
             | refine ⟨fun _ => ?_, fun h => absurd (by decide) h⟩
             | refine ⟨fun _ => ?_, fun h => absurd h (by decide)⟩
             | refine ⟨fun h => absurd (by decide) h, fun _ => ?_⟩
             | refine ⟨by decide, ?_⟩
             | refine ⟨rfl, ?_⟩)
          | (conv => whnf
             fail_if_success refine Exists.intro ?_ ?_
             simp only [hg9, nI_clamp (show v < 2 ^ 31 by omega)]))
        try (conv => whnf)
        refine ⟨(true, σ, τ, g9), rfl, rfl, ⟨by omega, hin g9 hg60⟩, ?_⟩
        try dsimp only [cond_true, cond_false]
        rintro _ _ ⟨rfl, w, rfl⟩
        repeat (first
          | (conv => whnf
             try dsimp only
             try simp (decide := true) only [nI_clamp (show v < 2 ^ 31 by omega), zu_same, zu_ne1, zu_ne2, zu_row, zuL_same, zuL_ne1, zuL_ne2, zrow_n1, zx0, zx1, zx2, zx3, nI_1, Nat.reduceAdd, Nat.reduceMul, Int32.reduceAdd, Int32.reduceSub, Int32.reduceMul]
             first
             | refine ⟨vp_inb (by decide), ?_⟩
             | refine ⟨by with_reducible exact zi (by omega), ?_⟩
             | refine ⟨fun h => absurd h (by with_reducible exact nI_ge (by omega) (by omega)), fun _ => ?_⟩
             | refine ⟨fun _ => ?_, fun h => absurd (by with_reducible exact nI_le (by omega) (by omega)) h⟩
             | refine ⟨fun h => absurd h (by with_reducible exact nI_nlt (by omega) (by omega)), fun _ => ?_⟩
             | refine ⟨fun _ => ?_, fun h => absurd (by with_reducible exact nI_lt (by omega) (by omega)) h⟩
             | refine ⟨fun h => absurd h (by with_reducible exact nI_pos (by omega)), fun _ => ?_⟩
             | refine ⟨fun _ => ?_, fun h => absurd (by with_reducible exact nI_0le (by omega)) h⟩
             | refine ⟨fun h => absurd h (by decide), fun _ => ?_⟩
             | refine ⟨fun _ => ?_, fun h => absurd (by decide) h⟩
             | refine ⟨fun _ => ?_, fun h => absurd h (by decide)⟩
             | refine ⟨fun h => absurd (by decide) h, fun _ => ?_⟩
             | refine ⟨by decide, ?_⟩
             | refine ⟨rfl, ?_⟩)
          | (conv => whnf
             fail_if_success refine Exists.intro ?_ ?_
             simp only [nI_clamp (show v < 2 ^ 31 by omega)]))
        try (conv => whnf)
        refine hK _ _ ⟨rfl, _, rfl, fun r h1 h2 => by rw [zu_row h2, zrow_ne h1], ?_⟩
        rw [zu_row_eq]
        funext w
        try dsimp only [cond_true, cond_false]
        rw [if_neg hc, hg9, nI_clamp (by omega)]
        rfl
theorem nI40 : (40 : Int32) = nI 40 := rfl
def spX4_solveRound : zSp := zDQ (X := Bool × zIn × zLo × Nat × Nat × Nat × Int32) (fun x => match x with | (b, σ, τ, n, pc, k, m) => [.ref 100, .int (nI k), .ref (cond b 102 106)]) (fun x => match x with | (b, σ, τ, n, pc, k, m) => (119, zSH, zRH, σ, τ)) (fun x => match x with | (b, σ, τ, n, pc, k, m) => cTu σ τ n pc ∧ (∀ u, u < n → kb (σ (cond b 103 107) u)) ∧ k < 16 ∧ σ 97 k = m ∧ σ (cond b 105 109) k = 0) (fun x r9 μ9 => match x with | (b, σ, τ, n, pc, k, m) => r9 = none ∧ ∃ σ1 : zIn, μ9 = (119, zSH, zRH, σ1, τ) ∧ (∀ r, r ≠ 101 → r ≠ cond b 103 107 → r ≠ cond b 104 108 → r ≠ cond b 105 109 → σ1 r = σ r) ∧ (∀ j, j ≠ k → σ1 (cond b 104 108) j = σ (cond b 104 108) j ∧ σ1 (cond b 105 109) j = σ (cond b 105 109) j) ∧ σ1 (cond b 103 107) = (pLo (zPT σ) (σ 88) (σ 100 7) (σ 100 6) n m 40 1 (pSet n m 0 (σ (cond b 103 107)))).1 ∧ σ1 (cond b 104 108) k = (pLo (zPT σ) (σ 88) (σ 100 7) (σ 100 6) n m 40 1 (pSet n m 0 (σ (cond b 103 107)))).2.1 ∧ σ1 (cond b 105 109) k = (pLo (zPT σ) (σ 88) (σ 100 7) (σ 100 6) n m 40 1 (pSet n m 0 (σ (cond b 103 107)))).2.2)
abbrev rmX4_solveRound : Room := ({ frames := 4, cells := 0, slots := 0, locals := 102 } : Room)
set_option maxRecDepth 100000 in
set_option maxHeartbeats 4000000 in
theorem ctX4_solveRound (l : Launch) (D : va_G) (cA : Nat → ClassId) : zCt false l D cA yX4_solveRound cX4_solveRound 6 (none) rmX4_solveRound spX4_solveRound := by
  refine zct_Q (zCX4_solveRound [(65, 0, 3, spX4_setAll, rmX4_setAll.cells, rmX4_setAll.slots), (110, 0, 2, spX4_makeTurn, rmX4_makeTurn.cells, rmX4_makeTurn.slots)]) zpX4_solveRound [23] (by decide +kernel) zkX4_solveRound (Or.inr (by decide +kernel)) trivial ⟨by decide +kernel, by decide +kernel⟩ (fun x ad => Nat.le_of_ble_eq_true rfl) ?_ ?_
  · intro p e s m args below meth c A H0 ad0 n0 Q F hml hNw hA hX
    exact ⟨zco_V hX hA F hml hNw (ctX4_setAll l D cA) ⟨⟨zlX4_solveRound_65, zwX4_setAll.1.1, zwX4_setAll.1.2⟩, zwX4_setAll.2⟩ zdX4_setAll ⟨Nat.le_of_ble_eq_true rfl, Nat.le_of_ble_eq_true rfl⟩ (ci := 4) (by decide) rfl (by rintro av μ K ⟨x, rfl, rfl, -⟩; exact ⟨_, _, rfl, rfl⟩), zco_V hX hA F hml hNw (ctX4_makeTurn l D cA) ⟨⟨zlX4_solveRound_110, zwX4_makeTurn.1.1, zwX4_makeTurn.1.2⟩, zwX4_makeTurn.2⟩ zdX4_makeTurn ⟨Nat.le_of_ble_eq_true rfl, Nat.le_of_ble_eq_true rfl⟩ (ci := 4) (by decide) rfl (by rintro av μ K ⟨x, rfl, rfl, -⟩; exact ⟨_, _, rfl, rfl⟩), trivial⟩
  · rintro ⟨b, σ, τ, n, pc, k, m⟩ Ret hP hK Gl hG
    try dsimp only at hP hK
    show Gl 0 (zent 6 [.ref 100, .int (nI k), .ref (cond b 102 106)]) [] (0, 0) ((119, zSH, zRH, σ, τ))
    obtain ⟨hTu, hkb, hk, hm, hop⟩ := hP
    obtain ⟨hn, h16, hp60, hnu, hfo, hin⟩ := id hTu
    cases b
    · try dsimp only [cond_true, cond_false] at *
      try dsimp only [cond_true, cond_false] at *
      generalize hX : pLo (zPT σ) (σ 88) (σ 100 7) (σ 100 6) n m 40 1 (pSet n m 0 (σ 107)) = X at hK
      have loop : ∀ (r : Nat) (A : Nat → Int32) (σ1 : zIn) (l5 : Option Value), r ≤ 40 → pLo (zPT σ) (σ 88) (σ 100 7) (σ 100 6) n m r (nI (41 - r)) A = X → σ1 107 = A → (∀ u, u < n → kb (A u)) → (∀ u, u < n → bt m u = true → kp (A u)) → (r = 0 → σ1 108 k = nI 40) → σ1 109 k = 0 → (∀ r, r ≠ 101 → r ≠ 107 → r ≠ 108 → r ≠ 109 → σ1 r = σ r) → (∀ j, j ≠ k → σ1 108 j = σ 108 j ∧ σ1 109 j = σ 109 j) → Gl 23 [some (.ref 100), some (.int (nI k)), some (.ref 106), some (.int m), some (.int (nI (41 - r))), l5] [] (0, 0) (119, zSH, zRH, σ1, τ) := by
        intro r
        induction r with
        | zero =>
          intro A σ1 l5 hr hX1 hA ha hb ht ho hfr hj
          refine hG 100 _ _ _ _ _ ?_
          repeat (first
            | (conv => whnf
               try dsimp only
               try simp (decide := true) only [nI40, nI_clamp (show k < 2 ^ 31 by omega), zu_same, zu_ne1, zu_ne2, zu_row, zuL_same, zuL_ne1, zuL_ne2, zrow_n1, zx0, zx1, zx2, zx3, nI_1, Nat.reduceAdd, Nat.reduceMul, Int32.reduceAdd, Int32.reduceSub, Int32.reduceMul]
               first
               | refine ⟨vp_inb (by decide), ?_⟩
               | refine ⟨by with_reducible exact zi (by omega), ?_⟩
               | refine ⟨fun h => absurd h (by with_reducible exact nI_ge (by omega) (by omega)), fun _ => ?_⟩
               | refine ⟨fun _ => ?_, fun h => absurd (by with_reducible exact nI_le (by omega) (by omega)) h⟩
               | refine ⟨fun h => absurd h (by with_reducible exact nI_nlt (by omega) (by omega)), fun _ => ?_⟩
               | refine ⟨fun _ => ?_, fun h => absurd (by with_reducible exact nI_lt (by omega) (by omega)) h⟩
               | refine ⟨fun h => absurd h (by with_reducible exact nI_pos (by omega)), fun _ => ?_⟩
               | refine ⟨fun _ => ?_, fun h => absurd (by with_reducible exact nI_0le (by omega)) h⟩
               | refine ⟨fun h => absurd h (by decide), fun _ => ?_⟩
               | refine ⟨fun _ => ?_, fun h => absurd (by decide) h⟩
               | refine ⟨fun _ => ?_, fun h => absurd h (by decide)⟩
               | refine ⟨fun h => absurd (by decide) h, fun _ => ?_⟩
               | refine ⟨by decide, ?_⟩
               | refine ⟨rfl, ?_⟩)
            | (conv => whnf
               fail_if_success refine Exists.intro ?_ ?_
               simp only [nI40, nI_clamp (show k < 2 ^ 31 by omega)]))
          try (conv => whnf)
          rw [← hX1] at hK
          refine hK _ _ ⟨rfl, _, rfl, fun r h1 h2 h3 h4 => by rw [zu_row h4]; exact hfr r h1 h2 h3 h4, fun j hjk => ⟨?_, ?_⟩, ?_, ?_, ?_⟩
          · rw [zu_ne1 (by decide)]
            exact (hj j hjk).1
          · rw [zu_ne2 hjk]
            exact (hj j hjk).2
          · rw [zu_row (by decide)]
            exact hA
          · rw [zu_ne1 (by decide), ht rfl]
            exact (nI_pred 40).symm
          · exact zu_same
        | succ r ih =>
          intro A σ1 l5 hr hX1 hA ha hb ht ho hfr hj
          rw [show 41 - (r + 1) = 40 - r by omega] at hX1 ⊢
          have hlo : ∀ r, r < 101 → zu σ1 108 k (nI (40 - r)) r = σ r := fun r h => by
            rw [zu_row (by omega)]
            exact hfr r (by omega) (by omega) (by omega) (by omega)
          have hlo : ∀ x, ∀ r, r < 101 → zu σ1 108 k x r = σ r := fun x r h => by
            rw [zu_row (by omega)]
            exact hfr r (by omega) (by omega) (by omega) (by omega)
          have hAM : ∀ x, zu σ1 108 k x 107 = A := fun x => by
            rw [zu_row (by decide)]
            exact hA
          refine hG 100 _ _ _ _ _ ?_
          repeat (first
            | (conv => whnf
               try dsimp only
               try simp (decide := true) only [nI40, nI_clamp (show k < 2 ^ 31 by omega), zu_same, zu_ne1, zu_ne2, zu_row, zuL_same, zuL_ne1, zuL_ne2, zrow_n1, zx0, zx1, zx2, zx3, nI_1, Nat.reduceAdd, Nat.reduceMul, Int32.reduceAdd, Int32.reduceSub, Int32.reduceMul]
               first
               | refine ⟨vp_inb (by decide), ?_⟩
               | refine ⟨by with_reducible exact zi (by omega), ?_⟩
               | refine ⟨fun h => absurd h (by with_reducible exact nI_ge (by omega) (by omega)), fun _ => ?_⟩
               | refine ⟨fun _ => ?_, fun h => absurd (by with_reducible exact nI_le (by omega) (by omega)) h⟩
               | refine ⟨fun h => absurd h (by with_reducible exact nI_nlt (by omega) (by omega)), fun _ => ?_⟩
               | refine ⟨fun _ => ?_, fun h => absurd (by with_reducible exact nI_lt (by omega) (by omega)) h⟩
               | refine ⟨fun h => absurd h (by with_reducible exact nI_pos (by omega)), fun _ => ?_⟩
               | refine ⟨fun _ => ?_, fun h => absurd (by with_reducible exact nI_0le (by omega)) h⟩
               | refine ⟨fun h => absurd h (by decide), fun _ => ?_⟩
               | refine ⟨fun _ => ?_, fun h => absurd (by decide) h⟩
               | refine ⟨fun _ => ?_, fun h => absurd h (by decide)⟩
               | refine ⟨fun h => absurd (by decide) h, fun _ => ?_⟩
               | refine ⟨by decide, ?_⟩
               | refine ⟨rfl, ?_⟩)
            | (conv => whnf
               fail_if_success refine Exists.intro ?_ ?_
               simp only [nI40, nI_clamp (show k < 2 ^ 31 by omega)]))
          try (conv => whnf)
          refine ⟨(false, zu σ1 108 k (nI (40 - r)), τ, n, pc, m), rfl, rfl, ⟨cTu_cg (hlo _) hTu, (by (try dsimp only [cond_true, cond_false]); rw [hAM]; exact ha), (by (try dsimp only [cond_true, cond_false]); rw [hAM]; exact hb)⟩, ?_⟩
          try dsimp only [cond_true, cond_false]
          try dsimp only [cond_true, cond_false]
          rw [zPT_cg (fun r _ h2 => hlo _ r (by omega)), hlo _ 88 (by decide), hlo _ 100 (by decide), hAM]
          rintro _ _ (⟨hM, rfl, σ2, rfl, hfr2, hB⟩ | ⟨g, B, hM, rfl, σ2, rfl, hfr2, hB⟩)
          · skip
            repeat (first
              | (conv => whnf
                 try dsimp only
                 try simp (decide := true) only [nI40, zu_same, zu_ne1, zu_ne2, zu_row, zuL_same, zuL_ne1, zuL_ne2, zrow_n1, zx0, zx1, zx2, zx3, nI_1, Nat.reduceAdd, Nat.reduceMul, Int32.reduceAdd, Int32.reduceSub, Int32.reduceMul]
                 first
                 | refine ⟨vp_inb (by decide), ?_⟩
                 | refine ⟨by with_reducible exact zi (by omega), ?_⟩
                 | refine ⟨fun h => absurd h (by with_reducible exact nI_ge (by omega) (by omega)), fun _ => ?_⟩
                 | refine ⟨fun _ => ?_, fun h => absurd (by with_reducible exact nI_le (by omega) (by omega)) h⟩
                 | refine ⟨fun h => absurd h (by with_reducible exact nI_nlt (by omega) (by omega)), fun _ => ?_⟩
                 | refine ⟨fun _ => ?_, fun h => absurd (by with_reducible exact nI_lt (by omega) (by omega)) h⟩
                 | refine ⟨fun h => absurd h (by with_reducible exact nI_pos (by omega)), fun _ => ?_⟩
                 | refine ⟨fun _ => ?_, fun h => absurd (by with_reducible exact nI_0le (by omega)) h⟩
                 | refine ⟨fun h => absurd h (by decide), fun _ => ?_⟩
                 | refine ⟨fun _ => ?_, fun h => absurd (by decide) h⟩
                 | refine ⟨fun _ => ?_, fun h => absurd h (by decide)⟩
                 | refine ⟨fun h => absurd (by decide) h, fun _ => ?_⟩
                 | refine ⟨by decide, ?_⟩
                 | refine ⟨rfl, ?_⟩)
              | (conv => whnf
                 fail_if_success refine Exists.intro ?_ ?_
                 simp only [nI40]))
            try (conv => whnf)
            refine ⟨(false, σ2, τ, n, m, zBRK), rfl, rfl, ⟨by rw [hfr2 86 (by decide) (by decide), hlo _ 86 (by decide)]; exact hn, h16⟩, ?_⟩
            try dsimp only [cond_true, cond_false]
            repeat (conv => whnf
                    try dsimp only
                    try simp (decide := true) only [zu_same, zu_ne1, zu_ne2, zu_row, zuL_same, zuL_ne1, zuL_ne2, zrow_n1, zx0, zx1, zx2, zx3, nI_1, Nat.reduceAdd, Nat.reduceMul, Int32.reduceAdd, Int32.reduceSub, Int32.reduceMul]
                    first
                    | refine ⟨vp_inb (by decide), ?_⟩
                    | refine ⟨by with_reducible exact zi (by omega), ?_⟩
                    | refine ⟨fun h => absurd h (by with_reducible exact nI_ge (by omega) (by omega)), fun _ => ?_⟩
                    | refine ⟨fun _ => ?_, fun h => absurd (by with_reducible exact nI_le (by omega) (by omega)) h⟩
                    | refine ⟨fun h => absurd h (by with_reducible exact nI_nlt (by omega) (by omega)), fun _ => ?_⟩
                    | refine ⟨fun _ => ?_, fun h => absurd (by with_reducible exact nI_lt (by omega) (by omega)) h⟩
                    | refine ⟨fun h => absurd h (by with_reducible exact nI_pos (by omega)), fun _ => ?_⟩
                    | refine ⟨fun _ => ?_, fun h => absurd (by with_reducible exact nI_0le (by omega)) h⟩
                    | refine ⟨fun h => absurd h (by decide), fun _ => ?_⟩
                    | refine ⟨fun _ => ?_, fun h => absurd (by decide) h⟩
                    | refine ⟨fun _ => ?_, fun h => absurd h (by decide)⟩
                    | refine ⟨fun h => absurd (by decide) h, fun _ => ?_⟩
                    | refine ⟨by decide, ?_⟩
                    | refine ⟨rfl, ?_⟩)
            try (conv => whnf)
            rw [show pLo (zPT σ) (σ 88) (σ 100 7) (σ 100 6) n m (r + 1) (nI (40 - r)) A = (pSet n m zBRK A, nI (40 - r), 0) by
              show (match pMt (zPT σ) (σ 88) (σ 100 7) m A n with
                | none => _
                | some (g, B) => _) = _
              rw [hM]] at hX1
            rw [← hX1] at hK
            refine hK _ _ ⟨rfl, _, rfl, fun r h1 h2 h3 h4 => by rw [zrow_ne h2, hfr2 r h1 h2, zu_row h3]; exact hfr r h1 h2 h3 h4, fun j hjk => ⟨?_, ?_⟩, ?_, ?_, ?_⟩
            · rw [zrow_n1 (by decide), hfr2 _ (by decide) (by decide), zu_ne2 hjk]
              exact (hj j hjk).1
            · rw [zrow_n1 (by decide), hfr2 _ (by decide) (by decide), zu_ne1 (by decide)]
              exact (hj j hjk).2
            · rw [zrow_self]
              funext u
              show pSet n m zBRK (σ2 107) u = pSet n m zBRK A u
              unfold pSet
              by_cases hc : u < n ∧ bt m u = true
              · rw [if_pos hc, if_pos hc]
              · rw [if_neg hc, if_neg hc]
                exact hB u hc
            · rw [zrow_n1 (by decide), hfr2 _ (by decide) (by decide)]
              exact zu_same
            · rw [zrow_n1 (by decide), hfr2 _ (by decide) (by decide), zu_ne1 (by decide)]
              exact ho
          · have hgb := pMt_nb (G := zMG σ) hnu ha hb hM
            have h100 : σ2 100 6 = σ 100 6 := by rw [hfr2 100 (by decide) (by decide), hlo _ 100 (by decide)]
            have hfrn : ∀ r, r ≠ 101 → r ≠ 107 → r ≠ 108 → r ≠ 109 → σ2 r = σ r := fun r h1 h2 h3 h4 => by rw [hfr2 r h1 h2, zu_row h3]; exact hfr r h1 h2 h3 h4
            have hjn : ∀ j, j ≠ k → σ2 108 j = σ 108 j ∧ σ2 109 j = σ 109 j := fun j hjk => by
              rw [hfr2 _ (by decide) (by decide), hfr2 _ (by decide) (by decide), zu_ne2 hjk, zu_ne1 (by decide)]
              exact hj j hjk
            have htn : σ2 108 k = nI (40 - r) := by rw [hfr2 _ (by decide) (by decide)]; exact zu_same
            have hon : σ2 109 k = 0 := by rw [hfr2 _ (by decide) (by decide), zu_ne1 (by decide)]; exact ho
            have hX2 : pLo (zPT σ) (σ 88) (σ 100 7) (σ 100 6) n m (r + 1) (nI (40 - r)) A = if g ≤ σ 100 6 then (B, nI (40 - r), 0) else pLo (zPT σ) (σ 88) (σ 100 7) (σ 100 6) n m r (nI (40 - r) + 1) B := by
              show (match pMt (zPT σ) (σ 88) (σ 100 7) m A n with
                | none => _
                | some (g, B) => _) = _
              rw [hM]
            rw [hX2] at hX1
            repeat (first
              | (conv => whnf
                 try dsimp only
                 try simp (decide := true) only [nI40, zu_same, zu_ne1, zu_ne2, zu_row, zuL_same, zuL_ne1, zuL_ne2, zrow_n1, zx0, zx1, zx2, zx3, nI_1, Nat.reduceAdd, Nat.reduceMul, Int32.reduceAdd, Int32.reduceSub, Int32.reduceMul]
                 first
                 | refine ⟨vp_inb (by decide), ?_⟩
                 | refine ⟨by with_reducible exact zi (by omega), ?_⟩
                 | refine ⟨fun h => absurd h (by with_reducible exact nI_ge (by omega) (by omega)), fun _ => ?_⟩
                 | refine ⟨fun _ => ?_, fun h => absurd (by with_reducible exact nI_le (by omega) (by omega)) h⟩
                 | refine ⟨fun h => absurd h (by with_reducible exact nI_nlt (by omega) (by omega)), fun _ => ?_⟩
                 | refine ⟨fun _ => ?_, fun h => absurd (by with_reducible exact nI_lt (by omega) (by omega)) h⟩
                 | refine ⟨fun h => absurd h (by with_reducible exact nI_pos (by omega)), fun _ => ?_⟩
                 | refine ⟨fun _ => ?_, fun h => absurd (by with_reducible exact nI_0le (by omega)) h⟩
                 | refine ⟨fun h => absurd h (by decide), fun _ => ?_⟩
                 | refine ⟨fun _ => ?_, fun h => absurd (by decide) h⟩
                 | refine ⟨fun _ => ?_, fun h => absurd h (by decide)⟩
                 | refine ⟨fun h => absurd (by decide) h, fun _ => ?_⟩
                 | refine ⟨by decide, ?_⟩
                 | refine ⟨rfl, ?_⟩)
              | (conv => whnf
                 fail_if_success refine Exists.intro ?_ ?_
                 simp only [nI40]))
            try (conv => whnf)
            refine ⟨fun _ => ?_, fun w => absurd w hgb⟩
            repeat (first
              | (conv => whnf
                 try dsimp only
                 try simp (decide := true) only [h100, zu_same, zu_ne1, zu_ne2, zu_row, zuL_same, zuL_ne1, zuL_ne2, zrow_n1, zx0, zx1, zx2, zx3, nI_1, Nat.reduceAdd, Nat.reduceMul, Int32.reduceAdd, Int32.reduceSub, Int32.reduceMul]
                 first
                 | refine ⟨vp_inb (by decide), ?_⟩
                 | refine ⟨by with_reducible exact zi (by omega), ?_⟩
                 | refine ⟨fun h => absurd h (by with_reducible exact nI_ge (by omega) (by omega)), fun _ => ?_⟩
                 | refine ⟨fun _ => ?_, fun h => absurd (by with_reducible exact nI_le (by omega) (by omega)) h⟩
                 | refine ⟨fun h => absurd h (by with_reducible exact nI_nlt (by omega) (by omega)), fun _ => ?_⟩
                 | refine ⟨fun _ => ?_, fun h => absurd (by with_reducible exact nI_lt (by omega) (by omega)) h⟩
                 | refine ⟨fun h => absurd h (by with_reducible exact nI_pos (by omega)), fun _ => ?_⟩
                 | refine ⟨fun _ => ?_, fun h => absurd (by with_reducible exact nI_0le (by omega)) h⟩
                 | refine ⟨fun h => absurd h (by decide), fun _ => ?_⟩
                 | refine ⟨fun _ => ?_, fun h => absurd (by decide) h⟩
                 | refine ⟨fun _ => ?_, fun h => absurd h (by decide)⟩
                 | refine ⟨fun h => absurd (by decide) h, fun _ => ?_⟩
                 | refine ⟨by decide, ?_⟩
                 | refine ⟨rfl, ?_⟩)
              | (conv => whnf
                 fail_if_success refine Exists.intro ?_ ?_
                 simp only [h100]))
            try (conv => whnf)
            refine ⟨fun hsl => ?_, fun hsl => ?_⟩
            · rw [if_neg (Int32.not_le.mpr hsl), nI_1, show 40 - r + 1 = 41 - r by omega] at hX1
              repeat (conv => whnf
                      try dsimp only
                      try simp (decide := true) only [zu_same, zu_ne1, zu_ne2, zu_row, zuL_same, zuL_ne1, zuL_ne2, zrow_n1, zx0, zx1, zx2, zx3, nI_1, Nat.reduceAdd, Nat.reduceMul, Int32.reduceAdd, Int32.reduceSub, Int32.reduceMul]
                      first
                      | refine ⟨vp_inb (by decide), ?_⟩
                      | refine ⟨by with_reducible exact zi (by omega), ?_⟩
                      | refine ⟨fun h => absurd h (by with_reducible exact nI_ge (by omega) (by omega)), fun _ => ?_⟩
                      | refine ⟨fun _ => ?_, fun h => absurd (by with_reducible exact nI_le (by omega) (by omega)) h⟩
                      | refine ⟨fun h => absurd h (by with_reducible exact nI_nlt (by omega) (by omega)), fun _ => ?_⟩
                      | refine ⟨fun _ => ?_, fun h => absurd (by with_reducible exact nI_lt (by omega) (by omega)) h⟩
                      | refine ⟨fun h => absurd h (by with_reducible exact nI_pos (by omega)), fun _ => ?_⟩
                      | refine ⟨fun _ => ?_, fun h => absurd (by with_reducible exact nI_0le (by omega)) h⟩
                      | refine ⟨fun h => absurd h (by decide), fun _ => ?_⟩
                      | refine ⟨fun _ => ?_, fun h => absurd (by decide) h⟩
                      | refine ⟨fun _ => ?_, fun h => absurd h (by decide)⟩
                      | refine ⟨fun h => absurd (by decide) h, fun _ => ?_⟩
                      | refine ⟨by decide, ?_⟩
                      | refine ⟨rfl, ?_⟩)
              try (conv => whnf)
              try dsimp only
              try simp (decide := true) only [zu_same, zu_ne1, zu_ne2, zu_row, zuL_same, zuL_ne1, zuL_ne2, zrow_n1, zx0, zx1, zx2, zx3, nI_1, Nat.reduceAdd, Nat.reduceMul, Int32.reduceAdd, Int32.reduceSub, Int32.reduceMul]
              rw [show 40 - r + 1 = 41 - r by omega]
              obtain ⟨i1, i2⟩ := pMt_kb (G := zMG σ) hnu ha hb n (Nat.le_refl n) g B hM
              exact ih B σ2 _ (by omega) hX1 hB i1 i2 (fun e => by rw [htn, e]) hon hfrn hjn
            · rw [if_pos (Int32.not_lt.mp hsl)] at hX1
              repeat (conv => whnf
                      try dsimp only
                      try simp (decide := true) only [zu_same, zu_ne1, zu_ne2, zu_row, zuL_same, zuL_ne1, zuL_ne2, zrow_n1, zx0, zx1, zx2, zx3, nI_1, Nat.reduceAdd, Nat.reduceMul, Int32.reduceAdd, Int32.reduceSub, Int32.reduceMul]
                      first
                      | refine ⟨vp_inb (by decide), ?_⟩
                      | refine ⟨by with_reducible exact zi (by omega), ?_⟩
                      | refine ⟨fun h => absurd h (by with_reducible exact nI_ge (by omega) (by omega)), fun _ => ?_⟩
                      | refine ⟨fun _ => ?_, fun h => absurd (by with_reducible exact nI_le (by omega) (by omega)) h⟩
                      | refine ⟨fun h => absurd h (by with_reducible exact nI_nlt (by omega) (by omega)), fun _ => ?_⟩
                      | refine ⟨fun _ => ?_, fun h => absurd (by with_reducible exact nI_lt (by omega) (by omega)) h⟩
                      | refine ⟨fun h => absurd h (by with_reducible exact nI_pos (by omega)), fun _ => ?_⟩
                      | refine ⟨fun _ => ?_, fun h => absurd (by with_reducible exact nI_0le (by omega)) h⟩
                      | refine ⟨fun h => absurd h (by decide), fun _ => ?_⟩
                      | refine ⟨fun _ => ?_, fun h => absurd (by decide) h⟩
                      | refine ⟨fun _ => ?_, fun h => absurd h (by decide)⟩
                      | refine ⟨fun h => absurd (by decide) h, fun _ => ?_⟩
                      | refine ⟨by decide, ?_⟩
                      | refine ⟨rfl, ?_⟩)
              try (conv => whnf)
              rw [← hX1] at hK
              exact hK _ _ ⟨rfl, σ2, rfl, hfrn, hjn, hB, htn, hon⟩
      refine hG 100 _ _ _ _ _ ?_
      repeat (first
        | (conv => whnf
           try dsimp only
           try simp (decide := true) only [hm, nI_clamp (show k < 2 ^ 31 by omega), zu_same, zu_ne1, zu_ne2, zu_row, zuL_same, zuL_ne1, zuL_ne2, zrow_n1, zx0, zx1, zx2, zx3, nI_1, Nat.reduceAdd, Nat.reduceMul, Int32.reduceAdd, Int32.reduceSub, Int32.reduceMul]
           first
           | refine ⟨vp_inb (by decide), ?_⟩
           | refine ⟨by with_reducible exact zi (by omega), ?_⟩
           | refine ⟨fun h => absurd h (by with_reducible exact nI_ge (by omega) (by omega)), fun _ => ?_⟩
           | refine ⟨fun _ => ?_, fun h => absurd (by with_reducible exact nI_le (by omega) (by omega)) h⟩
           | refine ⟨fun h => absurd h (by with_reducible exact nI_nlt (by omega) (by omega)), fun _ => ?_⟩
           | refine ⟨fun _ => ?_, fun h => absurd (by with_reducible exact nI_lt (by omega) (by omega)) h⟩
           | refine ⟨fun h => absurd h (by with_reducible exact nI_pos (by omega)), fun _ => ?_⟩
           | refine ⟨fun _ => ?_, fun h => absurd (by with_reducible exact nI_0le (by omega)) h⟩
           | refine ⟨fun h => absurd h (by decide), fun _ => ?_⟩
           | refine ⟨fun _ => ?_, fun h => absurd (by decide) h⟩
           | refine ⟨fun _ => ?_, fun h => absurd h (by decide)⟩
           | refine ⟨fun h => absurd (by decide) h, fun _ => ?_⟩
           | refine ⟨by decide, ?_⟩
           | refine ⟨rfl, ?_⟩)
        | (conv => whnf
           fail_if_success refine Exists.intro ?_ ?_
           simp only [hm, nI_clamp (show k < 2 ^ 31 by omega)]))
      try (conv => whnf)
      refine ⟨(false, σ, τ, n, m, 0), rfl, rfl, ⟨hn, h16⟩, ?_⟩
      try dsimp only [cond_true, cond_false]
      repeat (conv => whnf
              try dsimp only
              try simp (decide := true) only [zu_same, zu_ne1, zu_ne2, zu_row, zuL_same, zuL_ne1, zuL_ne2, zrow_n1, zx0, zx1, zx2, zx3, nI_1, Nat.reduceAdd, Nat.reduceMul, Int32.reduceAdd, Int32.reduceSub, Int32.reduceMul]
              first
              | refine ⟨vp_inb (by decide), ?_⟩
              | refine ⟨by with_reducible exact zi (by omega), ?_⟩
              | refine ⟨fun h => absurd h (by with_reducible exact nI_ge (by omega) (by omega)), fun _ => ?_⟩
              | refine ⟨fun _ => ?_, fun h => absurd (by with_reducible exact nI_le (by omega) (by omega)) h⟩
              | refine ⟨fun h => absurd h (by with_reducible exact nI_nlt (by omega) (by omega)), fun _ => ?_⟩
              | refine ⟨fun _ => ?_, fun h => absurd (by with_reducible exact nI_lt (by omega) (by omega)) h⟩
              | refine ⟨fun h => absurd h (by with_reducible exact nI_pos (by omega)), fun _ => ?_⟩
              | refine ⟨fun _ => ?_, fun h => absurd (by with_reducible exact nI_0le (by omega)) h⟩
              | refine ⟨fun h => absurd h (by decide), fun _ => ?_⟩
              | refine ⟨fun _ => ?_, fun h => absurd (by decide) h⟩
              | refine ⟨fun _ => ?_, fun h => absurd h (by decide)⟩
              | refine ⟨fun h => absurd (by decide) h, fun _ => ?_⟩
              | refine ⟨by decide, ?_⟩
              | refine ⟨rfl, ?_⟩)
      try (conv => whnf)
      refine loop 40 _ _ none (Nat.le_refl 40) hX zrow_self (pSet_kb (Or.inl kp0) hkb) (fun u hu hmu => ?_) (fun e => absurd e (by decide)) ?_ (fun r h1 h2 h3 h4 => zrow_ne h2) (fun j hj => ⟨zrow_n1 (by decide), zrow_n1 (by decide)⟩)
      · unfold pSet
        rw [if_pos ⟨hu, hmu⟩]
        exact kp0
      · rw [zrow_n1 (by decide)]
        exact hop
    · try dsimp only [cond_true, cond_false] at *
      try dsimp only [cond_true, cond_false] at *
      generalize hX : pLo (zPT σ) (σ 88) (σ 100 7) (σ 100 6) n m 40 1 (pSet n m 0 (σ 103)) = X at hK
      have loop : ∀ (r : Nat) (A : Nat → Int32) (σ1 : zIn) (l5 : Option Value), r ≤ 40 → pLo (zPT σ) (σ 88) (σ 100 7) (σ 100 6) n m r (nI (41 - r)) A = X → σ1 103 = A → (∀ u, u < n → kb (A u)) → (∀ u, u < n → bt m u = true → kp (A u)) → (r = 0 → σ1 104 k = nI 40) → σ1 105 k = 0 → (∀ r, r ≠ 101 → r ≠ 103 → r ≠ 104 → r ≠ 105 → σ1 r = σ r) → (∀ j, j ≠ k → σ1 104 j = σ 104 j ∧ σ1 105 j = σ 105 j) → Gl 23 [some (.ref 100), some (.int (nI k)), some (.ref 102), some (.int m), some (.int (nI (41 - r))), l5] [] (0, 0) (119, zSH, zRH, σ1, τ) := by
        intro r
        induction r with
        | zero =>
          intro A σ1 l5 hr hX1 hA ha hb ht ho hfr hj
          refine hG 100 _ _ _ _ _ ?_
          repeat (first
            | (conv => whnf
               try dsimp only
               try simp (decide := true) only [nI40, nI_clamp (show k < 2 ^ 31 by omega), zu_same, zu_ne1, zu_ne2, zu_row, zuL_same, zuL_ne1, zuL_ne2, zrow_n1, zx0, zx1, zx2, zx3, nI_1, Nat.reduceAdd, Nat.reduceMul, Int32.reduceAdd, Int32.reduceSub, Int32.reduceMul]
               first
               | refine ⟨vp_inb (by decide), ?_⟩
               | refine ⟨by with_reducible exact zi (by omega), ?_⟩
               | refine ⟨fun h => absurd h (by with_reducible exact nI_ge (by omega) (by omega)), fun _ => ?_⟩
               | refine ⟨fun _ => ?_, fun h => absurd (by with_reducible exact nI_le (by omega) (by omega)) h⟩
               | refine ⟨fun h => absurd h (by with_reducible exact nI_nlt (by omega) (by omega)), fun _ => ?_⟩
               | refine ⟨fun _ => ?_, fun h => absurd (by with_reducible exact nI_lt (by omega) (by omega)) h⟩
               | refine ⟨fun h => absurd h (by with_reducible exact nI_pos (by omega)), fun _ => ?_⟩
               | refine ⟨fun _ => ?_, fun h => absurd (by with_reducible exact nI_0le (by omega)) h⟩
               | refine ⟨fun h => absurd h (by decide), fun _ => ?_⟩
               | refine ⟨fun _ => ?_, fun h => absurd (by decide) h⟩
               | refine ⟨fun _ => ?_, fun h => absurd h (by decide)⟩
               | refine ⟨fun h => absurd (by decide) h, fun _ => ?_⟩
               | refine ⟨by decide, ?_⟩
               | refine ⟨rfl, ?_⟩)
            | (conv => whnf
               fail_if_success refine Exists.intro ?_ ?_
               simp only [nI40, nI_clamp (show k < 2 ^ 31 by omega)]))
          try (conv => whnf)
          rw [← hX1] at hK
          refine hK _ _ ⟨rfl, _, rfl, fun r h1 h2 h3 h4 => by rw [zu_row h4]; exact hfr r h1 h2 h3 h4, fun j hjk => ⟨?_, ?_⟩, ?_, ?_, ?_⟩
          · rw [zu_ne1 (by decide)]
            exact (hj j hjk).1
          · rw [zu_ne2 hjk]
            exact (hj j hjk).2
          · rw [zu_row (by decide)]
            exact hA
          · rw [zu_ne1 (by decide), ht rfl]
            exact (nI_pred 40).symm
          · exact zu_same
        | succ r ih =>
          intro A σ1 l5 hr hX1 hA ha hb ht ho hfr hj
          rw [show 41 - (r + 1) = 40 - r by omega] at hX1 ⊢
          have hlo : ∀ r, r < 101 → zu σ1 104 k (nI (40 - r)) r = σ r := fun r h => by
            rw [zu_row (by omega)]
            exact hfr r (by omega) (by omega) (by omega) (by omega)
          have hlo : ∀ x, ∀ r, r < 101 → zu σ1 104 k x r = σ r := fun x r h => by
            rw [zu_row (by omega)]
            exact hfr r (by omega) (by omega) (by omega) (by omega)
          have hAM : ∀ x, zu σ1 104 k x 103 = A := fun x => by
            rw [zu_row (by decide)]
            exact hA
          refine hG 100 _ _ _ _ _ ?_
          repeat (first
            | (conv => whnf
               try dsimp only
               try simp (decide := true) only [nI40, nI_clamp (show k < 2 ^ 31 by omega), zu_same, zu_ne1, zu_ne2, zu_row, zuL_same, zuL_ne1, zuL_ne2, zrow_n1, zx0, zx1, zx2, zx3, nI_1, Nat.reduceAdd, Nat.reduceMul, Int32.reduceAdd, Int32.reduceSub, Int32.reduceMul]
               first
               | refine ⟨vp_inb (by decide), ?_⟩
               | refine ⟨by with_reducible exact zi (by omega), ?_⟩
               | refine ⟨fun h => absurd h (by with_reducible exact nI_ge (by omega) (by omega)), fun _ => ?_⟩
               | refine ⟨fun _ => ?_, fun h => absurd (by with_reducible exact nI_le (by omega) (by omega)) h⟩
               | refine ⟨fun h => absurd h (by with_reducible exact nI_nlt (by omega) (by omega)), fun _ => ?_⟩
               | refine ⟨fun _ => ?_, fun h => absurd (by with_reducible exact nI_lt (by omega) (by omega)) h⟩
               | refine ⟨fun h => absurd h (by with_reducible exact nI_pos (by omega)), fun _ => ?_⟩
               | refine ⟨fun _ => ?_, fun h => absurd (by with_reducible exact nI_0le (by omega)) h⟩
               | refine ⟨fun h => absurd h (by decide), fun _ => ?_⟩
               | refine ⟨fun _ => ?_, fun h => absurd (by decide) h⟩
               | refine ⟨fun _ => ?_, fun h => absurd h (by decide)⟩
               | refine ⟨fun h => absurd (by decide) h, fun _ => ?_⟩
               | refine ⟨by decide, ?_⟩
               | refine ⟨rfl, ?_⟩)
            | (conv => whnf
               fail_if_success refine Exists.intro ?_ ?_
               simp only [nI40, nI_clamp (show k < 2 ^ 31 by omega)]))
          try (conv => whnf)
          refine ⟨(true, zu σ1 104 k (nI (40 - r)), τ, n, pc, m), rfl, rfl, ⟨cTu_cg (hlo _) hTu, (by (try dsimp only [cond_true, cond_false]); rw [hAM]; exact ha), (by (try dsimp only [cond_true, cond_false]); rw [hAM]; exact hb)⟩, ?_⟩
          try dsimp only [cond_true, cond_false]
          try dsimp only [cond_true, cond_false]
          rw [zPT_cg (fun r _ h2 => hlo _ r (by omega)), hlo _ 88 (by decide), hlo _ 100 (by decide), hAM]
          rintro _ _ (⟨hM, rfl, σ2, rfl, hfr2, hB⟩ | ⟨g, B, hM, rfl, σ2, rfl, hfr2, hB⟩)
          · skip
            repeat (first
              | (conv => whnf
                 try dsimp only
                 try simp (decide := true) only [nI40, zu_same, zu_ne1, zu_ne2, zu_row, zuL_same, zuL_ne1, zuL_ne2, zrow_n1, zx0, zx1, zx2, zx3, nI_1, Nat.reduceAdd, Nat.reduceMul, Int32.reduceAdd, Int32.reduceSub, Int32.reduceMul]
                 first
                 | refine ⟨vp_inb (by decide), ?_⟩
                 | refine ⟨by with_reducible exact zi (by omega), ?_⟩
                 | refine ⟨fun h => absurd h (by with_reducible exact nI_ge (by omega) (by omega)), fun _ => ?_⟩
                 | refine ⟨fun _ => ?_, fun h => absurd (by with_reducible exact nI_le (by omega) (by omega)) h⟩
                 | refine ⟨fun h => absurd h (by with_reducible exact nI_nlt (by omega) (by omega)), fun _ => ?_⟩
                 | refine ⟨fun _ => ?_, fun h => absurd (by with_reducible exact nI_lt (by omega) (by omega)) h⟩
                 | refine ⟨fun h => absurd h (by with_reducible exact nI_pos (by omega)), fun _ => ?_⟩
                 | refine ⟨fun _ => ?_, fun h => absurd (by with_reducible exact nI_0le (by omega)) h⟩
                 | refine ⟨fun h => absurd h (by decide), fun _ => ?_⟩
                 | refine ⟨fun _ => ?_, fun h => absurd (by decide) h⟩
                 | refine ⟨fun _ => ?_, fun h => absurd h (by decide)⟩
                 | refine ⟨fun h => absurd (by decide) h, fun _ => ?_⟩
                 | refine ⟨by decide, ?_⟩
                 | refine ⟨rfl, ?_⟩)
              | (conv => whnf
                 fail_if_success refine Exists.intro ?_ ?_
                 simp only [nI40]))
            try (conv => whnf)
            refine ⟨(true, σ2, τ, n, m, zBRK), rfl, rfl, ⟨by rw [hfr2 86 (by decide) (by decide), hlo _ 86 (by decide)]; exact hn, h16⟩, ?_⟩
            try dsimp only [cond_true, cond_false]
            repeat (conv => whnf
                    try dsimp only
                    try simp (decide := true) only [zu_same, zu_ne1, zu_ne2, zu_row, zuL_same, zuL_ne1, zuL_ne2, zrow_n1, zx0, zx1, zx2, zx3, nI_1, Nat.reduceAdd, Nat.reduceMul, Int32.reduceAdd, Int32.reduceSub, Int32.reduceMul]
                    first
                    | refine ⟨vp_inb (by decide), ?_⟩
                    | refine ⟨by with_reducible exact zi (by omega), ?_⟩
                    | refine ⟨fun h => absurd h (by with_reducible exact nI_ge (by omega) (by omega)), fun _ => ?_⟩
                    | refine ⟨fun _ => ?_, fun h => absurd (by with_reducible exact nI_le (by omega) (by omega)) h⟩
                    | refine ⟨fun h => absurd h (by with_reducible exact nI_nlt (by omega) (by omega)), fun _ => ?_⟩
                    | refine ⟨fun _ => ?_, fun h => absurd (by with_reducible exact nI_lt (by omega) (by omega)) h⟩
                    | refine ⟨fun h => absurd h (by with_reducible exact nI_pos (by omega)), fun _ => ?_⟩
                    | refine ⟨fun _ => ?_, fun h => absurd (by with_reducible exact nI_0le (by omega)) h⟩
                    | refine ⟨fun h => absurd h (by decide), fun _ => ?_⟩
                    | refine ⟨fun _ => ?_, fun h => absurd (by decide) h⟩
                    | refine ⟨fun _ => ?_, fun h => absurd h (by decide)⟩
                    | refine ⟨fun h => absurd (by decide) h, fun _ => ?_⟩
                    | refine ⟨by decide, ?_⟩
                    | refine ⟨rfl, ?_⟩)
            try (conv => whnf)
            rw [show pLo (zPT σ) (σ 88) (σ 100 7) (σ 100 6) n m (r + 1) (nI (40 - r)) A = (pSet n m zBRK A, nI (40 - r), 0) by
              show (match pMt (zPT σ) (σ 88) (σ 100 7) m A n with
                | none => _
                | some (g, B) => _) = _
              rw [hM]] at hX1
            rw [← hX1] at hK
            refine hK _ _ ⟨rfl, _, rfl, fun r h1 h2 h3 h4 => by rw [zrow_ne h2, hfr2 r h1 h2, zu_row h3]; exact hfr r h1 h2 h3 h4, fun j hjk => ⟨?_, ?_⟩, ?_, ?_, ?_⟩
            · rw [zrow_n1 (by decide), hfr2 _ (by decide) (by decide), zu_ne2 hjk]
              exact (hj j hjk).1
            · rw [zrow_n1 (by decide), hfr2 _ (by decide) (by decide), zu_ne1 (by decide)]
              exact (hj j hjk).2
            · rw [zrow_self]
              funext u
              show pSet n m zBRK (σ2 103) u = pSet n m zBRK A u
              unfold pSet
              by_cases hc : u < n ∧ bt m u = true
              · rw [if_pos hc, if_pos hc]
              · rw [if_neg hc, if_neg hc]
                exact hB u hc
            · rw [zrow_n1 (by decide), hfr2 _ (by decide) (by decide)]
              exact zu_same
            · rw [zrow_n1 (by decide), hfr2 _ (by decide) (by decide), zu_ne1 (by decide)]
              exact ho
          · have hgb := pMt_nb (G := zMG σ) hnu ha hb hM
            have h100 : σ2 100 6 = σ 100 6 := by rw [hfr2 100 (by decide) (by decide), hlo _ 100 (by decide)]
            have hfrn : ∀ r, r ≠ 101 → r ≠ 103 → r ≠ 104 → r ≠ 105 → σ2 r = σ r := fun r h1 h2 h3 h4 => by rw [hfr2 r h1 h2, zu_row h3]; exact hfr r h1 h2 h3 h4
            have hjn : ∀ j, j ≠ k → σ2 104 j = σ 104 j ∧ σ2 105 j = σ 105 j := fun j hjk => by
              rw [hfr2 _ (by decide) (by decide), hfr2 _ (by decide) (by decide), zu_ne2 hjk, zu_ne1 (by decide)]
              exact hj j hjk
            have htn : σ2 104 k = nI (40 - r) := by rw [hfr2 _ (by decide) (by decide)]; exact zu_same
            have hon : σ2 105 k = 0 := by rw [hfr2 _ (by decide) (by decide), zu_ne1 (by decide)]; exact ho
            have hX2 : pLo (zPT σ) (σ 88) (σ 100 7) (σ 100 6) n m (r + 1) (nI (40 - r)) A = if g ≤ σ 100 6 then (B, nI (40 - r), 0) else pLo (zPT σ) (σ 88) (σ 100 7) (σ 100 6) n m r (nI (40 - r) + 1) B := by
              show (match pMt (zPT σ) (σ 88) (σ 100 7) m A n with
                | none => _
                | some (g, B) => _) = _
              rw [hM]
            rw [hX2] at hX1
            repeat (first
              | (conv => whnf
                 try dsimp only
                 try simp (decide := true) only [nI40, zu_same, zu_ne1, zu_ne2, zu_row, zuL_same, zuL_ne1, zuL_ne2, zrow_n1, zx0, zx1, zx2, zx3, nI_1, Nat.reduceAdd, Nat.reduceMul, Int32.reduceAdd, Int32.reduceSub, Int32.reduceMul]
                 first
                 | refine ⟨vp_inb (by decide), ?_⟩
                 | refine ⟨by with_reducible exact zi (by omega), ?_⟩
                 | refine ⟨fun h => absurd h (by with_reducible exact nI_ge (by omega) (by omega)), fun _ => ?_⟩
                 | refine ⟨fun _ => ?_, fun h => absurd (by with_reducible exact nI_le (by omega) (by omega)) h⟩
                 | refine ⟨fun h => absurd h (by with_reducible exact nI_nlt (by omega) (by omega)), fun _ => ?_⟩
                 | refine ⟨fun _ => ?_, fun h => absurd (by with_reducible exact nI_lt (by omega) (by omega)) h⟩
                 | refine ⟨fun h => absurd h (by with_reducible exact nI_pos (by omega)), fun _ => ?_⟩
                 | refine ⟨fun _ => ?_, fun h => absurd (by with_reducible exact nI_0le (by omega)) h⟩
                 | refine ⟨fun h => absurd h (by decide), fun _ => ?_⟩
                 | refine ⟨fun _ => ?_, fun h => absurd (by decide) h⟩
                 | refine ⟨fun _ => ?_, fun h => absurd h (by decide)⟩
                 | refine ⟨fun h => absurd (by decide) h, fun _ => ?_⟩
                 | refine ⟨by decide, ?_⟩
                 | refine ⟨rfl, ?_⟩)
              | (conv => whnf
                 fail_if_success refine Exists.intro ?_ ?_
                 simp only [nI40]))
            try (conv => whnf)
            refine ⟨fun _ => ?_, fun w => absurd w hgb⟩
            repeat (first
              | (conv => whnf
                 try dsimp only
                 try simp (decide := true) only [h100, zu_same, zu_ne1, zu_ne2, zu_row, zuL_same, zuL_ne1, zuL_ne2, zrow_n1, zx0, zx1, zx2, zx3, nI_1, Nat.reduceAdd, Nat.reduceMul, Int32.reduceAdd, Int32.reduceSub, Int32.reduceMul]
                 first
                 | refine ⟨vp_inb (by decide), ?_⟩
                 | refine ⟨by with_reducible exact zi (by omega), ?_⟩
                 | refine ⟨fun h => absurd h (by with_reducible exact nI_ge (by omega) (by omega)), fun _ => ?_⟩
                 | refine ⟨fun _ => ?_, fun h => absurd (by with_reducible exact nI_le (by omega) (by omega)) h⟩
                 | refine ⟨fun h => absurd h (by with_reducible exact nI_nlt (by omega) (by omega)), fun _ => ?_⟩
                 | refine ⟨fun _ => ?_, fun h => absurd (by with_reducible exact nI_lt (by omega) (by omega)) h⟩
                 | refine ⟨fun h => absurd h (by with_reducible exact nI_pos (by omega)), fun _ => ?_⟩
                 | refine ⟨fun _ => ?_, fun h => absurd (by with_reducible exact nI_0le (by omega)) h⟩
                 | refine ⟨fun h => absurd h (by decide), fun _ => ?_⟩
                 | refine ⟨fun _ => ?_, fun h => absurd (by decide) h⟩
                 | refine ⟨fun _ => ?_, fun h => absurd h (by decide)⟩
                 | refine ⟨fun h => absurd (by decide) h, fun _ => ?_⟩
                 | refine ⟨by decide, ?_⟩
                 | refine ⟨rfl, ?_⟩)
              | (conv => whnf
                 fail_if_success refine Exists.intro ?_ ?_
                 simp only [h100]))
            try (conv => whnf)
            refine ⟨fun hsl => ?_, fun hsl => ?_⟩
            · rw [if_neg (Int32.not_le.mpr hsl), nI_1, show 40 - r + 1 = 41 - r by omega] at hX1
              repeat (conv => whnf
                      try dsimp only
                      try simp (decide := true) only [zu_same, zu_ne1, zu_ne2, zu_row, zuL_same, zuL_ne1, zuL_ne2, zrow_n1, zx0, zx1, zx2, zx3, nI_1, Nat.reduceAdd, Nat.reduceMul, Int32.reduceAdd, Int32.reduceSub, Int32.reduceMul]
                      first
                      | refine ⟨vp_inb (by decide), ?_⟩
                      | refine ⟨by with_reducible exact zi (by omega), ?_⟩
                      | refine ⟨fun h => absurd h (by with_reducible exact nI_ge (by omega) (by omega)), fun _ => ?_⟩
                      | refine ⟨fun _ => ?_, fun h => absurd (by with_reducible exact nI_le (by omega) (by omega)) h⟩
                      | refine ⟨fun h => absurd h (by with_reducible exact nI_nlt (by omega) (by omega)), fun _ => ?_⟩
                      | refine ⟨fun _ => ?_, fun h => absurd (by with_reducible exact nI_lt (by omega) (by omega)) h⟩
                      | refine ⟨fun h => absurd h (by with_reducible exact nI_pos (by omega)), fun _ => ?_⟩
                      | refine ⟨fun _ => ?_, fun h => absurd (by with_reducible exact nI_0le (by omega)) h⟩
                      | refine ⟨fun h => absurd h (by decide), fun _ => ?_⟩
                      | refine ⟨fun _ => ?_, fun h => absurd (by decide) h⟩
                      | refine ⟨fun _ => ?_, fun h => absurd h (by decide)⟩
                      | refine ⟨fun h => absurd (by decide) h, fun _ => ?_⟩
                      | refine ⟨by decide, ?_⟩
                      | refine ⟨rfl, ?_⟩)
              try (conv => whnf)
              try dsimp only
              try simp (decide := true) only [zu_same, zu_ne1, zu_ne2, zu_row, zuL_same, zuL_ne1, zuL_ne2, zrow_n1, zx0, zx1, zx2, zx3, nI_1, Nat.reduceAdd, Nat.reduceMul, Int32.reduceAdd, Int32.reduceSub, Int32.reduceMul]
              rw [show 40 - r + 1 = 41 - r by omega]
              obtain ⟨i1, i2⟩ := pMt_kb (G := zMG σ) hnu ha hb n (Nat.le_refl n) g B hM
              exact ih B σ2 _ (by omega) hX1 hB i1 i2 (fun e => by rw [htn, e]) hon hfrn hjn
            · rw [if_pos (Int32.not_lt.mp hsl)] at hX1
              repeat (conv => whnf
                      try dsimp only
                      try simp (decide := true) only [zu_same, zu_ne1, zu_ne2, zu_row, zuL_same, zuL_ne1, zuL_ne2, zrow_n1, zx0, zx1, zx2, zx3, nI_1, Nat.reduceAdd, Nat.reduceMul, Int32.reduceAdd, Int32.reduceSub, Int32.reduceMul]
                      first
                      | refine ⟨vp_inb (by decide), ?_⟩
                      | refine ⟨by with_reducible exact zi (by omega), ?_⟩
                      | refine ⟨fun h => absurd h (by with_reducible exact nI_ge (by omega) (by omega)), fun _ => ?_⟩
                      | refine ⟨fun _ => ?_, fun h => absurd (by with_reducible exact nI_le (by omega) (by omega)) h⟩
                      | refine ⟨fun h => absurd h (by with_reducible exact nI_nlt (by omega) (by omega)), fun _ => ?_⟩
                      | refine ⟨fun _ => ?_, fun h => absurd (by with_reducible exact nI_lt (by omega) (by omega)) h⟩
                      | refine ⟨fun h => absurd h (by with_reducible exact nI_pos (by omega)), fun _ => ?_⟩
                      | refine ⟨fun _ => ?_, fun h => absurd (by with_reducible exact nI_0le (by omega)) h⟩
                      | refine ⟨fun h => absurd h (by decide), fun _ => ?_⟩
                      | refine ⟨fun _ => ?_, fun h => absurd (by decide) h⟩
                      | refine ⟨fun _ => ?_, fun h => absurd h (by decide)⟩
                      | refine ⟨fun h => absurd (by decide) h, fun _ => ?_⟩
                      | refine ⟨by decide, ?_⟩
                      | refine ⟨rfl, ?_⟩)
              try (conv => whnf)
              rw [← hX1] at hK
              exact hK _ _ ⟨rfl, σ2, rfl, hfrn, hjn, hB, htn, hon⟩
      refine hG 100 _ _ _ _ _ ?_
      repeat (first
        | (conv => whnf
           try dsimp only
           try simp (decide := true) only [hm, nI_clamp (show k < 2 ^ 31 by omega), zu_same, zu_ne1, zu_ne2, zu_row, zuL_same, zuL_ne1, zuL_ne2, zrow_n1, zx0, zx1, zx2, zx3, nI_1, Nat.reduceAdd, Nat.reduceMul, Int32.reduceAdd, Int32.reduceSub, Int32.reduceMul]
           first
           | refine ⟨vp_inb (by decide), ?_⟩
           | refine ⟨by with_reducible exact zi (by omega), ?_⟩
           | refine ⟨fun h => absurd h (by with_reducible exact nI_ge (by omega) (by omega)), fun _ => ?_⟩
           | refine ⟨fun _ => ?_, fun h => absurd (by with_reducible exact nI_le (by omega) (by omega)) h⟩
           | refine ⟨fun h => absurd h (by with_reducible exact nI_nlt (by omega) (by omega)), fun _ => ?_⟩
           | refine ⟨fun _ => ?_, fun h => absurd (by with_reducible exact nI_lt (by omega) (by omega)) h⟩
           | refine ⟨fun h => absurd h (by with_reducible exact nI_pos (by omega)), fun _ => ?_⟩
           | refine ⟨fun _ => ?_, fun h => absurd (by with_reducible exact nI_0le (by omega)) h⟩
           | refine ⟨fun h => absurd h (by decide), fun _ => ?_⟩
           | refine ⟨fun _ => ?_, fun h => absurd (by decide) h⟩
           | refine ⟨fun _ => ?_, fun h => absurd h (by decide)⟩
           | refine ⟨fun h => absurd (by decide) h, fun _ => ?_⟩
           | refine ⟨by decide, ?_⟩
           | refine ⟨rfl, ?_⟩)
        | (conv => whnf
           fail_if_success refine Exists.intro ?_ ?_
           simp only [hm, nI_clamp (show k < 2 ^ 31 by omega)]))
      try (conv => whnf)
      refine ⟨(true, σ, τ, n, m, 0), rfl, rfl, ⟨hn, h16⟩, ?_⟩
      try dsimp only [cond_true, cond_false]
      repeat (conv => whnf
              try dsimp only
              try simp (decide := true) only [zu_same, zu_ne1, zu_ne2, zu_row, zuL_same, zuL_ne1, zuL_ne2, zrow_n1, zx0, zx1, zx2, zx3, nI_1, Nat.reduceAdd, Nat.reduceMul, Int32.reduceAdd, Int32.reduceSub, Int32.reduceMul]
              first
              | refine ⟨vp_inb (by decide), ?_⟩
              | refine ⟨by with_reducible exact zi (by omega), ?_⟩
              | refine ⟨fun h => absurd h (by with_reducible exact nI_ge (by omega) (by omega)), fun _ => ?_⟩
              | refine ⟨fun _ => ?_, fun h => absurd (by with_reducible exact nI_le (by omega) (by omega)) h⟩
              | refine ⟨fun h => absurd h (by with_reducible exact nI_nlt (by omega) (by omega)), fun _ => ?_⟩
              | refine ⟨fun _ => ?_, fun h => absurd (by with_reducible exact nI_lt (by omega) (by omega)) h⟩
              | refine ⟨fun h => absurd h (by with_reducible exact nI_pos (by omega)), fun _ => ?_⟩
              | refine ⟨fun _ => ?_, fun h => absurd (by with_reducible exact nI_0le (by omega)) h⟩
              | refine ⟨fun h => absurd h (by decide), fun _ => ?_⟩
              | refine ⟨fun _ => ?_, fun h => absurd (by decide) h⟩
              | refine ⟨fun _ => ?_, fun h => absurd h (by decide)⟩
              | refine ⟨fun h => absurd (by decide) h, fun _ => ?_⟩
              | refine ⟨by decide, ?_⟩
              | refine ⟨rfl, ?_⟩)
      try (conv => whnf)
      refine loop 40 _ _ none (Nat.le_refl 40) hX zrow_self (pSet_kb (Or.inl kp0) hkb) (fun u hu hmu => ?_) (fun e => absurd e (by decide)) ?_ (fun r h1 h2 h3 h4 => zrow_ne h2) (fun j hj => ⟨zrow_n1 (by decide), zrow_n1 (by decide)⟩)
      · unfold pSet
        rw [if_pos ⟨hu, hmu⟩]
        exact kp0
      · rw [zrow_n1 (by decide)]
        exact hop
/-- the tables of the order are right -/
def cOr (σ : zIn) (n : Nat) : Prop := (∀ j, j < n → σ 95 j = pLe (σ 88) (σ 85) j ∧ σ 96 j = pRe n (σ 88) (σ 85) j) ∧ σ 94 7 = nI (pOr n (pRe n (σ 88) (σ 85))).length ∧ ∀ j, j < (pOr n (pRe n (σ 88) (σ 85))).length → σ 98 j = nI ((pOr n (pRe n (σ 88) (σ 85))).getD j 0) ∧ σ 97 j = pCi n (pRe n (σ 88) (σ 85)) ((pOr n (pRe n (σ 88) (σ 85))).getD j 0) ∧ σ 99 j = (if bt (pRe n (σ 88) (σ 85) ((pOr n (pRe n (σ 88) (σ 85))).getD j 0)) ((pOr n (pRe n (σ 88) (σ 85))).getD j 0) = true then 1 else 0)
theorem pAr_len {n : Nat} {R : Nat → Int32} : ∀ (k : Nat) (come : Int32), (pAr n R k come).length ≤ k
  | 0, _ => Nat.le_refl 0
  | k + 1, come => by
    unfold pAr
    cases pNx n R come n 0 with
    | none => exact Nat.zero_le _
    | some v => exact Nat.succ_le_succ (pAr_len k _)
theorem pOr_len {n : Nat} {R : Nat → Int32} : (pOr n R).length ≤ n := pAr_len n 0
def spX4_solve : zSp := zDQ (X := Bool × zIn × zLo × Nat × Nat × Int32) (fun x => match x with | (b, σ, τ, n, pc, W) => [.ref 100, .ref (cond b 89 110), .int W, .ref (cond b 102 106)]) (fun x => match x with | (b, σ, τ, n, pc, W) => (119, zSH, zRH, σ, τ)) (fun x => match x with | (b, σ, τ, n, pc, W) => cTu σ τ n pc ∧ (∀ u, u < n → kb (σ (cond b 103 107) u)) ∧ pWf n pc (σ 85) (zMG σ) ∧ cOr σ n ∧ ∀ v, v < n → ∃ u, σ 87 v = nI u ∧ u < 12 ∧ ¬ (σ 16 u).toInt64 = 0) (fun x r9 μ9 => match x with | (b, σ, τ, n, pc, W) => r9 = none ∧ ∃ σ1 : zIn, μ9 = (119, zSH, zRH, σ1, τ) ∧ (∀ r, r ≠ 101 → r ≠ cond b 103 107 → r ≠ cond b 104 108 → r ≠ cond b 105 109 → σ1 r = σ r) ∧ σ1 (cond b 103 107) = pSw n (pRe n (σ 88) (σ 85)) (zMG σ) (σ (cond b 89 110)) W (pOr n (pRe n (σ 88) (σ 85))) (σ (cond b 103 107)) ∧ (∀ u, u < n → kb (σ1 (cond b 103 107) u)) ∧ ∀ j, j < (pOr n (pRe n (σ 88) (σ 85))).length → ¬ pCi n (pRe n (σ 88) (σ 85)) ((pOr n (pRe n (σ 88) (σ 85))).getD j 0) &&& W = 0 → σ1 (cond b 104 108) j = (pSc n (pRe n (σ 88) (σ 85)) (zMG σ) (σ (cond b 89 110)) ((pOr n (pRe n (σ 88) (σ 85))).getD j 0) (σ1 (cond b 103 107))).2.1 ∧ σ1 (cond b 105 109) j = (pSc n (pRe n (σ 88) (σ 85)) (zMG σ) (σ (cond b 89 110)) ((pOr n (pRe n (σ 88) (σ 85))).getD j 0) (σ1 (cond b 103 107))).2.2)
abbrev rmX4_solve : Room := ({ frames := 5, cells := 0, slots := 0, locals := 127 } : Room)
set_option maxRecDepth 100000 in
set_option maxHeartbeats 4000000 in
theorem ctX4_solve (l : Launch) (D : va_G) (cA : Nat → ClassId) : zCt false l D cA yX4_solve cX4_solve 6 (none) rmX4_solve spX4_solve := by
  refine zct_Q (zCX4_solve [(65, 0, 3, spX4_setAll, rmX4_setAll.cells, rmX4_setAll.slots), (72, 0, 2, spX4_solveRound, rmX4_solveRound.cells, rmX4_solveRound.slots), (79, 0, 3, spX4_solveAlone, rmX4_solveAlone.cells, rmX4_solveAlone.slots)]) zpX4_solve [3] (by decide +kernel) zkX4_solve (Or.inr (by decide +kernel)) trivial ⟨by decide +kernel, by decide +kernel⟩ (fun x ad => Nat.le_of_ble_eq_true rfl) ?_ ?_
  · intro p e s m args below meth c A H0 ad0 n0 Q F hml hNw hA hX
    exact ⟨zco_V hX hA F hml hNw (ctX4_setAll l D cA) ⟨⟨zlX4_solve_65, zwX4_setAll.1.1, zwX4_setAll.1.2⟩, zwX4_setAll.2⟩ zdX4_setAll ⟨Nat.le_of_ble_eq_true rfl, Nat.le_of_ble_eq_true rfl⟩ (ci := 4) (by decide) rfl (by rintro av μ K ⟨x, rfl, rfl, -⟩; exact ⟨_, _, rfl, rfl⟩), zco_V hX hA F hml hNw (ctX4_solveRound l D cA) ⟨⟨zlX4_solve_72, zwX4_solveRound.1.1, zwX4_solveRound.1.2⟩, zwX4_solveRound.2⟩ zdX4_solveRound ⟨Nat.le_of_ble_eq_true rfl, Nat.le_of_ble_eq_true rfl⟩ (ci := 4) (by decide) rfl (by rintro av μ K ⟨x, rfl, rfl, -⟩; exact ⟨_, _, rfl, rfl⟩), zco_V hX hA F hml hNw (ctX4_solveAlone l D cA) ⟨⟨zlX4_solve_79, zwX4_solveAlone.1.1, zwX4_solveAlone.1.2⟩, zwX4_solveAlone.2⟩ zdX4_solveAlone ⟨Nat.le_of_ble_eq_true rfl, Nat.le_of_ble_eq_true rfl⟩ (ci := 4) (by decide) rfl (by rintro av μ K ⟨x, rfl, rfl, -⟩; exact ⟨_, _, rfl, rfl⟩), trivial⟩
  · rintro ⟨b, σ, τ, n, pc, W⟩ Ret hP hK Gl hG
    try dsimp only at hP hK
    show Gl 0 (zent 6 [.ref 100, .ref (cond b 89 110), .int W, .ref (cond b 102 106)]) [] (0, 0) ((119, zSH, zRH, σ, τ))
    obtain ⟨hTu, hkb, hwf, ⟨h95, h94, hL⟩, hun⟩ := hP
    obtain ⟨hn, h16, hp60, hnu, hfo, hin⟩ := id hTu
    have hls := pOr_ok hwf.1 (pWf_tr hwf)
    have hlen := pOr_len (n := n) (R := pRe n (σ 88) (σ 85))
    cases b
    · try dsimp only [cond_true, cond_false] at *
      try dsimp only [cond_true, cond_false] at *
      generalize hR : pRe n (σ 88) (σ 85) = R at *
      generalize hLL : pOr n R = L at *
      have loop : ∀ (l d : List Nat) (come : Int32) (σ1 : zIn) (l5 : Option Value), L = d ++ l → pLs n R come l → pSw n R (zMG σ) (σ 110) W l (σ1 107) = pSw n R (zMG σ) (σ 110) W L (σ 107) → (∀ u, u < n → kb (σ1 107 u)) → (∀ r, r ≠ 101 → r ≠ 107 → r ≠ 108 → r ≠ 109 → σ1 r = σ r) →
          (∀ j, j < d.length → ¬ pCi n R (L.getD j 0) &&& W = 0 → σ1 108 j = (pSc n R (zMG σ) (σ 110) (L.getD j 0) (pSw n R (zMG σ) (σ 110) W L (σ 107))).2.1 ∧ σ1 109 j = (pSc n R (zMG σ) (σ 110) (L.getD j 0) (pSw n R (zMG σ) (σ 110) W L (σ 107))).2.2) → Gl 3 [some (.ref 100), some (.ref 110), some (.int W), some (.ref 106), some (.int (nI d.length)), l5] [] (0, 0) (119, zSH, zRH, σ1, τ) := by
        intro l
        induction l with
        | nil =>
          intro d come σ1 l5 hd hpl hF hkb1 hfr hT
          have hdl : d.length = L.length := by rw [hd, List.append_nil]
          have h94' : σ1 94 7 = nI d.length := by rw [hfr 94 (by decide) (by decide) (by decide) (by decide), hdl]; exact h94
          refine hG 100 _ _ _ _ _ ?_
          repeat (first
            | (conv => whnf
               try dsimp only
               try simp (decide := true) only [h94', zu_same, zu_ne1, zu_ne2, zu_row, zuL_same, zuL_ne1, zuL_ne2, zrow_n1, zx0, zx1, zx2, zx3, nI_1, Nat.reduceAdd, Nat.reduceMul, Int32.reduceAdd, Int32.reduceSub, Int32.reduceMul]
               first
               | refine ⟨vp_inb (by decide), ?_⟩
               | refine ⟨by with_reducible exact zi (by omega), ?_⟩
               | refine ⟨fun h => absurd h (by with_reducible exact nI_ge (by omega) (by omega)), fun _ => ?_⟩
               | refine ⟨fun _ => ?_, fun h => absurd (by with_reducible exact nI_le (by omega) (by omega)) h⟩
               | refine ⟨fun h => absurd h (by with_reducible exact nI_nlt (by omega) (by omega)), fun _ => ?_⟩
               | refine ⟨fun _ => ?_, fun h => absurd (by with_reducible exact nI_lt (by omega) (by omega)) h⟩
               | refine ⟨fun h => absurd h (by with_reducible exact nI_pos (by omega)), fun _ => ?_⟩
               | refine ⟨fun _ => ?_, fun h => absurd (by with_reducible exact nI_0le (by omega)) h⟩
               | refine ⟨fun h => absurd h (by decide), fun _ => ?_⟩
               | refine ⟨fun _ => ?_, fun h => absurd (by decide) h⟩
               | refine ⟨fun _ => ?_, fun h => absurd h (by decide)⟩
               | refine ⟨fun h => absurd (by decide) h, fun _ => ?_⟩
               | refine ⟨by decide, ?_⟩
               | refine ⟨rfl, ?_⟩)
            | (conv => whnf
               fail_if_success refine Exists.intro ?_ ?_
               simp only [h94']))
          try (conv => whnf)
          have hF' : σ1 107 = pSw n R (zMG σ) (σ 110) W L (σ 107) := hF
          refine hK _ _ ⟨rfl, σ1, rfl, hfr, hF', hkb1, fun j hj hw => ?_⟩
          rw [hF']
          exact hT j (by omega) hw
        | cons v l ih =>
          intro d come σ1 l5 hd hpl hF hkb1 hfr hT
          have hdl : d.length < L.length := by rw [hd, List.length_append, List.length_cons]; omega
          have hgv : L.getD d.length 0 = v := by
            rw [hd, List.getD_eq_getElem?_getD, List.getElem?_append_right (Nat.le_refl _), Nat.sub_self]
            rfl
          have hgi : ∀ j, j < d.length → (d ++ [v]).length = d.length + 1 := fun _ _ => by simp
          have hlo : ∀ r, r < 101 → σ1 r = σ r := fun r h => hfr r (by omega) (by omega) (by omega) (by omega)
          have h94' : σ1 94 7 = nI L.length := by rw [hlo 94 (by decide)]; exact h94
          obtain ⟨hp1, hp2, hp3, hp4, hp5⟩ := hpl
          obtain ⟨l1, l2, l3⟩ := hL d.length hdl
          rw [hgv] at l1 l2 l3
          have l1' : σ1 98 d.length = nI v := by rw [hlo 98 (by decide)]; exact l1
          have l2' : σ1 97 d.length = pCi n R v := by rw [hlo 97 (by decide)]; exact l2
          have l3' : σ1 99 d.length = (if bt (R v) v = true then 1 else 0) := by rw [hlo 99 (by decide)]; exact l3
          have h90 : σ1 90 7 = σ 90 7 := by rw [hlo 90 (by decide)]
          have hse : σ1 110 = σ 110 := hfr 110 (by decide) (by decide) (by decide) (by decide)
          have hv32 : v < 32 := by omega
          have nxt : ∀ (σ3 : zIn) (l5 : Option Value), (∀ r, r ≠ 101 → r ≠ 107 → r ≠ 108 → r ≠ 109 → σ3 r = σ r) → (∀ j, j ≠ d.length → σ3 108 j = σ1 108 j ∧ σ3 109 j = σ1 109 j) → (¬ pCi n R v &&& W = 0 → σ3 107 = (pSc n R (zMG σ) (σ 110) v (σ1 107)).1 ∧ σ3 108 d.length = (pSc n R (zMG σ) (σ 110) v (σ1 107)).2.1 ∧ σ3 109 d.length = (pSc n R (zMG σ) (σ 110) v (σ1 107)).2.2) → (pCi n R v &&& W = 0 → σ3 107 = σ1 107) →
              Gl 3 [some (.ref 100), some (.ref 110), some (.int W), some (.ref 106), some (.int (nI (d.length + 1))), l5] [] (0, 0) (119, zSH, zRH, σ3, τ) := fun σ3 l5 g1 g2 g3 g4 => by
            have hlen2 : (d ++ [v]).length = d.length + 1 := by simp
            have hsw : pSw n R (zMG σ) (σ 110) W (v :: l) (σ1 107) = pSw n R (zMG σ) (σ 110) W l (σ3 107) := by
              show pSw n R (zMG σ) (σ 110) W l (if ¬ pCi n R v &&& W = 0 then (pSc n R (zMG σ) (σ 110) v (σ1 107)).1 else σ1 107) = _
              by_cases hw : pCi n R v &&& W = 0
              · rw [if_neg (fun q => q hw), g4 hw]
              · rw [if_pos hw, (g3 hw).1]
            have := ih (d ++ [v]) (come ||| pCi n R v) σ3 l5 (by rw [hd]; simp) hp5 (hsw.symm.trans hF) ?_ g1 ?_
            · rw [hlen2] at this
              exact this
            · by_cases hw : pCi n R v &&& W = 0
              · rw [g4 hw]
                exact hkb1
              · rw [(g3 hw).1]
                exact pSc_kb hnu hp1 hkb1
            · intro j hj hw
              rw [hlen2] at hj
              by_cases e : j = d.length
              · rw [e, hgv] at hw ⊢
                rw [(g3 hw).2.1, (g3 hw).2.2]
                have hag := pSc_agree hwf (S1 := σ 110) (S2 := σ 110) hp1 (A1 := σ1 107) (A2 := pSw n R (zMG σ) (σ 110) W L (σ 107)) (fun _ => rfl) (fun u hu hnu => by
                  have hu' : bt (R v) u = true := by rw [← hR]; exact hu
                  have hnu' : bt (pCi n R v) u = false := by rw [← hR]; exact hnu
                  have hcu : bt come u = true := (hp3 u hu').elim (fun q => by rw [q] at hnu'; cases hnu') id
                  rw [← hF, hsw, (show σ3 107 = _ from (g3 hw).1), pSw_out hwf.1 l _ _ hp5 u (by rw [bt_or, hcu]; rfl), pSc_out hv32 hwf.1 hnu'])
                have e2 := hag.2
                rw [show pRe n (zMG σ).2.1 (σ 85) = R from hR] at e2
                rw [e2]
                exact ⟨rfl, rfl⟩
              · rw [(g2 j e).1, (g2 j e).2]
                exact hT j (by omega) hw
          refine hG 100 _ _ _ _ _ ?_
          repeat (first
            | (conv => whnf
               try dsimp only
               try simp (decide := true) only [h94', l2', nI_clamp (show d.length < 2 ^ 31 by omega), zu_same, zu_ne1, zu_ne2, zu_row, zuL_same, zuL_ne1, zuL_ne2, zrow_n1, zx0, zx1, zx2, zx3, nI_1, Nat.reduceAdd, Nat.reduceMul, Int32.reduceAdd, Int32.reduceSub, Int32.reduceMul]
               first
               | refine ⟨vp_inb (by decide), ?_⟩
               | refine ⟨by with_reducible exact zi (by omega), ?_⟩
               | refine ⟨fun h => absurd h (by with_reducible exact nI_ge (by omega) (by omega)), fun _ => ?_⟩
               | refine ⟨fun _ => ?_, fun h => absurd (by with_reducible exact nI_le (by omega) (by omega)) h⟩
               | refine ⟨fun h => absurd h (by with_reducible exact nI_nlt (by omega) (by omega)), fun _ => ?_⟩
               | refine ⟨fun _ => ?_, fun h => absurd (by with_reducible exact nI_lt (by omega) (by omega)) h⟩
               | refine ⟨fun h => absurd h (by with_reducible exact nI_pos (by omega)), fun _ => ?_⟩
               | refine ⟨fun _ => ?_, fun h => absurd (by with_reducible exact nI_0le (by omega)) h⟩
               | refine ⟨fun h => absurd h (by decide), fun _ => ?_⟩
               | refine ⟨fun _ => ?_, fun h => absurd (by decide) h⟩
               | refine ⟨fun _ => ?_, fun h => absurd h (by decide)⟩
               | refine ⟨fun h => absurd (by decide) h, fun _ => ?_⟩
               | refine ⟨by decide, ?_⟩
               | refine ⟨rfl, ?_⟩)
            | (conv => whnf
               fail_if_success refine Exists.intro ?_ ?_
               simp only [h94', l2', nI_clamp (show d.length < 2 ^ 31 by omega)]))
          try (conv => whnf)
          by_cases hw : pCi n R v &&& W = 0
          · refine ⟨fun _ => ?_, fun q => absurd hw q⟩
            repeat (conv => whnf
                    try dsimp only
                    try simp (decide := true) only [zu_same, zu_ne1, zu_ne2, zu_row, zuL_same, zuL_ne1, zuL_ne2, zrow_n1, zx0, zx1, zx2, zx3, nI_1, Nat.reduceAdd, Nat.reduceMul, Int32.reduceAdd, Int32.reduceSub, Int32.reduceMul]
                    first
                    | refine ⟨vp_inb (by decide), ?_⟩
                    | refine ⟨by with_reducible exact zi (by omega), ?_⟩
                    | refine ⟨fun h => absurd h (by with_reducible exact nI_ge (by omega) (by omega)), fun _ => ?_⟩
                    | refine ⟨fun _ => ?_, fun h => absurd (by with_reducible exact nI_le (by omega) (by omega)) h⟩
                    | refine ⟨fun h => absurd h (by with_reducible exact nI_nlt (by omega) (by omega)), fun _ => ?_⟩
                    | refine ⟨fun _ => ?_, fun h => absurd (by with_reducible exact nI_lt (by omega) (by omega)) h⟩
                    | refine ⟨fun h => absurd h (by with_reducible exact nI_pos (by omega)), fun _ => ?_⟩
                    | refine ⟨fun _ => ?_, fun h => absurd (by with_reducible exact nI_0le (by omega)) h⟩
                    | refine ⟨fun h => absurd h (by decide), fun _ => ?_⟩
                    | refine ⟨fun _ => ?_, fun h => absurd (by decide) h⟩
                    | refine ⟨fun _ => ?_, fun h => absurd h (by decide)⟩
                    | refine ⟨fun h => absurd (by decide) h, fun _ => ?_⟩
                    | refine ⟨by decide, ?_⟩
                    | refine ⟨rfl, ?_⟩)
            try (conv => whnf)
            try dsimp only
            try simp (decide := true) only [zu_same, zu_ne1, zu_ne2, zu_row, zuL_same, zuL_ne1, zuL_ne2, zrow_n1, zx0, zx1, zx2, zx3, nI_1, Nat.reduceAdd, Nat.reduceMul, Int32.reduceAdd, Int32.reduceSub, Int32.reduceMul]
            exact nxt σ1 _ hfr (fun _ _ => ⟨rfl, rfl⟩) (fun q => absurd hw q) (fun _ => rfl)
          · refine ⟨fun q => absurd q hw, fun _ => ?_⟩
            repeat (first
              | (conv => whnf
                 try dsimp only
                 try simp (decide := true) only [h90, nI_clamp (show d.length < 2 ^ 31 by omega), zu_same, zu_ne1, zu_ne2, zu_row, zuL_same, zuL_ne1, zuL_ne2, zrow_n1, zx0, zx1, zx2, zx3, nI_1, Nat.reduceAdd, Nat.reduceMul, Int32.reduceAdd, Int32.reduceSub, Int32.reduceMul]
                 first
                 | refine ⟨vp_inb (by decide), ?_⟩
                 | refine ⟨by with_reducible exact zi (by omega), ?_⟩
                 | refine ⟨fun h => absurd h (by with_reducible exact nI_ge (by omega) (by omega)), fun _ => ?_⟩
                 | refine ⟨fun _ => ?_, fun h => absurd (by with_reducible exact nI_le (by omega) (by omega)) h⟩
                 | refine ⟨fun h => absurd h (by with_reducible exact nI_nlt (by omega) (by omega)), fun _ => ?_⟩
                 | refine ⟨fun _ => ?_, fun h => absurd (by with_reducible exact nI_lt (by omega) (by omega)) h⟩
                 | refine ⟨fun h => absurd h (by with_reducible exact nI_pos (by omega)), fun _ => ?_⟩
                 | refine ⟨fun _ => ?_, fun h => absurd (by with_reducible exact nI_0le (by omega)) h⟩
                 | refine ⟨fun h => absurd h (by decide), fun _ => ?_⟩
                 | refine ⟨fun _ => ?_, fun h => absurd (by decide) h⟩
                 | refine ⟨fun _ => ?_, fun h => absurd h (by decide)⟩
                 | refine ⟨fun h => absurd (by decide) h, fun _ => ?_⟩
                 | refine ⟨by decide, ?_⟩
                 | refine ⟨rfl, ?_⟩)
              | (conv => whnf
                 fail_if_success refine Exists.intro ?_ ?_
                 simp only [h90, nI_clamp (show d.length < 2 ^ 31 by omega)]))
            try (conv => whnf)
            rw [show vp_nar FieldType.boolean 0 = 0 from rfl]
            have hz : ∀ r, r ≠ 108 → r ≠ 109 → zu (zu σ1 108 d.length 0) 109 d.length 0 r = σ1 r := fun r h1 h2 => by rw [zu_row h2, zu_row h1]
            have hzlo : ∀ r, r < 101 → zu (zu σ1 108 d.length 0) 109 d.length 0 r = σ r := fun r h => by
              rw [hz r (by omega) (by omega)]
              exact hlo r h
            have hzT : zu (zu σ1 108 d.length 0) 109 d.length 0 108 d.length = 0 := by rw [zu_ne1 (by decide)]; exact zu_same
            have hzO : zu (zu σ1 108 d.length 0) 109 d.length 0 109 d.length = 0 := zu_same
            have hzj : ∀ j, j ≠ d.length → zu (zu σ1 108 d.length 0) 109 d.length 0 108 j = σ1 108 j ∧ zu (zu σ1 108 d.length 0) 109 d.length 0 109 j = σ1 109 j := fun j hj => by
              rw [zu_ne1 (by decide), zu_ne2 hj, zu_ne2 hj, zu_ne1 (by decide)]
              exact ⟨rfl, rfl⟩
            generalize hs2 : zu (zu σ1 108 d.length 0) 109 d.length 0 = σ2 at *
            have hAM2 : σ2 107 = σ1 107 := hz 107 (by decide) (by decide)
            have hfr2 : ∀ r, r ≠ 101 → r ≠ 107 → r ≠ 108 → r ≠ 109 → σ2 r = σ r := fun r h1 h2 h3 h4 => (hz r h3 h4).trans (hfr r h1 h2 h3 h4)
            have l1'' : σ2 98 d.length = nI v := by rw [hzlo 98 (by decide)]; exact l1
            have l2'' : σ2 97 d.length = pCi n R v := by rw [hzlo 97 (by decide)]; exact l2
            have l3'' : σ2 99 d.length = (if bt (R v) v = true then 1 else 0) := by rw [hzlo 99 (by decide)]; exact l3
            have h90' : σ2 90 7 = σ 90 7 := by rw [hzlo 90 (by decide)]
            rw [h90']
            by_cases hno : pCi n R v &&& σ 90 7 = 0
            · refine ⟨fun _ => ?_, fun q => absurd hno q⟩
              by_cases hrd : bt (R v) v = true
              · rw [if_pos hrd] at l3''
                repeat (first
                  | (conv => whnf
                     try dsimp only
                     try simp (decide := true) only [l3'', nI_clamp (show d.length < 2 ^ 31 by omega), zu_same, zu_ne1, zu_ne2, zu_row, zuL_same, zuL_ne1, zuL_ne2, zrow_n1, zx0, zx1, zx2, zx3, nI_1, Nat.reduceAdd, Nat.reduceMul, Int32.reduceAdd, Int32.reduceSub, Int32.reduceMul]
                     first
                     | refine ⟨vp_inb (by decide), ?_⟩
                     | refine ⟨by with_reducible exact zi (by omega), ?_⟩
                     | refine ⟨fun h => absurd h (by with_reducible exact nI_ge (by omega) (by omega)), fun _ => ?_⟩
                     | refine ⟨fun _ => ?_, fun h => absurd (by with_reducible exact nI_le (by omega) (by omega)) h⟩
                     | refine ⟨fun h => absurd h (by with_reducible exact nI_nlt (by omega) (by omega)), fun _ => ?_⟩
                     | refine ⟨fun _ => ?_, fun h => absurd (by with_reducible exact nI_lt (by omega) (by omega)) h⟩
                     | refine ⟨fun h => absurd h (by with_reducible exact nI_pos (by omega)), fun _ => ?_⟩
                     | refine ⟨fun _ => ?_, fun h => absurd (by with_reducible exact nI_0le (by omega)) h⟩
                     | refine ⟨fun h => absurd h (by decide), fun _ => ?_⟩
                     | refine ⟨fun _ => ?_, fun h => absurd (by decide) h⟩
                     | refine ⟨fun _ => ?_, fun h => absurd h (by decide)⟩
                     | refine ⟨fun h => absurd (by decide) h, fun _ => ?_⟩
                     | refine ⟨by decide, ?_⟩
                     | refine ⟨rfl, ?_⟩)
                  | (conv => whnf
                     fail_if_success refine Exists.intro ?_ ?_
                     simp only [l3'', nI_clamp (show d.length < 2 ^ 31 by omega)]))
                try (conv => whnf)
                refine ⟨(false, σ2, τ, n, pc, d.length, pCi n R v), rfl, rfl, ⟨cTu_cg hzlo hTu, (by (try dsimp only [cond_true, cond_false]); rw [hAM2]; exact hkb1), by omega, l2'', hzO⟩, ?_⟩
                try dsimp only [cond_true, cond_false]
                try dsimp only [cond_true, cond_false]
                rw [zPT_cg (fun r _ h2 => hzlo r (by omega)), hzlo 88 (by decide), hzlo 100 (by decide), hAM2]
                rintro _ _ ⟨rfl, σ3, rfl, k1, k2, k3, k4, k5⟩
                have hsc : pSc n R (zMG σ) (σ 110) v (σ1 107) = pLo (zPT σ) (σ 88) (σ 100 7) (σ 100 6) n (pCi n R v) 40 1 (pSet n (pCi n R v) 0 (σ1 107)) := by
                  unfold pSc
                  rw [if_neg (fun q => q hno), if_pos hrd]
                repeat (conv => whnf
                        try dsimp only
                        try simp (decide := true) only [zu_same, zu_ne1, zu_ne2, zu_row, zuL_same, zuL_ne1, zuL_ne2, zrow_n1, zx0, zx1, zx2, zx3, nI_1, Nat.reduceAdd, Nat.reduceMul, Int32.reduceAdd, Int32.reduceSub, Int32.reduceMul]
                        first
                        | refine ⟨vp_inb (by decide), ?_⟩
                        | refine ⟨by with_reducible exact zi (by omega), ?_⟩
                        | refine ⟨fun h => absurd h (by with_reducible exact nI_ge (by omega) (by omega)), fun _ => ?_⟩
                        | refine ⟨fun _ => ?_, fun h => absurd (by with_reducible exact nI_le (by omega) (by omega)) h⟩
                        | refine ⟨fun h => absurd h (by with_reducible exact nI_nlt (by omega) (by omega)), fun _ => ?_⟩
                        | refine ⟨fun _ => ?_, fun h => absurd (by with_reducible exact nI_lt (by omega) (by omega)) h⟩
                        | refine ⟨fun h => absurd h (by with_reducible exact nI_pos (by omega)), fun _ => ?_⟩
                        | refine ⟨fun _ => ?_, fun h => absurd (by with_reducible exact nI_0le (by omega)) h⟩
                        | refine ⟨fun h => absurd h (by decide), fun _ => ?_⟩
                        | refine ⟨fun _ => ?_, fun h => absurd (by decide) h⟩
                        | refine ⟨fun _ => ?_, fun h => absurd h (by decide)⟩
                        | refine ⟨fun h => absurd (by decide) h, fun _ => ?_⟩
                        | refine ⟨by decide, ?_⟩
                        | refine ⟨rfl, ?_⟩)
                try (conv => whnf)
                try dsimp only
                try simp (decide := true) only [zu_same, zu_ne1, zu_ne2, zu_row, zuL_same, zuL_ne1, zuL_ne2, zrow_n1, zx0, zx1, zx2, zx3, nI_1, Nat.reduceAdd, Nat.reduceMul, Int32.reduceAdd, Int32.reduceSub, Int32.reduceMul]
                exact nxt σ3 _ (fun r h1 h2 h3 h4 => (k1 r h1 h2 h3 h4).trans (hfr2 r h1 h2 h3 h4)) (fun j hj => ⟨(k2 j hj).1.trans (hzj j hj).1, (k2 j hj).2.trans (hzj j hj).2⟩) (fun _ => by rw [hsc]; exact ⟨k3, k4, k5⟩) (fun q => absurd q hw)
              · rw [if_neg hrd] at l3''
                repeat (first
                  | (conv => whnf
                     try dsimp only
                     try simp (decide := true) only [l1'', l3'', nI_clamp (show d.length < 2 ^ 31 by omega), zu_same, zu_ne1, zu_ne2, zu_row, zuL_same, zuL_ne1, zuL_ne2, zrow_n1, zx0, zx1, zx2, zx3, nI_1, Nat.reduceAdd, Nat.reduceMul, Int32.reduceAdd, Int32.reduceSub, Int32.reduceMul]
                     first
                     | refine ⟨vp_inb (by decide), ?_⟩
                     | refine ⟨by with_reducible exact zi (by omega), ?_⟩
                     | refine ⟨fun h => absurd h (by with_reducible exact nI_ge (by omega) (by omega)), fun _ => ?_⟩
                     | refine ⟨fun _ => ?_, fun h => absurd (by with_reducible exact nI_le (by omega) (by omega)) h⟩
                     | refine ⟨fun h => absurd h (by with_reducible exact nI_nlt (by omega) (by omega)), fun _ => ?_⟩
                     | refine ⟨fun _ => ?_, fun h => absurd (by with_reducible exact nI_lt (by omega) (by omega)) h⟩
                     | refine ⟨fun h => absurd h (by with_reducible exact nI_pos (by omega)), fun _ => ?_⟩
                     | refine ⟨fun _ => ?_, fun h => absurd (by with_reducible exact nI_0le (by omega)) h⟩
                     | refine ⟨fun h => absurd h (by decide), fun _ => ?_⟩
                     | refine ⟨fun _ => ?_, fun h => absurd (by decide) h⟩
                     | refine ⟨fun _ => ?_, fun h => absurd h (by decide)⟩
                     | refine ⟨fun h => absurd (by decide) h, fun _ => ?_⟩
                     | refine ⟨by decide, ?_⟩
                     | refine ⟨rfl, ?_⟩)
                  | (conv => whnf
                     fail_if_success refine Exists.intro ?_ ?_
                     simp only [l1'', l3'', nI_clamp (show d.length < 2 ^ 31 by omega)]))
                try (conv => whnf)
                refine ⟨(false, σ2, τ, n, pc, v), rfl, rfl, ⟨cTu_cg hzlo hTu, hp1, by rw [hzlo 87 (by decide), hzlo 16 (by decide)]; exact hun v hp1⟩, ?_⟩
                try dsimp only [cond_true, cond_false]
                try dsimp only [cond_true, cond_false]
                rintro _ _ ⟨rfl, σ3, rfl, k1, k2⟩
                rw [zPT_cg (fun r _ h2 => hzlo r (by omega)), hzlo 15 (by decide), hzlo 16 (by decide), hzlo 87 (by decide), hAM2, hfr2 110 (by decide) (by decide) (by decide) (by decide)] at k2
                simp only [hzlo 88 (by decide)] at k2
                have hsc : pSc n R (zMG σ) (σ 110) v (σ1 107) = (fun u => if u = v then (if σ 88 v < 0 then pWo (σ 15) (σ 16) (σ 110 v) (σ 87 v) else pW (zPT σ) (σ1 107) (σ 88 v).toNatClampNeg) else σ1 107 u, 0, 0) := by
                  unfold pSc
                  rw [if_neg (fun q => q hno), if_neg hrd]
                repeat (conv => whnf
                        try dsimp only
                        try simp (decide := true) only [zu_same, zu_ne1, zu_ne2, zu_row, zuL_same, zuL_ne1, zuL_ne2, zrow_n1, zx0, zx1, zx2, zx3, nI_1, Nat.reduceAdd, Nat.reduceMul, Int32.reduceAdd, Int32.reduceSub, Int32.reduceMul]
                        first
                        | refine ⟨vp_inb (by decide), ?_⟩
                        | refine ⟨by with_reducible exact zi (by omega), ?_⟩
                        | refine ⟨fun h => absurd h (by with_reducible exact nI_ge (by omega) (by omega)), fun _ => ?_⟩
                        | refine ⟨fun _ => ?_, fun h => absurd (by with_reducible exact nI_le (by omega) (by omega)) h⟩
                        | refine ⟨fun h => absurd h (by with_reducible exact nI_nlt (by omega) (by omega)), fun _ => ?_⟩
                        | refine ⟨fun _ => ?_, fun h => absurd (by with_reducible exact nI_lt (by omega) (by omega)) h⟩
                        | refine ⟨fun h => absurd h (by with_reducible exact nI_pos (by omega)), fun _ => ?_⟩
                        | refine ⟨fun _ => ?_, fun h => absurd (by with_reducible exact nI_0le (by omega)) h⟩
                        | refine ⟨fun h => absurd h (by decide), fun _ => ?_⟩
                        | refine ⟨fun _ => ?_, fun h => absurd (by decide) h⟩
                        | refine ⟨fun _ => ?_, fun h => absurd h (by decide)⟩
                        | refine ⟨fun h => absurd (by decide) h, fun _ => ?_⟩
                        | refine ⟨by decide, ?_⟩
                        | refine ⟨rfl, ?_⟩)
                try (conv => whnf)
                try dsimp only
                try simp (decide := true) only [zu_same, zu_ne1, zu_ne2, zu_row, zuL_same, zuL_ne1, zuL_ne2, zrow_n1, zx0, zx1, zx2, zx3, nI_1, Nat.reduceAdd, Nat.reduceMul, Int32.reduceAdd, Int32.reduceSub, Int32.reduceMul]
                refine nxt σ3 _ (fun r h1 h2 h3 h4 => (k1 r h1 h2).trans (hfr2 r h1 h2 h3 h4)) (fun j hj => ?_) (fun _ => ?_) (fun q => absurd q hw)
                · rw [k1 108 (by decide) (by decide), k1 109 (by decide) (by decide)]
                  exact hzj j hj
                · rw [hsc, k1 108 (by decide) (by decide), k1 109 (by decide) (by decide)]
                  exact ⟨k2, hzT, hzO⟩
            · refine ⟨fun q => absurd q hno, fun _ => ?_⟩
              repeat (conv => whnf
                      try dsimp only
                      try simp (decide := true) only [zu_same, zu_ne1, zu_ne2, zu_row, zuL_same, zuL_ne1, zuL_ne2, zrow_n1, zx0, zx1, zx2, zx3, nI_1, Nat.reduceAdd, Nat.reduceMul, Int32.reduceAdd, Int32.reduceSub, Int32.reduceMul]
                      first
                      | refine ⟨vp_inb (by decide), ?_⟩
                      | refine ⟨by with_reducible exact zi (by omega), ?_⟩
                      | refine ⟨fun h => absurd h (by with_reducible exact nI_ge (by omega) (by omega)), fun _ => ?_⟩
                      | refine ⟨fun _ => ?_, fun h => absurd (by with_reducible exact nI_le (by omega) (by omega)) h⟩
                      | refine ⟨fun h => absurd h (by with_reducible exact nI_nlt (by omega) (by omega)), fun _ => ?_⟩
                      | refine ⟨fun _ => ?_, fun h => absurd (by with_reducible exact nI_lt (by omega) (by omega)) h⟩
                      | refine ⟨fun h => absurd h (by with_reducible exact nI_pos (by omega)), fun _ => ?_⟩
                      | refine ⟨fun _ => ?_, fun h => absurd (by with_reducible exact nI_0le (by omega)) h⟩
                      | refine ⟨fun h => absurd h (by decide), fun _ => ?_⟩
                      | refine ⟨fun _ => ?_, fun h => absurd (by decide) h⟩
                      | refine ⟨fun _ => ?_, fun h => absurd h (by decide)⟩
                      | refine ⟨fun h => absurd (by decide) h, fun _ => ?_⟩
                      | refine ⟨by decide, ?_⟩
                      | refine ⟨rfl, ?_⟩)
              try (conv => whnf)
              refine ⟨(false, σ2, τ, n, pCi n R v, zBRK), rfl, rfl, ⟨by rw [hzlo 86 (by decide)]; exact hn, h16⟩, ?_⟩
              try dsimp only [cond_true, cond_false]
              have hsc : pSc n R (zMG σ) (σ 110) v (σ1 107) = (pSet n (pCi n R v) zBRK (σ1 107), 0, 0) := by
                unfold pSc
                rw [if_pos hno]
              repeat (conv => whnf
                      try dsimp only
                      try simp (decide := true) only [zu_same, zu_ne1, zu_ne2, zu_row, zuL_same, zuL_ne1, zuL_ne2, zrow_n1, zx0, zx1, zx2, zx3, nI_1, Nat.reduceAdd, Nat.reduceMul, Int32.reduceAdd, Int32.reduceSub, Int32.reduceMul]
                      first
                      | refine ⟨vp_inb (by decide), ?_⟩
                      | refine ⟨by with_reducible exact zi (by omega), ?_⟩
                      | refine ⟨fun h => absurd h (by with_reducible exact nI_ge (by omega) (by omega)), fun _ => ?_⟩
                      | refine ⟨fun _ => ?_, fun h => absurd (by with_reducible exact nI_le (by omega) (by omega)) h⟩
                      | refine ⟨fun h => absurd h (by with_reducible exact nI_nlt (by omega) (by omega)), fun _ => ?_⟩
                      | refine ⟨fun _ => ?_, fun h => absurd (by with_reducible exact nI_lt (by omega) (by omega)) h⟩
                      | refine ⟨fun h => absurd h (by with_reducible exact nI_pos (by omega)), fun _ => ?_⟩
                      | refine ⟨fun _ => ?_, fun h => absurd (by with_reducible exact nI_0le (by omega)) h⟩
                      | refine ⟨fun h => absurd h (by decide), fun _ => ?_⟩
                      | refine ⟨fun _ => ?_, fun h => absurd (by decide) h⟩
                      | refine ⟨fun _ => ?_, fun h => absurd h (by decide)⟩
                      | refine ⟨fun h => absurd (by decide) h, fun _ => ?_⟩
                      | refine ⟨by decide, ?_⟩
                      | refine ⟨rfl, ?_⟩)
              try (conv => whnf)
              try dsimp only
              try simp (decide := true) only [zu_same, zu_ne1, zu_ne2, zu_row, zuL_same, zuL_ne1, zuL_ne2, zrow_n1, zx0, zx1, zx2, zx3, nI_1, Nat.reduceAdd, Nat.reduceMul, Int32.reduceAdd, Int32.reduceSub, Int32.reduceMul]
              refine nxt _ _ (fun r h1 h2 h3 h4 => (zrow_ne h2).trans (hfr2 r h1 h2 h3 h4)) (fun j hj => ?_) (fun _ => ?_) (fun q => absurd q hw)
              · rw [zrow_n1 (by decide), zrow_n1 (by decide)]
                exact hzj j hj
              · rw [hsc, zrow_self, zrow_n1 (by decide), zrow_n1 (by decide), hAM2]
                exact ⟨rfl, hzT, hzO⟩
      refine hG 100 _ _ _ _ _ ?_
      repeat (conv => whnf
              try dsimp only
              try simp (decide := true) only [zu_same, zu_ne1, zu_ne2, zu_row, zuL_same, zuL_ne1, zuL_ne2, zrow_n1, zx0, zx1, zx2, zx3, nI_1, Nat.reduceAdd, Nat.reduceMul, Int32.reduceAdd, Int32.reduceSub, Int32.reduceMul]
              first
              | refine ⟨vp_inb (by decide), ?_⟩
              | refine ⟨by with_reducible exact zi (by omega), ?_⟩
              | refine ⟨fun h => absurd h (by with_reducible exact nI_ge (by omega) (by omega)), fun _ => ?_⟩
              | refine ⟨fun _ => ?_, fun h => absurd (by with_reducible exact nI_le (by omega) (by omega)) h⟩
              | refine ⟨fun h => absurd h (by with_reducible exact nI_nlt (by omega) (by omega)), fun _ => ?_⟩
              | refine ⟨fun _ => ?_, fun h => absurd (by with_reducible exact nI_lt (by omega) (by omega)) h⟩
              | refine ⟨fun h => absurd h (by with_reducible exact nI_pos (by omega)), fun _ => ?_⟩
              | refine ⟨fun _ => ?_, fun h => absurd (by with_reducible exact nI_0le (by omega)) h⟩
              | refine ⟨fun h => absurd h (by decide), fun _ => ?_⟩
              | refine ⟨fun _ => ?_, fun h => absurd (by decide) h⟩
              | refine ⟨fun _ => ?_, fun h => absurd h (by decide)⟩
              | refine ⟨fun h => absurd (by decide) h, fun _ => ?_⟩
              | refine ⟨by decide, ?_⟩
              | refine ⟨rfl, ?_⟩)
      try (conv => whnf)
      exact loop L [] 0 σ none rfl hls rfl hkb (fun _ _ _ _ _ => rfl) (fun j hj => absurd hj (Nat.not_lt_zero j))
    · try dsimp only [cond_true, cond_false] at *
      try dsimp only [cond_true, cond_false] at *
      generalize hR : pRe n (σ 88) (σ 85) = R at *
      generalize hLL : pOr n R = L at *
      have loop : ∀ (l d : List Nat) (come : Int32) (σ1 : zIn) (l5 : Option Value), L = d ++ l → pLs n R come l → pSw n R (zMG σ) (σ 89) W l (σ1 103) = pSw n R (zMG σ) (σ 89) W L (σ 103) → (∀ u, u < n → kb (σ1 103 u)) → (∀ r, r ≠ 101 → r ≠ 103 → r ≠ 104 → r ≠ 105 → σ1 r = σ r) →
          (∀ j, j < d.length → ¬ pCi n R (L.getD j 0) &&& W = 0 → σ1 104 j = (pSc n R (zMG σ) (σ 89) (L.getD j 0) (pSw n R (zMG σ) (σ 89) W L (σ 103))).2.1 ∧ σ1 105 j = (pSc n R (zMG σ) (σ 89) (L.getD j 0) (pSw n R (zMG σ) (σ 89) W L (σ 103))).2.2) → Gl 3 [some (.ref 100), some (.ref 89), some (.int W), some (.ref 102), some (.int (nI d.length)), l5] [] (0, 0) (119, zSH, zRH, σ1, τ) := by
        intro l
        induction l with
        | nil =>
          intro d come σ1 l5 hd hpl hF hkb1 hfr hT
          have hdl : d.length = L.length := by rw [hd, List.append_nil]
          have h94' : σ1 94 7 = nI d.length := by rw [hfr 94 (by decide) (by decide) (by decide) (by decide), hdl]; exact h94
          refine hG 100 _ _ _ _ _ ?_
          repeat (first
            | (conv => whnf
               try dsimp only
               try simp (decide := true) only [h94', zu_same, zu_ne1, zu_ne2, zu_row, zuL_same, zuL_ne1, zuL_ne2, zrow_n1, zx0, zx1, zx2, zx3, nI_1, Nat.reduceAdd, Nat.reduceMul, Int32.reduceAdd, Int32.reduceSub, Int32.reduceMul]
               first
               | refine ⟨vp_inb (by decide), ?_⟩
               | refine ⟨by with_reducible exact zi (by omega), ?_⟩
               | refine ⟨fun h => absurd h (by with_reducible exact nI_ge (by omega) (by omega)), fun _ => ?_⟩
               | refine ⟨fun _ => ?_, fun h => absurd (by with_reducible exact nI_le (by omega) (by omega)) h⟩
               | refine ⟨fun h => absurd h (by with_reducible exact nI_nlt (by omega) (by omega)), fun _ => ?_⟩
               | refine ⟨fun _ => ?_, fun h => absurd (by with_reducible exact nI_lt (by omega) (by omega)) h⟩
               | refine ⟨fun h => absurd h (by with_reducible exact nI_pos (by omega)), fun _ => ?_⟩
               | refine ⟨fun _ => ?_, fun h => absurd (by with_reducible exact nI_0le (by omega)) h⟩
               | refine ⟨fun h => absurd h (by decide), fun _ => ?_⟩
               | refine ⟨fun _ => ?_, fun h => absurd (by decide) h⟩
               | refine ⟨fun _ => ?_, fun h => absurd h (by decide)⟩
               | refine ⟨fun h => absurd (by decide) h, fun _ => ?_⟩
               | refine ⟨by decide, ?_⟩
               | refine ⟨rfl, ?_⟩)
            | (conv => whnf
               fail_if_success refine Exists.intro ?_ ?_
               simp only [h94']))
          try (conv => whnf)
          have hF' : σ1 103 = pSw n R (zMG σ) (σ 89) W L (σ 103) := hF
          refine hK _ _ ⟨rfl, σ1, rfl, hfr, hF', hkb1, fun j hj hw => ?_⟩
          rw [hF']
          exact hT j (by omega) hw
        | cons v l ih =>
          intro d come σ1 l5 hd hpl hF hkb1 hfr hT
          have hdl : d.length < L.length := by rw [hd, List.length_append, List.length_cons]; omega
          have hgv : L.getD d.length 0 = v := by
            rw [hd, List.getD_eq_getElem?_getD, List.getElem?_append_right (Nat.le_refl _), Nat.sub_self]
            rfl
          have hgi : ∀ j, j < d.length → (d ++ [v]).length = d.length + 1 := fun _ _ => by simp
          have hlo : ∀ r, r < 101 → σ1 r = σ r := fun r h => hfr r (by omega) (by omega) (by omega) (by omega)
          have h94' : σ1 94 7 = nI L.length := by rw [hlo 94 (by decide)]; exact h94
          obtain ⟨hp1, hp2, hp3, hp4, hp5⟩ := hpl
          obtain ⟨l1, l2, l3⟩ := hL d.length hdl
          rw [hgv] at l1 l2 l3
          have l1' : σ1 98 d.length = nI v := by rw [hlo 98 (by decide)]; exact l1
          have l2' : σ1 97 d.length = pCi n R v := by rw [hlo 97 (by decide)]; exact l2
          have l3' : σ1 99 d.length = (if bt (R v) v = true then 1 else 0) := by rw [hlo 99 (by decide)]; exact l3
          have h90 : σ1 90 7 = σ 90 7 := by rw [hlo 90 (by decide)]
          have hse : σ1 89 = σ 89 := hfr 89 (by decide) (by decide) (by decide) (by decide)
          have hv32 : v < 32 := by omega
          have nxt : ∀ (σ3 : zIn) (l5 : Option Value), (∀ r, r ≠ 101 → r ≠ 103 → r ≠ 104 → r ≠ 105 → σ3 r = σ r) → (∀ j, j ≠ d.length → σ3 104 j = σ1 104 j ∧ σ3 105 j = σ1 105 j) → (¬ pCi n R v &&& W = 0 → σ3 103 = (pSc n R (zMG σ) (σ 89) v (σ1 103)).1 ∧ σ3 104 d.length = (pSc n R (zMG σ) (σ 89) v (σ1 103)).2.1 ∧ σ3 105 d.length = (pSc n R (zMG σ) (σ 89) v (σ1 103)).2.2) → (pCi n R v &&& W = 0 → σ3 103 = σ1 103) →
              Gl 3 [some (.ref 100), some (.ref 89), some (.int W), some (.ref 102), some (.int (nI (d.length + 1))), l5] [] (0, 0) (119, zSH, zRH, σ3, τ) := fun σ3 l5 g1 g2 g3 g4 => by
            have hlen2 : (d ++ [v]).length = d.length + 1 := by simp
            have hsw : pSw n R (zMG σ) (σ 89) W (v :: l) (σ1 103) = pSw n R (zMG σ) (σ 89) W l (σ3 103) := by
              show pSw n R (zMG σ) (σ 89) W l (if ¬ pCi n R v &&& W = 0 then (pSc n R (zMG σ) (σ 89) v (σ1 103)).1 else σ1 103) = _
              by_cases hw : pCi n R v &&& W = 0
              · rw [if_neg (fun q => q hw), g4 hw]
              · rw [if_pos hw, (g3 hw).1]
            have := ih (d ++ [v]) (come ||| pCi n R v) σ3 l5 (by rw [hd]; simp) hp5 (hsw.symm.trans hF) ?_ g1 ?_
            · rw [hlen2] at this
              exact this
            · by_cases hw : pCi n R v &&& W = 0
              · rw [g4 hw]
                exact hkb1
              · rw [(g3 hw).1]
                exact pSc_kb hnu hp1 hkb1
            · intro j hj hw
              rw [hlen2] at hj
              by_cases e : j = d.length
              · rw [e, hgv] at hw ⊢
                rw [(g3 hw).2.1, (g3 hw).2.2]
                have hag := pSc_agree hwf (S1 := σ 89) (S2 := σ 89) hp1 (A1 := σ1 103) (A2 := pSw n R (zMG σ) (σ 89) W L (σ 103)) (fun _ => rfl) (fun u hu hnu => by
                  have hu' : bt (R v) u = true := by rw [← hR]; exact hu
                  have hnu' : bt (pCi n R v) u = false := by rw [← hR]; exact hnu
                  have hcu : bt come u = true := (hp3 u hu').elim (fun q => by rw [q] at hnu'; cases hnu') id
                  rw [← hF, hsw, (show σ3 103 = _ from (g3 hw).1), pSw_out hwf.1 l _ _ hp5 u (by rw [bt_or, hcu]; rfl), pSc_out hv32 hwf.1 hnu'])
                have e2 := hag.2
                rw [show pRe n (zMG σ).2.1 (σ 85) = R from hR] at e2
                rw [e2]
                exact ⟨rfl, rfl⟩
              · rw [(g2 j e).1, (g2 j e).2]
                exact hT j (by omega) hw
          refine hG 100 _ _ _ _ _ ?_
          repeat (first
            | (conv => whnf
               try dsimp only
               try simp (decide := true) only [h94', l2', nI_clamp (show d.length < 2 ^ 31 by omega), zu_same, zu_ne1, zu_ne2, zu_row, zuL_same, zuL_ne1, zuL_ne2, zrow_n1, zx0, zx1, zx2, zx3, nI_1, Nat.reduceAdd, Nat.reduceMul, Int32.reduceAdd, Int32.reduceSub, Int32.reduceMul]
               first
               | refine ⟨vp_inb (by decide), ?_⟩
               | refine ⟨by with_reducible exact zi (by omega), ?_⟩
               | refine ⟨fun h => absurd h (by with_reducible exact nI_ge (by omega) (by omega)), fun _ => ?_⟩
               | refine ⟨fun _ => ?_, fun h => absurd (by with_reducible exact nI_le (by omega) (by omega)) h⟩
               | refine ⟨fun h => absurd h (by with_reducible exact nI_nlt (by omega) (by omega)), fun _ => ?_⟩
               | refine ⟨fun _ => ?_, fun h => absurd (by with_reducible exact nI_lt (by omega) (by omega)) h⟩
               | refine ⟨fun h => absurd h (by with_reducible exact nI_pos (by omega)), fun _ => ?_⟩
               | refine ⟨fun _ => ?_, fun h => absurd (by with_reducible exact nI_0le (by omega)) h⟩
               | refine ⟨fun h => absurd h (by decide), fun _ => ?_⟩
               | refine ⟨fun _ => ?_, fun h => absurd (by decide) h⟩
               | refine ⟨fun _ => ?_, fun h => absurd h (by decide)⟩
               | refine ⟨fun h => absurd (by decide) h, fun _ => ?_⟩
               | refine ⟨by decide, ?_⟩
               | refine ⟨rfl, ?_⟩)
            | (conv => whnf
               fail_if_success refine Exists.intro ?_ ?_
               simp only [h94', l2', nI_clamp (show d.length < 2 ^ 31 by omega)]))
          try (conv => whnf)
          by_cases hw : pCi n R v &&& W = 0
          · refine ⟨fun _ => ?_, fun q => absurd hw q⟩
            repeat (conv => whnf
                    try dsimp only
                    try simp (decide := true) only [zu_same, zu_ne1, zu_ne2, zu_row, zuL_same, zuL_ne1, zuL_ne2, zrow_n1, zx0, zx1, zx2, zx3, nI_1, Nat.reduceAdd, Nat.reduceMul, Int32.reduceAdd, Int32.reduceSub, Int32.reduceMul]
                    first
                    | refine ⟨vp_inb (by decide), ?_⟩
                    | refine ⟨by with_reducible exact zi (by omega), ?_⟩
                    | refine ⟨fun h => absurd h (by with_reducible exact nI_ge (by omega) (by omega)), fun _ => ?_⟩
                    | refine ⟨fun _ => ?_, fun h => absurd (by with_reducible exact nI_le (by omega) (by omega)) h⟩
                    | refine ⟨fun h => absurd h (by with_reducible exact nI_nlt (by omega) (by omega)), fun _ => ?_⟩
                    | refine ⟨fun _ => ?_, fun h => absurd (by with_reducible exact nI_lt (by omega) (by omega)) h⟩
                    | refine ⟨fun h => absurd h (by with_reducible exact nI_pos (by omega)), fun _ => ?_⟩
                    | refine ⟨fun _ => ?_, fun h => absurd (by with_reducible exact nI_0le (by omega)) h⟩
                    | refine ⟨fun h => absurd h (by decide), fun _ => ?_⟩
                    | refine ⟨fun _ => ?_, fun h => absurd (by decide) h⟩
                    | refine ⟨fun _ => ?_, fun h => absurd h (by decide)⟩
                    | refine ⟨fun h => absurd (by decide) h, fun _ => ?_⟩
                    | refine ⟨by decide, ?_⟩
                    | refine ⟨rfl, ?_⟩)
            try (conv => whnf)
            try dsimp only
            try simp (decide := true) only [zu_same, zu_ne1, zu_ne2, zu_row, zuL_same, zuL_ne1, zuL_ne2, zrow_n1, zx0, zx1, zx2, zx3, nI_1, Nat.reduceAdd, Nat.reduceMul, Int32.reduceAdd, Int32.reduceSub, Int32.reduceMul]
            exact nxt σ1 _ hfr (fun _ _ => ⟨rfl, rfl⟩) (fun q => absurd hw q) (fun _ => rfl)
          · refine ⟨fun q => absurd q hw, fun _ => ?_⟩
            repeat (first
              | (conv => whnf
                 try dsimp only
                 try simp (decide := true) only [h90, nI_clamp (show d.length < 2 ^ 31 by omega), zu_same, zu_ne1, zu_ne2, zu_row, zuL_same, zuL_ne1, zuL_ne2, zrow_n1, zx0, zx1, zx2, zx3, nI_1, Nat.reduceAdd, Nat.reduceMul, Int32.reduceAdd, Int32.reduceSub, Int32.reduceMul]
                 first
                 | refine ⟨vp_inb (by decide), ?_⟩
                 | refine ⟨by with_reducible exact zi (by omega), ?_⟩
                 | refine ⟨fun h => absurd h (by with_reducible exact nI_ge (by omega) (by omega)), fun _ => ?_⟩
                 | refine ⟨fun _ => ?_, fun h => absurd (by with_reducible exact nI_le (by omega) (by omega)) h⟩
                 | refine ⟨fun h => absurd h (by with_reducible exact nI_nlt (by omega) (by omega)), fun _ => ?_⟩
                 | refine ⟨fun _ => ?_, fun h => absurd (by with_reducible exact nI_lt (by omega) (by omega)) h⟩
                 | refine ⟨fun h => absurd h (by with_reducible exact nI_pos (by omega)), fun _ => ?_⟩
                 | refine ⟨fun _ => ?_, fun h => absurd (by with_reducible exact nI_0le (by omega)) h⟩
                 | refine ⟨fun h => absurd h (by decide), fun _ => ?_⟩
                 | refine ⟨fun _ => ?_, fun h => absurd (by decide) h⟩
                 | refine ⟨fun _ => ?_, fun h => absurd h (by decide)⟩
                 | refine ⟨fun h => absurd (by decide) h, fun _ => ?_⟩
                 | refine ⟨by decide, ?_⟩
                 | refine ⟨rfl, ?_⟩)
              | (conv => whnf
                 fail_if_success refine Exists.intro ?_ ?_
                 simp only [h90, nI_clamp (show d.length < 2 ^ 31 by omega)]))
            try (conv => whnf)
            rw [show vp_nar FieldType.boolean 0 = 0 from rfl]
            have hz : ∀ r, r ≠ 104 → r ≠ 105 → zu (zu σ1 104 d.length 0) 105 d.length 0 r = σ1 r := fun r h1 h2 => by rw [zu_row h2, zu_row h1]
            have hzlo : ∀ r, r < 101 → zu (zu σ1 104 d.length 0) 105 d.length 0 r = σ r := fun r h => by
              rw [hz r (by omega) (by omega)]
              exact hlo r h
            have hzT : zu (zu σ1 104 d.length 0) 105 d.length 0 104 d.length = 0 := by rw [zu_ne1 (by decide)]; exact zu_same
            have hzO : zu (zu σ1 104 d.length 0) 105 d.length 0 105 d.length = 0 := zu_same
            have hzj : ∀ j, j ≠ d.length → zu (zu σ1 104 d.length 0) 105 d.length 0 104 j = σ1 104 j ∧ zu (zu σ1 104 d.length 0) 105 d.length 0 105 j = σ1 105 j := fun j hj => by
              rw [zu_ne1 (by decide), zu_ne2 hj, zu_ne2 hj, zu_ne1 (by decide)]
              exact ⟨rfl, rfl⟩
            generalize hs2 : zu (zu σ1 104 d.length 0) 105 d.length 0 = σ2 at *
            have hAM2 : σ2 103 = σ1 103 := hz 103 (by decide) (by decide)
            have hfr2 : ∀ r, r ≠ 101 → r ≠ 103 → r ≠ 104 → r ≠ 105 → σ2 r = σ r := fun r h1 h2 h3 h4 => (hz r h3 h4).trans (hfr r h1 h2 h3 h4)
            have l1'' : σ2 98 d.length = nI v := by rw [hzlo 98 (by decide)]; exact l1
            have l2'' : σ2 97 d.length = pCi n R v := by rw [hzlo 97 (by decide)]; exact l2
            have l3'' : σ2 99 d.length = (if bt (R v) v = true then 1 else 0) := by rw [hzlo 99 (by decide)]; exact l3
            have h90' : σ2 90 7 = σ 90 7 := by rw [hzlo 90 (by decide)]
            rw [h90']
            by_cases hno : pCi n R v &&& σ 90 7 = 0
            · refine ⟨fun _ => ?_, fun q => absurd hno q⟩
              by_cases hrd : bt (R v) v = true
              · rw [if_pos hrd] at l3''
                repeat (first
                  | (conv => whnf
                     try dsimp only
                     try simp (decide := true) only [l3'', nI_clamp (show d.length < 2 ^ 31 by omega), zu_same, zu_ne1, zu_ne2, zu_row, zuL_same, zuL_ne1, zuL_ne2, zrow_n1, zx0, zx1, zx2, zx3, nI_1, Nat.reduceAdd, Nat.reduceMul, Int32.reduceAdd, Int32.reduceSub, Int32.reduceMul]
                     first
                     | refine ⟨vp_inb (by decide), ?_⟩
                     | refine ⟨by with_reducible exact zi (by omega), ?_⟩
                     | refine ⟨fun h => absurd h (by with_reducible exact nI_ge (by omega) (by omega)), fun _ => ?_⟩
                     | refine ⟨fun _ => ?_, fun h => absurd (by with_reducible exact nI_le (by omega) (by omega)) h⟩
                     | refine ⟨fun h => absurd h (by with_reducible exact nI_nlt (by omega) (by omega)), fun _ => ?_⟩
                     | refine ⟨fun _ => ?_, fun h => absurd (by with_reducible exact nI_lt (by omega) (by omega)) h⟩
                     | refine ⟨fun h => absurd h (by with_reducible exact nI_pos (by omega)), fun _ => ?_⟩
                     | refine ⟨fun _ => ?_, fun h => absurd (by with_reducible exact nI_0le (by omega)) h⟩
                     | refine ⟨fun h => absurd h (by decide), fun _ => ?_⟩
                     | refine ⟨fun _ => ?_, fun h => absurd (by decide) h⟩
                     | refine ⟨fun _ => ?_, fun h => absurd h (by decide)⟩
                     | refine ⟨fun h => absurd (by decide) h, fun _ => ?_⟩
                     | refine ⟨by decide, ?_⟩
                     | refine ⟨rfl, ?_⟩)
                  | (conv => whnf
                     fail_if_success refine Exists.intro ?_ ?_
                     simp only [l3'', nI_clamp (show d.length < 2 ^ 31 by omega)]))
                try (conv => whnf)
                refine ⟨(true, σ2, τ, n, pc, d.length, pCi n R v), rfl, rfl, ⟨cTu_cg hzlo hTu, (by (try dsimp only [cond_true, cond_false]); rw [hAM2]; exact hkb1), by omega, l2'', hzO⟩, ?_⟩
                try dsimp only [cond_true, cond_false]
                try dsimp only [cond_true, cond_false]
                rw [zPT_cg (fun r _ h2 => hzlo r (by omega)), hzlo 88 (by decide), hzlo 100 (by decide), hAM2]
                rintro _ _ ⟨rfl, σ3, rfl, k1, k2, k3, k4, k5⟩
                have hsc : pSc n R (zMG σ) (σ 89) v (σ1 103) = pLo (zPT σ) (σ 88) (σ 100 7) (σ 100 6) n (pCi n R v) 40 1 (pSet n (pCi n R v) 0 (σ1 103)) := by
                  unfold pSc
                  rw [if_neg (fun q => q hno), if_pos hrd]
                repeat (conv => whnf
                        try dsimp only
                        try simp (decide := true) only [zu_same, zu_ne1, zu_ne2, zu_row, zuL_same, zuL_ne1, zuL_ne2, zrow_n1, zx0, zx1, zx2, zx3, nI_1, Nat.reduceAdd, Nat.reduceMul, Int32.reduceAdd, Int32.reduceSub, Int32.reduceMul]
                        first
                        | refine ⟨vp_inb (by decide), ?_⟩
                        | refine ⟨by with_reducible exact zi (by omega), ?_⟩
                        | refine ⟨fun h => absurd h (by with_reducible exact nI_ge (by omega) (by omega)), fun _ => ?_⟩
                        | refine ⟨fun _ => ?_, fun h => absurd (by with_reducible exact nI_le (by omega) (by omega)) h⟩
                        | refine ⟨fun h => absurd h (by with_reducible exact nI_nlt (by omega) (by omega)), fun _ => ?_⟩
                        | refine ⟨fun _ => ?_, fun h => absurd (by with_reducible exact nI_lt (by omega) (by omega)) h⟩
                        | refine ⟨fun h => absurd h (by with_reducible exact nI_pos (by omega)), fun _ => ?_⟩
                        | refine ⟨fun _ => ?_, fun h => absurd (by with_reducible exact nI_0le (by omega)) h⟩
                        | refine ⟨fun h => absurd h (by decide), fun _ => ?_⟩
                        | refine ⟨fun _ => ?_, fun h => absurd (by decide) h⟩
                        | refine ⟨fun _ => ?_, fun h => absurd h (by decide)⟩
                        | refine ⟨fun h => absurd (by decide) h, fun _ => ?_⟩
                        | refine ⟨by decide, ?_⟩
                        | refine ⟨rfl, ?_⟩)
                try (conv => whnf)
                try dsimp only
                try simp (decide := true) only [zu_same, zu_ne1, zu_ne2, zu_row, zuL_same, zuL_ne1, zuL_ne2, zrow_n1, zx0, zx1, zx2, zx3, nI_1, Nat.reduceAdd, Nat.reduceMul, Int32.reduceAdd, Int32.reduceSub, Int32.reduceMul]
                exact nxt σ3 _ (fun r h1 h2 h3 h4 => (k1 r h1 h2 h3 h4).trans (hfr2 r h1 h2 h3 h4)) (fun j hj => ⟨(k2 j hj).1.trans (hzj j hj).1, (k2 j hj).2.trans (hzj j hj).2⟩) (fun _ => by rw [hsc]; exact ⟨k3, k4, k5⟩) (fun q => absurd q hw)
              · rw [if_neg hrd] at l3''
                repeat (first
                  | (conv => whnf
                     try dsimp only
                     try simp (decide := true) only [l1'', l3'', nI_clamp (show d.length < 2 ^ 31 by omega), zu_same, zu_ne1, zu_ne2, zu_row, zuL_same, zuL_ne1, zuL_ne2, zrow_n1, zx0, zx1, zx2, zx3, nI_1, Nat.reduceAdd, Nat.reduceMul, Int32.reduceAdd, Int32.reduceSub, Int32.reduceMul]
                     first
                     | refine ⟨vp_inb (by decide), ?_⟩
                     | refine ⟨by with_reducible exact zi (by omega), ?_⟩
                     | refine ⟨fun h => absurd h (by with_reducible exact nI_ge (by omega) (by omega)), fun _ => ?_⟩
                     | refine ⟨fun _ => ?_, fun h => absurd (by with_reducible exact nI_le (by omega) (by omega)) h⟩
                     | refine ⟨fun h => absurd h (by with_reducible exact nI_nlt (by omega) (by omega)), fun _ => ?_⟩
                     | refine ⟨fun _ => ?_, fun h => absurd (by with_reducible exact nI_lt (by omega) (by omega)) h⟩
                     | refine ⟨fun h => absurd h (by with_reducible exact nI_pos (by omega)), fun _ => ?_⟩
                     | refine ⟨fun _ => ?_, fun h => absurd (by with_reducible exact nI_0le (by omega)) h⟩
                     | refine ⟨fun h => absurd h (by decide), fun _ => ?_⟩
                     | refine ⟨fun _ => ?_, fun h => absurd (by decide) h⟩
                     | refine ⟨fun _ => ?_, fun h => absurd h (by decide)⟩
                     | refine ⟨fun h => absurd (by decide) h, fun _ => ?_⟩
                     | refine ⟨by decide, ?_⟩
                     | refine ⟨rfl, ?_⟩)
                  | (conv => whnf
                     fail_if_success refine Exists.intro ?_ ?_
                     simp only [l1'', l3'', nI_clamp (show d.length < 2 ^ 31 by omega)]))
                try (conv => whnf)
                refine ⟨(true, σ2, τ, n, pc, v), rfl, rfl, ⟨cTu_cg hzlo hTu, hp1, by rw [hzlo 87 (by decide), hzlo 16 (by decide)]; exact hun v hp1⟩, ?_⟩
                try dsimp only [cond_true, cond_false]
                try dsimp only [cond_true, cond_false]
                rintro _ _ ⟨rfl, σ3, rfl, k1, k2⟩
                rw [zPT_cg (fun r _ h2 => hzlo r (by omega)), hzlo 15 (by decide), hzlo 16 (by decide), hzlo 87 (by decide), hAM2, hfr2 89 (by decide) (by decide) (by decide) (by decide)] at k2
                simp only [hzlo 88 (by decide)] at k2
                have hsc : pSc n R (zMG σ) (σ 89) v (σ1 103) = (fun u => if u = v then (if σ 88 v < 0 then pWo (σ 15) (σ 16) (σ 89 v) (σ 87 v) else pW (zPT σ) (σ1 103) (σ 88 v).toNatClampNeg) else σ1 103 u, 0, 0) := by
                  unfold pSc
                  rw [if_neg (fun q => q hno), if_neg hrd]
                repeat (conv => whnf
                        try dsimp only
                        try simp (decide := true) only [zu_same, zu_ne1, zu_ne2, zu_row, zuL_same, zuL_ne1, zuL_ne2, zrow_n1, zx0, zx1, zx2, zx3, nI_1, Nat.reduceAdd, Nat.reduceMul, Int32.reduceAdd, Int32.reduceSub, Int32.reduceMul]
                        first
                        | refine ⟨vp_inb (by decide), ?_⟩
                        | refine ⟨by with_reducible exact zi (by omega), ?_⟩
                        | refine ⟨fun h => absurd h (by with_reducible exact nI_ge (by omega) (by omega)), fun _ => ?_⟩
                        | refine ⟨fun _ => ?_, fun h => absurd (by with_reducible exact nI_le (by omega) (by omega)) h⟩
                        | refine ⟨fun h => absurd h (by with_reducible exact nI_nlt (by omega) (by omega)), fun _ => ?_⟩
                        | refine ⟨fun _ => ?_, fun h => absurd (by with_reducible exact nI_lt (by omega) (by omega)) h⟩
                        | refine ⟨fun h => absurd h (by with_reducible exact nI_pos (by omega)), fun _ => ?_⟩
                        | refine ⟨fun _ => ?_, fun h => absurd (by with_reducible exact nI_0le (by omega)) h⟩
                        | refine ⟨fun h => absurd h (by decide), fun _ => ?_⟩
                        | refine ⟨fun _ => ?_, fun h => absurd (by decide) h⟩
                        | refine ⟨fun _ => ?_, fun h => absurd h (by decide)⟩
                        | refine ⟨fun h => absurd (by decide) h, fun _ => ?_⟩
                        | refine ⟨by decide, ?_⟩
                        | refine ⟨rfl, ?_⟩)
                try (conv => whnf)
                try dsimp only
                try simp (decide := true) only [zu_same, zu_ne1, zu_ne2, zu_row, zuL_same, zuL_ne1, zuL_ne2, zrow_n1, zx0, zx1, zx2, zx3, nI_1, Nat.reduceAdd, Nat.reduceMul, Int32.reduceAdd, Int32.reduceSub, Int32.reduceMul]
                refine nxt σ3 _ (fun r h1 h2 h3 h4 => (k1 r h1 h2).trans (hfr2 r h1 h2 h3 h4)) (fun j hj => ?_) (fun _ => ?_) (fun q => absurd q hw)
                · rw [k1 104 (by decide) (by decide), k1 105 (by decide) (by decide)]
                  exact hzj j hj
                · rw [hsc, k1 104 (by decide) (by decide), k1 105 (by decide) (by decide)]
                  exact ⟨k2, hzT, hzO⟩
            · refine ⟨fun q => absurd q hno, fun _ => ?_⟩
              repeat (conv => whnf
                      try dsimp only
                      try simp (decide := true) only [zu_same, zu_ne1, zu_ne2, zu_row, zuL_same, zuL_ne1, zuL_ne2, zrow_n1, zx0, zx1, zx2, zx3, nI_1, Nat.reduceAdd, Nat.reduceMul, Int32.reduceAdd, Int32.reduceSub, Int32.reduceMul]
                      first
                      | refine ⟨vp_inb (by decide), ?_⟩
                      | refine ⟨by with_reducible exact zi (by omega), ?_⟩
                      | refine ⟨fun h => absurd h (by with_reducible exact nI_ge (by omega) (by omega)), fun _ => ?_⟩
                      | refine ⟨fun _ => ?_, fun h => absurd (by with_reducible exact nI_le (by omega) (by omega)) h⟩
                      | refine ⟨fun h => absurd h (by with_reducible exact nI_nlt (by omega) (by omega)), fun _ => ?_⟩
                      | refine ⟨fun _ => ?_, fun h => absurd (by with_reducible exact nI_lt (by omega) (by omega)) h⟩
                      | refine ⟨fun h => absurd h (by with_reducible exact nI_pos (by omega)), fun _ => ?_⟩
                      | refine ⟨fun _ => ?_, fun h => absurd (by with_reducible exact nI_0le (by omega)) h⟩
                      | refine ⟨fun h => absurd h (by decide), fun _ => ?_⟩
                      | refine ⟨fun _ => ?_, fun h => absurd (by decide) h⟩
                      | refine ⟨fun _ => ?_, fun h => absurd h (by decide)⟩
                      | refine ⟨fun h => absurd (by decide) h, fun _ => ?_⟩
                      | refine ⟨by decide, ?_⟩
                      | refine ⟨rfl, ?_⟩)
              try (conv => whnf)
              refine ⟨(true, σ2, τ, n, pCi n R v, zBRK), rfl, rfl, ⟨by rw [hzlo 86 (by decide)]; exact hn, h16⟩, ?_⟩
              try dsimp only [cond_true, cond_false]
              have hsc : pSc n R (zMG σ) (σ 89) v (σ1 103) = (pSet n (pCi n R v) zBRK (σ1 103), 0, 0) := by
                unfold pSc
                rw [if_pos hno]
              repeat (conv => whnf
                      try dsimp only
                      try simp (decide := true) only [zu_same, zu_ne1, zu_ne2, zu_row, zuL_same, zuL_ne1, zuL_ne2, zrow_n1, zx0, zx1, zx2, zx3, nI_1, Nat.reduceAdd, Nat.reduceMul, Int32.reduceAdd, Int32.reduceSub, Int32.reduceMul]
                      first
                      | refine ⟨vp_inb (by decide), ?_⟩
                      | refine ⟨by with_reducible exact zi (by omega), ?_⟩
                      | refine ⟨fun h => absurd h (by with_reducible exact nI_ge (by omega) (by omega)), fun _ => ?_⟩
                      | refine ⟨fun _ => ?_, fun h => absurd (by with_reducible exact nI_le (by omega) (by omega)) h⟩
                      | refine ⟨fun h => absurd h (by with_reducible exact nI_nlt (by omega) (by omega)), fun _ => ?_⟩
                      | refine ⟨fun _ => ?_, fun h => absurd (by with_reducible exact nI_lt (by omega) (by omega)) h⟩
                      | refine ⟨fun h => absurd h (by with_reducible exact nI_pos (by omega)), fun _ => ?_⟩
                      | refine ⟨fun _ => ?_, fun h => absurd (by with_reducible exact nI_0le (by omega)) h⟩
                      | refine ⟨fun h => absurd h (by decide), fun _ => ?_⟩
                      | refine ⟨fun _ => ?_, fun h => absurd (by decide) h⟩
                      | refine ⟨fun _ => ?_, fun h => absurd h (by decide)⟩
                      | refine ⟨fun h => absurd (by decide) h, fun _ => ?_⟩
                      | refine ⟨by decide, ?_⟩
                      | refine ⟨rfl, ?_⟩)
              try (conv => whnf)
              try dsimp only
              try simp (decide := true) only [zu_same, zu_ne1, zu_ne2, zu_row, zuL_same, zuL_ne1, zuL_ne2, zrow_n1, zx0, zx1, zx2, zx3, nI_1, Nat.reduceAdd, Nat.reduceMul, Int32.reduceAdd, Int32.reduceSub, Int32.reduceMul]
              refine nxt _ _ (fun r h1 h2 h3 h4 => (zrow_ne h2).trans (hfr2 r h1 h2 h3 h4)) (fun j hj => ?_) (fun _ => ?_) (fun q => absurd q hw)
              · rw [zrow_n1 (by decide), zrow_n1 (by decide)]
                exact hzj j hj
              · rw [hsc, zrow_self, zrow_n1 (by decide), zrow_n1 (by decide), hAM2]
                exact ⟨rfl, hzT, hzO⟩
      refine hG 100 _ _ _ _ _ ?_
      repeat (conv => whnf
              try dsimp only
              try simp (decide := true) only [zu_same, zu_ne1, zu_ne2, zu_row, zuL_same, zuL_ne1, zuL_ne2, zrow_n1, zx0, zx1, zx2, zx3, nI_1, Nat.reduceAdd, Nat.reduceMul, Int32.reduceAdd, Int32.reduceSub, Int32.reduceMul]
              first
              | refine ⟨vp_inb (by decide), ?_⟩
              | refine ⟨by with_reducible exact zi (by omega), ?_⟩
              | refine ⟨fun h => absurd h (by with_reducible exact nI_ge (by omega) (by omega)), fun _ => ?_⟩
              | refine ⟨fun _ => ?_, fun h => absurd (by with_reducible exact nI_le (by omega) (by omega)) h⟩
              | refine ⟨fun h => absurd h (by with_reducible exact nI_nlt (by omega) (by omega)), fun _ => ?_⟩
              | refine ⟨fun _ => ?_, fun h => absurd (by with_reducible exact nI_lt (by omega) (by omega)) h⟩
              | refine ⟨fun h => absurd h (by with_reducible exact nI_pos (by omega)), fun _ => ?_⟩
              | refine ⟨fun _ => ?_, fun h => absurd (by with_reducible exact nI_0le (by omega)) h⟩
              | refine ⟨fun h => absurd h (by decide), fun _ => ?_⟩
              | refine ⟨fun _ => ?_, fun h => absurd (by decide) h⟩
              | refine ⟨fun _ => ?_, fun h => absurd h (by decide)⟩
              | refine ⟨fun h => absurd (by decide) h, fun _ => ?_⟩
              | refine ⟨by decide, ?_⟩
              | refine ⟨rfl, ?_⟩)
      try (conv => whnf)
      exact loop L [] 0 σ none rfl hls rfl hkb (fun _ _ _ _ _ => rfl) (fun j hj => absurd hj (Nat.not_lt_zero j))

/-! ===== a model of some size ===== -/
def spX8_found : zSp := zDQ (X := zSh × zRf × zIn × zLo × zIn × zLo × Nat) (fun x => match x with | (sh, rf, s, t, σ, τ, dr) => [.ref 0]) (fun x => match x with | (sh, rf, s, t, σ, τ, dr) => (126, sh, rf, s, t)) (fun x => match x with | (sh, rf, s, t, σ, τ, dr) => lS 126 1 0 sh rf ∧ lD 1 0 0 dr s t σ τ ∧ cI σ τ 0 0 1 ∧ (σ 0 13 = 0 ∧ σ 0 14 = 0 ∧ σ 0 15 = 0) ∧ dr + 200 < 10000) (fun x r9 μ9 => match x with | (sh, rf, s, t, σ, τ, dr) => r9 = some (.int 1) ∧ ∃ (sh1 : zSh) (rf1 : zRf) (s1 : zIn) (t1 : zLo) (σ1 : zIn) (τ1 : zLo) (dr1 : Nat), μ9 = (153, sh1, rf1, s1, t1) ∧ lS 153 4 6 sh1 rf1 ∧ lD 4 6 18 dr1 s1 t1 σ1 τ1 ∧ cI σ1 τ1 6 18 4 ∧ cFl σ1 6 ∧ dr1 ≤ dr + 200 ∧ ∀ v, v < 6 → kq (σ1 89 v))
abbrev rmX8_found : Room := ({ frames := 5, cells := 27, slots := 108, locals := 120 } : Room)
set_option maxRecDepth 100000 in
set_option maxHeartbeats 4000000 in
theorem ctX8_found (l : Launch) (D : va_G) (cA : Nat → ClassId) : zCt true l D cA yX8_found cX8_found 2 (some .boolean) rmX8_found spX8_found := by
  refine zct_Q (zCX8_found [(115, 0, 0, spX8_addUnit, rmX8_addUnit.cells, rmX8_addUnit.slots), (119, 0, 0, spX8_addVariable, rmX8_addVariable.cells, rmX8_addVariable.slots), (122, 0, 0, spX8_addPart, rmX8_addPart.cells, rmX8_addPart.slots), (125, 0, 0, spX8_define, rmX8_define.cells, rmX8_define.slots), (127, 0, 0, spX8_set, rmX8_set.cells, rmX8_set.slots), (129, 0, 0, spX8_setTurns, rmX8_setTurns.cells, rmX8_setTurns.slots)]) zpX8_found [2, 24, 47, 70, 97] (by decide +kernel) zkX8_found (Or.inr (by decide +kernel)) trivial ⟨by decide +kernel, by decide +kernel⟩ (fun x ad => Nat.le_of_ble_eq_true rfl) ?_ ?_
  · intro p e s m args below meth c A H0 ad0 n0 Q F hml hNw hA hX
    exact ⟨zco_V hX hA F hml hNw (ctX8_addUnit l D cA) ⟨⟨zlX8_found_115, zwX8_addUnit.1.1, zwX8_addUnit.1.2⟩, zwX8_addUnit.2⟩ zdX8_addUnit ⟨Nat.le_of_ble_eq_true rfl, Nat.le_of_ble_eq_true rfl⟩ (ci := 8) (by decide) rfl (by rintro av μ K ⟨⟨sh, rf, s, t, σ, τ, un, pc, dr⟩, rfl, rfl, ⟨h, -⟩, -⟩; exact ⟨_, _, rfl, lS_0 h⟩), zco_V hX hA F hml hNw (ctX8_addVariable l D cA) ⟨⟨zlX8_found_119, zwX8_addVariable.1.1, zwX8_addVariable.1.2⟩, zwX8_addVariable.2⟩ zdX8_addVariable ⟨Nat.le_of_ble_eq_true rfl, Nat.le_of_ble_eq_true rfl⟩ (ci := 8) (by decide) rfl (by rintro av μ K ⟨⟨sh, rf, s, t, σ, τ, n, pc, dr⟩, rfl, rfl, ⟨h, -⟩, -⟩; exact ⟨_, _, rfl, lS_0 h⟩), zco_V hX hA F hml hNw (ctX8_addPart l D cA) ⟨⟨zlX8_found_122, zwX8_addPart.1.1, zwX8_addPart.1.2⟩, zwX8_addPart.2⟩ zdX8_addPart ⟨Nat.le_of_ble_eq_true rfl, Nat.le_of_ble_eq_true rfl⟩ (ci := 8) (by decide) rfl (by rintro av μ K ⟨⟨m, sh, rf, s, t, σ, τ, pc, dr⟩, rfl, rfl, ⟨h, -⟩, -⟩; exact ⟨_, _, rfl, lS_0 h⟩), zco_V hX hA F hml hNw (ctX8_define l D cA) ⟨⟨zlX8_found_125, zwX8_define.1.1, zwX8_define.1.2⟩, zwX8_define.2⟩ zdX8_define ⟨Nat.le_of_ble_eq_true rfl, Nat.le_of_ble_eq_true rfl⟩ (ci := 8) (by decide) rfl (by rintro av μ K ⟨⟨m, sh, rf, s, t, σ, τ, pc, dr⟩, rfl, rfl, ⟨h, -⟩, -⟩; exact ⟨_, _, rfl, lS_0 h⟩), zco_V hX hA F hml hNw (ctX8_set l D cA) ⟨⟨zlX8_found_127, zwX8_set.1.1, zwX8_set.1.2⟩, zwX8_set.2⟩ zdX8_set ⟨Nat.le_of_ble_eq_true rfl, Nat.le_of_ble_eq_true rfl⟩ (ci := 8) (by decide) rfl (by rintro av μ K ⟨⟨m, sh, rf, s, t, σ, τ, pc, dr⟩, rfl, rfl, ⟨h, -⟩, -⟩; exact ⟨_, _, rfl, lS_0 h⟩), zco_V hX hA F hml hNw (ctX8_setTurns l D cA) ⟨⟨zlX8_found_129, zwX8_setTurns.1.1, zwX8_setTurns.1.2⟩, zwX8_setTurns.2⟩ zdX8_setTurns ⟨Nat.le_of_ble_eq_true rfl, Nat.le_of_ble_eq_true rfl⟩ (ci := 8) (by decide) rfl (by rintro av μ K ⟨⟨m, sh, rf, s, t, σ, τ, pc, dr⟩, rfl, rfl, ⟨h, -⟩, -⟩; exact ⟨_, _, rfl, lS_0 h⟩), trivial⟩
  · rintro ⟨sh, rf, s, t, σ, τ, dr⟩ Ret hP hK Gl hG
    try dsimp only at hP hK
    show Gl 0 (zent 2 [.ref 0]) [] (0, 0) ((126, sh, rf, s, t))
    obtain ⟨hS, hD, hI, hf0, hdr⟩ := hP
    have h97 : ∀ (l1 : Option Value) (sh : zSh) (rf : zRf) (s : zIn) (t : zLo) (σ : zIn) (τ : zLo) (d : Nat), lS 153 4 6 sh rf → lD 4 6 18 d s t σ τ → cI σ τ 6 18 4 → cFl σ 6 → (∀ v, v < 6 → kq (σ 89 v)) → d ≤ dr + 156 → Gl 97 [some (.ref 0), l1] [] (27, 108) (153, sh, rf, s, t) := by
      intro l1 sh rf s t σ τ d hS hD hI hF hk9 hd
      refine hG 40 _ _ _ _ _ ?_
      repeat (conv => whnf
              try dsimp only
              try simp (decide := true) only [zu_same, zu_ne1, zu_ne2, zu_row, zuL_same, zuL_ne1, zuL_ne2, zrow_n1, zx0, zx1, zx2, zx3, nI_1, Nat.reduceAdd, Nat.reduceMul, Int32.reduceAdd, Int32.reduceSub, Int32.reduceMul]
              first
              | refine ⟨vp_inb (by decide), ?_⟩
              | refine ⟨by with_reducible exact zi (by omega), ?_⟩
              | refine ⟨fun h => absurd h (by with_reducible exact nI_ge (by omega) (by omega)), fun _ => ?_⟩
              | refine ⟨fun _ => ?_, fun h => absurd (by with_reducible exact nI_le (by omega) (by omega)) h⟩
              | refine ⟨fun h => absurd h (by with_reducible exact nI_nlt (by omega) (by omega)), fun _ => ?_⟩
              | refine ⟨fun _ => ?_, fun h => absurd (by with_reducible exact nI_lt (by omega) (by omega)) h⟩
              | refine ⟨fun h => absurd h (by with_reducible exact nI_pos (by omega)), fun _ => ?_⟩
              | refine ⟨fun _ => ?_, fun h => absurd (by with_reducible exact nI_0le (by omega)) h⟩
              | refine ⟨fun h => absurd h (by decide), fun _ => ?_⟩
              | refine ⟨fun _ => ?_, fun h => absurd (by decide) h⟩
              | refine ⟨fun _ => ?_, fun h => absurd h (by decide)⟩
              | refine ⟨fun h => absurd (by decide) h, fun _ => ?_⟩
              | refine ⟨by decide, ?_⟩
              | refine ⟨rfl, ?_⟩)
      try (conv => whnf)
      refine ⟨(153, sh, rf, s, t, σ, τ, 18, d), rfl, rfl, ⟨hS, hD, hI, hF, by omega⟩, ?_⟩
      try dsimp only [cond_true, cond_false]
      rintro _ _ ⟨rfl, s1, t1, σ1, d1, rfl, hD1, hI1, hF1, hd1, h89⟩
      repeat (conv => whnf
              try dsimp only
              try simp (decide := true) only [zu_same, zu_ne1, zu_ne2, zu_row, zuL_same, zuL_ne1, zuL_ne2, zrow_n1, zx0, zx1, zx2, zx3, nI_1, Nat.reduceAdd, Nat.reduceMul, Int32.reduceAdd, Int32.reduceSub, Int32.reduceMul]
              first
              | refine ⟨vp_inb (by decide), ?_⟩
              | refine ⟨by with_reducible exact zi (by omega), ?_⟩
              | refine ⟨fun h => absurd h (by with_reducible exact nI_ge (by omega) (by omega)), fun _ => ?_⟩
              | refine ⟨fun _ => ?_, fun h => absurd (by with_reducible exact nI_le (by omega) (by omega)) h⟩
              | refine ⟨fun h => absurd h (by with_reducible exact nI_nlt (by omega) (by omega)), fun _ => ?_⟩
              | refine ⟨fun _ => ?_, fun h => absurd (by with_reducible exact nI_lt (by omega) (by omega)) h⟩
              | refine ⟨fun h => absurd h (by with_reducible exact nI_pos (by omega)), fun _ => ?_⟩
              | refine ⟨fun _ => ?_, fun h => absurd (by with_reducible exact nI_0le (by omega)) h⟩
              | refine ⟨fun h => absurd h (by decide), fun _ => ?_⟩
              | refine ⟨fun _ => ?_, fun h => absurd (by decide) h⟩
              | refine ⟨fun _ => ?_, fun h => absurd h (by decide)⟩
              | refine ⟨fun h => absurd (by decide) h, fun _ => ?_⟩
              | refine ⟨by decide, ?_⟩
              | refine ⟨rfl, ?_⟩)
      try (conv => whnf)
      exact hK _ _ ⟨rfl, sh, rf, s1, t1, σ1, τ, d1, rfl, hS, hD1, hI1, hF1, by omega, by rw [h89]; exact hk9⟩
    have h70 : ∀ (f k : Nat) (sh : zSh) (rf : zRf) (s : zIn) (t : zLo) (σ : zIn) (τ : zLo) (d : Nat), k + f = 5 → lS 153 4 6 sh rf → lD 4 6 18 d s t σ τ → cI σ τ 6 18 4 → cFl σ 6 → (∀ v, v < 6 → kq (σ 89 v)) → d ≤ dr + 126 + 6 * k → Gl 70 [some (.ref 0), some (.int (nI k))] [] (27, 108) (153, sh, rf, s, t) := by
      intro f
      induction f with
      | zero =>
        intro k sh rf s t σ τ d hk hS hD hI hF hk9 hd
        rw [show k = 5 by omega] at hd ⊢
        refine hG 40 _ _ _ _ _ ?_
        repeat (conv => whnf
                try dsimp only
                try simp (decide := true) only [zu_same, zu_ne1, zu_ne2, zu_row, zuL_same, zuL_ne1, zuL_ne2, zrow_n1, zx0, zx1, zx2, zx3, nI_1, Nat.reduceAdd, Nat.reduceMul, Int32.reduceAdd, Int32.reduceSub, Int32.reduceMul]
                first
                | refine ⟨vp_inb (by decide), ?_⟩
                | refine ⟨by with_reducible exact zi (by omega), ?_⟩
                | refine ⟨fun h => absurd h (by with_reducible exact nI_ge (by omega) (by omega)), fun _ => ?_⟩
                | refine ⟨fun _ => ?_, fun h => absurd (by with_reducible exact nI_le (by omega) (by omega)) h⟩
                | refine ⟨fun h => absurd h (by with_reducible exact nI_nlt (by omega) (by omega)), fun _ => ?_⟩
                | refine ⟨fun _ => ?_, fun h => absurd (by with_reducible exact nI_lt (by omega) (by omega)) h⟩
                | refine ⟨fun h => absurd h (by with_reducible exact nI_pos (by omega)), fun _ => ?_⟩
                | refine ⟨fun _ => ?_, fun h => absurd (by with_reducible exact nI_0le (by omega)) h⟩
                | refine ⟨fun h => absurd h (by decide), fun _ => ?_⟩
                | refine ⟨fun _ => ?_, fun h => absurd (by decide) h⟩
                | refine ⟨fun _ => ?_, fun h => absurd h (by decide)⟩
                | refine ⟨fun h => absurd (by decide) h, fun _ => ?_⟩
                | refine ⟨by decide, ?_⟩
                | refine ⟨rfl, ?_⟩)
        try (conv => whnf)
        try dsimp only
        try simp (decide := true) only [zu_same, zu_ne1, zu_ne2, zu_row, zuL_same, zuL_ne1, zuL_ne2, zrow_n1, zx0, zx1, zx2, zx3, nI_1, Nat.reduceAdd, Nat.reduceMul, Int32.reduceAdd, Int32.reduceSub, Int32.reduceMul]
        exact h97 _ sh rf s t σ τ d hS hD hI hF hk9 (by omega)
      | succ f ih =>
        intro k sh rf s t σ τ d hk hS hD hI hF hk9 hd
        refine hG 40 _ _ _ _ _ ?_
        repeat (first
          | (conv => whnf
             try dsimp only
             try simp (decide := true) only [show (5 : Int32) = nI 5 from rfl, zu_same, zu_ne1, zu_ne2, zu_row, zuL_same, zuL_ne1, zuL_ne2, zrow_n1, zx0, zx1, zx2, zx3, nI_1, Nat.reduceAdd, Nat.reduceMul, Int32.reduceAdd, Int32.reduceSub, Int32.reduceMul]
             first
             | refine ⟨vp_inb (by decide), ?_⟩
             | refine ⟨by with_reducible exact zi (by omega), ?_⟩
             | refine ⟨fun h => absurd h (by with_reducible exact nI_ge (by omega) (by omega)), fun _ => ?_⟩
             | refine ⟨fun _ => ?_, fun h => absurd (by with_reducible exact nI_le (by omega) (by omega)) h⟩
             | refine ⟨fun h => absurd h (by with_reducible exact nI_nlt (by omega) (by omega)), fun _ => ?_⟩
             | refine ⟨fun _ => ?_, fun h => absurd (by with_reducible exact nI_lt (by omega) (by omega)) h⟩
             | refine ⟨fun h => absurd h (by with_reducible exact nI_pos (by omega)), fun _ => ?_⟩
             | refine ⟨fun _ => ?_, fun h => absurd (by with_reducible exact nI_0le (by omega)) h⟩
             | refine ⟨fun h => absurd h (by decide), fun _ => ?_⟩
             | refine ⟨fun _ => ?_, fun h => absurd (by decide) h⟩
             | refine ⟨fun _ => ?_, fun h => absurd h (by decide)⟩
             | refine ⟨fun h => absurd (by decide) h, fun _ => ?_⟩
             | refine ⟨by decide, ?_⟩
             | refine ⟨rfl, ?_⟩)
          | (conv => whnf
             fail_if_success refine Exists.intro ?_ ?_
             simp only [show (5 : Int32) = nI 5 from rfl]))
        try (conv => whnf)
        refine ⟨(153, sh, rf, s, t, σ, τ, 18, d), rfl, rfl, ⟨hS, hD, hI, by omega, by omega⟩, ?_⟩
        try dsimp only [cond_true, cond_false]
        rintro _ _ ⟨rfl, s1, t1, σ1, d1, rfl, hD1, hI1, hd1, hz1, h89⟩
        repeat (conv => whnf
                try dsimp only
                try simp (decide := true) only [zu_same, zu_ne1, zu_ne2, zu_row, zuL_same, zuL_ne1, zuL_ne2, zrow_n1, zx0, zx1, zx2, zx3, nI_1, Nat.reduceAdd, Nat.reduceMul, Int32.reduceAdd, Int32.reduceSub, Int32.reduceMul]
                first
                | refine ⟨vp_inb (by decide), ?_⟩
                | refine ⟨by with_reducible exact zi (by omega), ?_⟩
                | refine ⟨fun h => absurd h (by with_reducible exact nI_ge (by omega) (by omega)), fun _ => ?_⟩
                | refine ⟨fun _ => ?_, fun h => absurd (by with_reducible exact nI_le (by omega) (by omega)) h⟩
                | refine ⟨fun h => absurd h (by with_reducible exact nI_nlt (by omega) (by omega)), fun _ => ?_⟩
                | refine ⟨fun _ => ?_, fun h => absurd (by with_reducible exact nI_lt (by omega) (by omega)) h⟩
                | refine ⟨fun h => absurd h (by with_reducible exact nI_pos (by omega)), fun _ => ?_⟩
                | refine ⟨fun _ => ?_, fun h => absurd (by with_reducible exact nI_0le (by omega)) h⟩
                | refine ⟨fun h => absurd h (by decide), fun _ => ?_⟩
                | refine ⟨fun _ => ?_, fun h => absurd (by decide) h⟩
                | refine ⟨fun _ => ?_, fun h => absurd h (by decide)⟩
                | refine ⟨fun h => absurd (by decide) h, fun _ => ?_⟩
                | refine ⟨by decide, ?_⟩
                | refine ⟨rfl, ?_⟩)
        try (conv => whnf)
        refine ⟨(153, sh, rf, s1, t1, σ1, τ, 18, d1), rfl, rfl, ⟨hS, hD1, hI1, cFl0 hz1, by omega⟩, ?_⟩
        try dsimp only [cond_true, cond_false]
        rintro _ _ ⟨rfl, s2, t2, σ2, d2, rfl, hD2, hI2, hF2, hd2, hk2⟩
        repeat (conv => whnf
                try dsimp only
                try simp (decide := true) only [zu_same, zu_ne1, zu_ne2, zu_row, zuL_same, zuL_ne1, zuL_ne2, zrow_n1, zx0, zx1, zx2, zx3, nI_1, Nat.reduceAdd, Nat.reduceMul, Int32.reduceAdd, Int32.reduceSub, Int32.reduceMul]
                first
                | refine ⟨vp_inb (by decide), ?_⟩
                | refine ⟨by with_reducible exact zi (by omega), ?_⟩
                | refine ⟨fun h => absurd h (by with_reducible exact nI_ge (by omega) (by omega)), fun _ => ?_⟩
                | refine ⟨fun _ => ?_, fun h => absurd (by with_reducible exact nI_le (by omega) (by omega)) h⟩
                | refine ⟨fun h => absurd h (by with_reducible exact nI_nlt (by omega) (by omega)), fun _ => ?_⟩
                | refine ⟨fun _ => ?_, fun h => absurd (by with_reducible exact nI_lt (by omega) (by omega)) h⟩
                | refine ⟨fun h => absurd h (by with_reducible exact nI_pos (by omega)), fun _ => ?_⟩
                | refine ⟨fun _ => ?_, fun h => absurd (by with_reducible exact nI_0le (by omega)) h⟩
                | refine ⟨fun h => absurd h (by decide), fun _ => ?_⟩
                | refine ⟨fun _ => ?_, fun h => absurd (by decide) h⟩
                | refine ⟨fun _ => ?_, fun h => absurd h (by decide)⟩
                | refine ⟨fun h => absurd (by decide) h, fun _ => ?_⟩
                | refine ⟨by decide, ?_⟩
                | refine ⟨rfl, ?_⟩)
        try (conv => whnf)
        try dsimp only
        try simp (decide := true) only [zu_same, zu_ne1, zu_ne2, zu_row, zuL_same, zuL_ne1, zuL_ne2, zrow_n1, zx0, zx1, zx2, zx3, nI_1, Nat.reduceAdd, Nat.reduceMul, Int32.reduceAdd, Int32.reduceSub, Int32.reduceMul]
        exact ih (k + 1) sh rf s2 t2 σ2 τ d2 (by omega) hS hD2 hI2 hF2 (hk2 (by rw [h89]; exact hk9)) (by omega)
    have h47 : ∀ (f k : Nat) (sh : zSh) (rf : zRf) (s : zIn) (t : zLo) (σ : zIn) (τ : zLo) (d : Nat), k + f = 18 → lS (135 + k) 4 6 sh rf → lD 4 6 k d s t σ τ → cI σ τ 6 k 4 → (σ 0 13 = 0 ∧ σ 0 14 = 0 ∧ σ 0 15 = 0) → (∀ v, v < 6 → kq (σ 89 v)) → d ≤ dr + 36 + 5 * k → Gl 47 [some (.ref 0), some (.int (nI k))] [] (9 + k, 36 + 4 * k) (135 + k, sh, rf, s, t) := by
      intro f
      induction f with
      | zero =>
        intro k sh rf s t σ τ d hk hS hD hI hz hk9 hd
        have ek : k = 18 := by omega
        subst ek
        refine hG 40 _ _ _ _ _ ?_
        repeat (conv => whnf
                try dsimp only
                try simp (decide := true) only [zu_same, zu_ne1, zu_ne2, zu_row, zuL_same, zuL_ne1, zuL_ne2, zrow_n1, zx0, zx1, zx2, zx3, nI_1, Nat.reduceAdd, Nat.reduceMul, Int32.reduceAdd, Int32.reduceSub, Int32.reduceMul]
                first
                | refine ⟨vp_inb (by decide), ?_⟩
                | refine ⟨by with_reducible exact zi (by omega), ?_⟩
                | refine ⟨fun h => absurd h (by with_reducible exact nI_ge (by omega) (by omega)), fun _ => ?_⟩
                | refine ⟨fun _ => ?_, fun h => absurd (by with_reducible exact nI_le (by omega) (by omega)) h⟩
                | refine ⟨fun h => absurd h (by with_reducible exact nI_nlt (by omega) (by omega)), fun _ => ?_⟩
                | refine ⟨fun _ => ?_, fun h => absurd (by with_reducible exact nI_lt (by omega) (by omega)) h⟩
                | refine ⟨fun h => absurd h (by with_reducible exact nI_pos (by omega)), fun _ => ?_⟩
                | refine ⟨fun _ => ?_, fun h => absurd (by with_reducible exact nI_0le (by omega)) h⟩
                | refine ⟨fun h => absurd h (by decide), fun _ => ?_⟩
                | refine ⟨fun _ => ?_, fun h => absurd (by decide) h⟩
                | refine ⟨fun _ => ?_, fun h => absurd h (by decide)⟩
                | refine ⟨fun h => absurd (by decide) h, fun _ => ?_⟩
                | refine ⟨by decide, ?_⟩
                | refine ⟨rfl, ?_⟩)
        try (conv => whnf)
        try dsimp only
        try simp (decide := true) only [zu_same, zu_ne1, zu_ne2, zu_row, zuL_same, zuL_ne1, zuL_ne2, zrow_n1, zx0, zx1, zx2, zx3, nI_1, Nat.reduceAdd, Nat.reduceMul, Int32.reduceAdd, Int32.reduceSub, Int32.reduceMul]
        exact h70 5 0 sh rf s t σ τ d rfl hS hD hI (cFl0 hz) hk9 (by omega)
      | succ f ih =>
        intro k sh rf s t σ τ d hk hS hD hI hz hk9 hd
        refine hG 40 _ _ _ _ _ ?_
        repeat (first
          | (conv => whnf
             try dsimp only
             try simp (decide := true) only [show (18 : Int32) = nI 18 from rfl, zu_same, zu_ne1, zu_ne2, zu_row, zuL_same, zuL_ne1, zuL_ne2, zrow_n1, zx0, zx1, zx2, zx3, nI_1, Nat.reduceAdd, Nat.reduceMul, Int32.reduceAdd, Int32.reduceSub, Int32.reduceMul]
             first
             | refine ⟨vp_inb (by decide), ?_⟩
             | refine ⟨by with_reducible exact zi (by omega), ?_⟩
             | refine ⟨fun h => absurd h (by with_reducible exact nI_ge (by omega) (by omega)), fun _ => ?_⟩
             | refine ⟨fun _ => ?_, fun h => absurd (by with_reducible exact nI_le (by omega) (by omega)) h⟩
             | refine ⟨fun h => absurd h (by with_reducible exact nI_nlt (by omega) (by omega)), fun _ => ?_⟩
             | refine ⟨fun _ => ?_, fun h => absurd (by with_reducible exact nI_lt (by omega) (by omega)) h⟩
             | refine ⟨fun h => absurd h (by with_reducible exact nI_pos (by omega)), fun _ => ?_⟩
             | refine ⟨fun _ => ?_, fun h => absurd (by with_reducible exact nI_0le (by omega)) h⟩
             | refine ⟨fun h => absurd h (by decide), fun _ => ?_⟩
             | refine ⟨fun _ => ?_, fun h => absurd (by decide) h⟩
             | refine ⟨fun _ => ?_, fun h => absurd h (by decide)⟩
             | refine ⟨fun h => absurd (by decide) h, fun _ => ?_⟩
             | refine ⟨by decide, ?_⟩
             | refine ⟨rfl, ?_⟩)
          | (conv => whnf
             fail_if_success refine Exists.intro ?_ ?_
             simp only [show (18 : Int32) = nI 18 from rfl]))
        try (conv => whnf)
        refine ⟨show 9 + k + 1 ≤ 27 ∧ 36 + 4 * k + 4 ≤ 108 from ⟨by omega, by omega⟩, ?_⟩
        repeat (conv => whnf
                try dsimp only
                try simp (decide := true) only [zu_same, zu_ne1, zu_ne2, zu_row, zuL_same, zuL_ne1, zuL_ne2, zrow_n1, zx0, zx1, zx2, zx3, nI_1, Nat.reduceAdd, Nat.reduceMul, Int32.reduceAdd, Int32.reduceSub, Int32.reduceMul]
                first
                | refine ⟨vp_inb (by decide), ?_⟩
                | refine ⟨by with_reducible exact zi (by omega), ?_⟩
                | refine ⟨fun h => absurd h (by with_reducible exact nI_ge (by omega) (by omega)), fun _ => ?_⟩
                | refine ⟨fun _ => ?_, fun h => absurd (by with_reducible exact nI_le (by omega) (by omega)) h⟩
                | refine ⟨fun h => absurd h (by with_reducible exact nI_nlt (by omega) (by omega)), fun _ => ?_⟩
                | refine ⟨fun _ => ?_, fun h => absurd (by with_reducible exact nI_lt (by omega) (by omega)) h⟩
                | refine ⟨fun h => absurd h (by with_reducible exact nI_pos (by omega)), fun _ => ?_⟩
                | refine ⟨fun _ => ?_, fun h => absurd (by with_reducible exact nI_0le (by omega)) h⟩
                | refine ⟨fun h => absurd h (by decide), fun _ => ?_⟩
                | refine ⟨fun _ => ?_, fun h => absurd (by decide) h⟩
                | refine ⟨fun _ => ?_, fun h => absurd h (by decide)⟩
                | refine ⟨fun h => absurd (by decide) h, fun _ => ?_⟩
                | refine ⟨by decide, ?_⟩
                | refine ⟨rfl, ?_⟩)
        try (conv => whnf)
        refine ⟨(135 + k, sh, rf, s, t, σ, τ, k, d), rfl, rfl, ⟨hS, hD, hI, by omega, by omega, by omega⟩, ?_⟩
        try dsimp only [cond_true, cond_false]
        rintro _ _ ⟨rfl, sh1, rf1, s1, t1, σ1, τ1, d1, rfl, hS1, hD1, hI1, hf1, hd1⟩
        repeat (conv => whnf
                try dsimp only
                try simp (decide := true) only [zu_same, zu_ne1, zu_ne2, zu_row, zuL_same, zuL_ne1, zuL_ne2, zrow_n1, zx0, zx1, zx2, zx3, nI_1, Nat.reduceAdd, Nat.reduceMul, Int32.reduceAdd, Int32.reduceSub, Int32.reduceMul]
                first
                | refine ⟨vp_inb (by decide), ?_⟩
                | refine ⟨by with_reducible exact zi (by omega), ?_⟩
                | refine ⟨fun h => absurd h (by with_reducible exact nI_ge (by omega) (by omega)), fun _ => ?_⟩
                | refine ⟨fun _ => ?_, fun h => absurd (by with_reducible exact nI_le (by omega) (by omega)) h⟩
                | refine ⟨fun h => absurd h (by with_reducible exact nI_nlt (by omega) (by omega)), fun _ => ?_⟩
                | refine ⟨fun _ => ?_, fun h => absurd (by with_reducible exact nI_lt (by omega) (by omega)) h⟩
                | refine ⟨fun h => absurd h (by with_reducible exact nI_pos (by omega)), fun _ => ?_⟩
                | refine ⟨fun _ => ?_, fun h => absurd (by with_reducible exact nI_0le (by omega)) h⟩
                | refine ⟨fun h => absurd h (by decide), fun _ => ?_⟩
                | refine ⟨fun _ => ?_, fun h => absurd (by decide) h⟩
                | refine ⟨fun _ => ?_, fun h => absurd h (by decide)⟩
                | refine ⟨fun h => absurd (by decide) h, fun _ => ?_⟩
                | refine ⟨by decide, ?_⟩
                | refine ⟨rfl, ?_⟩)
        try (conv => whnf)
        try dsimp only
        try simp (decide := true) only [zu_same, zu_ne1, zu_ne2, zu_row, zuL_same, zuL_ne1, zuL_ne2, zrow_n1, zx0, zx1, zx2, zx3, nI_1, Nat.reduceAdd, Nat.reduceMul, Int32.reduceAdd, Int32.reduceSub, Int32.reduceMul]
        have := ih (k + 1) sh1 rf1 s1 t1 σ1 τ1 d1 (by omega) (by rw [show 135 + (k + 1) = 135 + k + 1 by omega]; exact hS1) hD1 hI1 (by rw [hf1 0 (by decide)]; exact hz) (by rw [hf1 89 (by decide)]; exact hk9) (by omega)
        rw [show 9 + (k + 1) = 9 + k + 1 by omega, show 36 + 4 * (k + 1) = 36 + 4 * k + 4 by omega, show 135 + (k + 1) = 135 + k + 1 by omega] at this
        exact this
    have h24 : ∀ (f k : Nat) (sh : zSh) (rf : zRf) (s : zIn) (t : zLo) (σ : zIn) (τ : zLo) (d : Nat), k + f = 6 → lS (129 + k) 4 k sh rf → lD 4 k 0 d s t σ τ → cI σ τ k 0 4 → (σ 0 13 = 0 ∧ σ 0 14 = 0 ∧ σ 0 15 = 0) → (∀ v, v < k → kq (σ 89 v)) → d ≤ dr + 24 + 2 * k → Gl 24 [some (.ref 0), some (.int (nI k))] [] (3 + k, 18 + 3 * k) (129 + k, sh, rf, s, t) := by
      intro f
      induction f with
      | zero =>
        intro k sh rf s t σ τ d hk hS hD hI hz hk9 hd
        have ek : k = 6 := by omega
        subst ek
        refine hG 40 _ _ _ _ _ ?_
        repeat (conv => whnf
                try dsimp only
                try simp (decide := true) only [zu_same, zu_ne1, zu_ne2, zu_row, zuL_same, zuL_ne1, zuL_ne2, zrow_n1, zx0, zx1, zx2, zx3, nI_1, Nat.reduceAdd, Nat.reduceMul, Int32.reduceAdd, Int32.reduceSub, Int32.reduceMul]
                first
                | refine ⟨vp_inb (by decide), ?_⟩
                | refine ⟨by with_reducible exact zi (by omega), ?_⟩
                | refine ⟨fun h => absurd h (by with_reducible exact nI_ge (by omega) (by omega)), fun _ => ?_⟩
                | refine ⟨fun _ => ?_, fun h => absurd (by with_reducible exact nI_le (by omega) (by omega)) h⟩
                | refine ⟨fun h => absurd h (by with_reducible exact nI_nlt (by omega) (by omega)), fun _ => ?_⟩
                | refine ⟨fun _ => ?_, fun h => absurd (by with_reducible exact nI_lt (by omega) (by omega)) h⟩
                | refine ⟨fun h => absurd h (by with_reducible exact nI_pos (by omega)), fun _ => ?_⟩
                | refine ⟨fun _ => ?_, fun h => absurd (by with_reducible exact nI_0le (by omega)) h⟩
                | refine ⟨fun h => absurd h (by decide), fun _ => ?_⟩
                | refine ⟨fun _ => ?_, fun h => absurd (by decide) h⟩
                | refine ⟨fun _ => ?_, fun h => absurd h (by decide)⟩
                | refine ⟨fun h => absurd (by decide) h, fun _ => ?_⟩
                | refine ⟨by decide, ?_⟩
                | refine ⟨rfl, ?_⟩)
        try (conv => whnf)
        try dsimp only
        try simp (decide := true) only [zu_same, zu_ne1, zu_ne2, zu_row, zuL_same, zuL_ne1, zuL_ne2, zrow_n1, zx0, zx1, zx2, zx3, nI_1, Nat.reduceAdd, Nat.reduceMul, Int32.reduceAdd, Int32.reduceSub, Int32.reduceMul]
        exact h47 18 0 sh rf s t σ τ d rfl hS hD hI hz hk9 (by omega)
      | succ f ih =>
        intro k sh rf s t σ τ d hk hS hD hI hz hk9 hd
        refine hG 40 _ _ _ _ _ ?_
        repeat (first
          | (conv => whnf
             try dsimp only
             try simp (decide := true) only [show (6 : Int32) = nI 6 from rfl, zu_same, zu_ne1, zu_ne2, zu_row, zuL_same, zuL_ne1, zuL_ne2, zrow_n1, zx0, zx1, zx2, zx3, nI_1, Nat.reduceAdd, Nat.reduceMul, Int32.reduceAdd, Int32.reduceSub, Int32.reduceMul]
             first
             | refine ⟨vp_inb (by decide), ?_⟩
             | refine ⟨by with_reducible exact zi (by omega), ?_⟩
             | refine ⟨fun h => absurd h (by with_reducible exact nI_ge (by omega) (by omega)), fun _ => ?_⟩
             | refine ⟨fun _ => ?_, fun h => absurd (by with_reducible exact nI_le (by omega) (by omega)) h⟩
             | refine ⟨fun h => absurd h (by with_reducible exact nI_nlt (by omega) (by omega)), fun _ => ?_⟩
             | refine ⟨fun _ => ?_, fun h => absurd (by with_reducible exact nI_lt (by omega) (by omega)) h⟩
             | refine ⟨fun h => absurd h (by with_reducible exact nI_pos (by omega)), fun _ => ?_⟩
             | refine ⟨fun _ => ?_, fun h => absurd (by with_reducible exact nI_0le (by omega)) h⟩
             | refine ⟨fun h => absurd h (by decide), fun _ => ?_⟩
             | refine ⟨fun _ => ?_, fun h => absurd (by decide) h⟩
             | refine ⟨fun _ => ?_, fun h => absurd h (by decide)⟩
             | refine ⟨fun h => absurd (by decide) h, fun _ => ?_⟩
             | refine ⟨by decide, ?_⟩
             | refine ⟨rfl, ?_⟩)
          | (conv => whnf
             fail_if_success refine Exists.intro ?_ ?_
             simp only [show (6 : Int32) = nI 6 from rfl]))
        try (conv => whnf)
        refine ⟨show 3 + k + 1 ≤ 27 ∧ 18 + 3 * k + 3 ≤ 108 from ⟨by omega, by omega⟩, ?_⟩
        repeat (conv => whnf
                try dsimp only
                try simp (decide := true) only [zu_same, zu_ne1, zu_ne2, zu_row, zuL_same, zuL_ne1, zuL_ne2, zrow_n1, zx0, zx1, zx2, zx3, nI_1, Nat.reduceAdd, Nat.reduceMul, Int32.reduceAdd, Int32.reduceSub, Int32.reduceMul]
                first
                | refine ⟨vp_inb (by decide), ?_⟩
                | refine ⟨by with_reducible exact zi (by omega), ?_⟩
                | refine ⟨fun h => absurd h (by with_reducible exact nI_ge (by omega) (by omega)), fun _ => ?_⟩
                | refine ⟨fun _ => ?_, fun h => absurd (by with_reducible exact nI_le (by omega) (by omega)) h⟩
                | refine ⟨fun h => absurd h (by with_reducible exact nI_nlt (by omega) (by omega)), fun _ => ?_⟩
                | refine ⟨fun _ => ?_, fun h => absurd (by with_reducible exact nI_lt (by omega) (by omega)) h⟩
                | refine ⟨fun h => absurd h (by with_reducible exact nI_pos (by omega)), fun _ => ?_⟩
                | refine ⟨fun _ => ?_, fun h => absurd (by with_reducible exact nI_0le (by omega)) h⟩
                | refine ⟨fun h => absurd h (by decide), fun _ => ?_⟩
                | refine ⟨fun _ => ?_, fun h => absurd (by decide) h⟩
                | refine ⟨fun _ => ?_, fun h => absurd h (by decide)⟩
                | refine ⟨fun h => absurd (by decide) h, fun _ => ?_⟩
                | refine ⟨by decide, ?_⟩
                | refine ⟨rfl, ?_⟩)
        try (conv => whnf)
        refine ⟨(sh, rf, s, t, σ, τ, k, 0, d), rfl, rfl, ⟨hS, hD, hI, by omega, by omega⟩, ?_⟩
        try dsimp only [cond_true, cond_false]
        rintro _ _ ⟨rfl, sh1, rf1, s1, t1, σ1, d1, rfl, hS1, hD1, hI1, hz1, hd1, hk1⟩
        repeat (conv => whnf
                try dsimp only
                try simp (decide := true) only [zu_same, zu_ne1, zu_ne2, zu_row, zuL_same, zuL_ne1, zuL_ne2, zrow_n1, zx0, zx1, zx2, zx3, nI_1, Nat.reduceAdd, Nat.reduceMul, Int32.reduceAdd, Int32.reduceSub, Int32.reduceMul]
                first
                | refine ⟨vp_inb (by decide), ?_⟩
                | refine ⟨by with_reducible exact zi (by omega), ?_⟩
                | refine ⟨fun h => absurd h (by with_reducible exact nI_ge (by omega) (by omega)), fun _ => ?_⟩
                | refine ⟨fun _ => ?_, fun h => absurd (by with_reducible exact nI_le (by omega) (by omega)) h⟩
                | refine ⟨fun h => absurd h (by with_reducible exact nI_nlt (by omega) (by omega)), fun _ => ?_⟩
                | refine ⟨fun _ => ?_, fun h => absurd (by with_reducible exact nI_lt (by omega) (by omega)) h⟩
                | refine ⟨fun h => absurd h (by with_reducible exact nI_pos (by omega)), fun _ => ?_⟩
                | refine ⟨fun _ => ?_, fun h => absurd (by with_reducible exact nI_0le (by omega)) h⟩
                | refine ⟨fun h => absurd h (by decide), fun _ => ?_⟩
                | refine ⟨fun _ => ?_, fun h => absurd (by decide) h⟩
                | refine ⟨fun _ => ?_, fun h => absurd h (by decide)⟩
                | refine ⟨fun h => absurd (by decide) h, fun _ => ?_⟩
                | refine ⟨by decide, ?_⟩
                | refine ⟨rfl, ?_⟩)
        try (conv => whnf)
        try dsimp only
        try simp (decide := true) only [zu_same, zu_ne1, zu_ne2, zu_row, zuL_same, zuL_ne1, zuL_ne2, zrow_n1, zx0, zx1, zx2, zx3, nI_1, Nat.reduceAdd, Nat.reduceMul, Int32.reduceAdd, Int32.reduceSub, Int32.reduceMul]
        exact ih (k + 1) sh1 rf1 s1 t1 σ1 τ d1 (by omega) hS1 hD1 hI1 hz1 (hk1 hk9) (by omega)
    have h2 : ∀ (f k : Nat) (sh : zSh) (rf : zRf) (s : zIn) (t : zLo) (σ : zIn) (τ : zLo) (d : Nat), k + f = 3 → lS (125 + (1 + k)) (1 + k) 0 sh rf → lD (1 + k) 0 0 d s t σ τ → cI σ τ 0 0 (1 + k) → (σ 0 13 = 0 ∧ σ 0 14 = 0 ∧ σ 0 15 = 0) → d ≤ dr + 8 * k → Gl 2 [some (.ref 0), some (.int (nI k))] [] (k, 6 * k) (125 + (1 + k), sh, rf, s, t) := by
      intro f
      induction f with
      | zero =>
        intro k sh rf s t σ τ d hk hS hD hI hz hd
        have ek : k = 3 := by omega
        subst ek
        refine hG 40 _ _ _ _ _ ?_
        repeat (conv => whnf
                try dsimp only
                try simp (decide := true) only [zu_same, zu_ne1, zu_ne2, zu_row, zuL_same, zuL_ne1, zuL_ne2, zrow_n1, zx0, zx1, zx2, zx3, nI_1, Nat.reduceAdd, Nat.reduceMul, Int32.reduceAdd, Int32.reduceSub, Int32.reduceMul]
                first
                | refine ⟨vp_inb (by decide), ?_⟩
                | refine ⟨by with_reducible exact zi (by omega), ?_⟩
                | refine ⟨fun h => absurd h (by with_reducible exact nI_ge (by omega) (by omega)), fun _ => ?_⟩
                | refine ⟨fun _ => ?_, fun h => absurd (by with_reducible exact nI_le (by omega) (by omega)) h⟩
                | refine ⟨fun h => absurd h (by with_reducible exact nI_nlt (by omega) (by omega)), fun _ => ?_⟩
                | refine ⟨fun _ => ?_, fun h => absurd (by with_reducible exact nI_lt (by omega) (by omega)) h⟩
                | refine ⟨fun h => absurd h (by with_reducible exact nI_pos (by omega)), fun _ => ?_⟩
                | refine ⟨fun _ => ?_, fun h => absurd (by with_reducible exact nI_0le (by omega)) h⟩
                | refine ⟨fun h => absurd h (by decide), fun _ => ?_⟩
                | refine ⟨fun _ => ?_, fun h => absurd (by decide) h⟩
                | refine ⟨fun _ => ?_, fun h => absurd h (by decide)⟩
                | refine ⟨fun h => absurd (by decide) h, fun _ => ?_⟩
                | refine ⟨by decide, ?_⟩
                | refine ⟨rfl, ?_⟩)
        try (conv => whnf)
        try dsimp only
        try simp (decide := true) only [zu_same, zu_ne1, zu_ne2, zu_row, zuL_same, zuL_ne1, zuL_ne2, zrow_n1, zx0, zx1, zx2, zx3, nI_1, Nat.reduceAdd, Nat.reduceMul, Int32.reduceAdd, Int32.reduceSub, Int32.reduceMul]
        refine h24 6 0 sh rf s t σ τ d rfl ?_ hD hI hz (fun v hv => absurd hv (Nat.not_lt_zero v)) (by omega)
        obtain ⟨⟨b1, b2, b3, b4, b5⟩, hr⟩ := hS
        exact ⟨⟨b1, b2, fun q => absurd q (by decide), b4, b5⟩, hr⟩
      | succ f ih =>
        intro k sh rf s t σ τ d hk hS hD hI hz hd
        refine hG 40 _ _ _ _ _ ?_
        repeat (first
          | (conv => whnf
             try dsimp only
             try simp (decide := true) only [show (3 : Int32) = nI 3 from rfl, zu_same, zu_ne1, zu_ne2, zu_row, zuL_same, zuL_ne1, zuL_ne2, zrow_n1, zx0, zx1, zx2, zx3, nI_1, Nat.reduceAdd, Nat.reduceMul, Int32.reduceAdd, Int32.reduceSub, Int32.reduceMul]
             first
             | refine ⟨vp_inb (by decide), ?_⟩
             | refine ⟨by with_reducible exact zi (by omega), ?_⟩
             | refine ⟨fun h => absurd h (by with_reducible exact nI_ge (by omega) (by omega)), fun _ => ?_⟩
             | refine ⟨fun _ => ?_, fun h => absurd (by with_reducible exact nI_le (by omega) (by omega)) h⟩
             | refine ⟨fun h => absurd h (by with_reducible exact nI_nlt (by omega) (by omega)), fun _ => ?_⟩
             | refine ⟨fun _ => ?_, fun h => absurd (by with_reducible exact nI_lt (by omega) (by omega)) h⟩
             | refine ⟨fun h => absurd h (by with_reducible exact nI_pos (by omega)), fun _ => ?_⟩
             | refine ⟨fun _ => ?_, fun h => absurd (by with_reducible exact nI_0le (by omega)) h⟩
             | refine ⟨fun h => absurd h (by decide), fun _ => ?_⟩
             | refine ⟨fun _ => ?_, fun h => absurd (by decide) h⟩
             | refine ⟨fun _ => ?_, fun h => absurd h (by decide)⟩
             | refine ⟨fun h => absurd (by decide) h, fun _ => ?_⟩
             | refine ⟨by decide, ?_⟩
             | refine ⟨rfl, ?_⟩)
          | (conv => whnf
             fail_if_success refine Exists.intro ?_ ?_
             simp only [show (3 : Int32) = nI 3 from rfl]))
        try (conv => whnf)
        refine ⟨show k + 1 ≤ 27 ∧ 6 * k + 6 ≤ 108 from ⟨by omega, by omega⟩, ?_⟩
        repeat (conv => whnf
                try dsimp only
                try simp (decide := true) only [zu_same, zu_ne1, zu_ne2, zu_row, zuL_same, zuL_ne1, zuL_ne2, zrow_n1, zx0, zx1, zx2, zx3, nI_1, Nat.reduceAdd, Nat.reduceMul, Int32.reduceAdd, Int32.reduceSub, Int32.reduceMul]
                first
                | refine ⟨vp_inb (by decide), ?_⟩
                | refine ⟨by with_reducible exact zi (by omega), ?_⟩
                | refine ⟨fun h => absurd h (by with_reducible exact nI_ge (by omega) (by omega)), fun _ => ?_⟩
                | refine ⟨fun _ => ?_, fun h => absurd (by with_reducible exact nI_le (by omega) (by omega)) h⟩
                | refine ⟨fun h => absurd h (by with_reducible exact nI_nlt (by omega) (by omega)), fun _ => ?_⟩
                | refine ⟨fun _ => ?_, fun h => absurd (by with_reducible exact nI_lt (by omega) (by omega)) h⟩
                | refine ⟨fun h => absurd h (by with_reducible exact nI_pos (by omega)), fun _ => ?_⟩
                | refine ⟨fun _ => ?_, fun h => absurd (by with_reducible exact nI_0le (by omega)) h⟩
                | refine ⟨fun h => absurd h (by decide), fun _ => ?_⟩
                | refine ⟨fun _ => ?_, fun h => absurd (by decide) h⟩
                | refine ⟨fun _ => ?_, fun h => absurd h (by decide)⟩
                | refine ⟨fun h => absurd (by decide) h, fun _ => ?_⟩
                | refine ⟨by decide, ?_⟩
                | refine ⟨rfl, ?_⟩)
        try (conv => whnf)
        refine ⟨(sh, rf, s, t, σ, τ, 1 + k, 0, d), rfl, rfl, ⟨hS, hD, hI, hz, by omega, by omega⟩, ?_⟩
        try dsimp only [cond_true, cond_false]
        rintro _ _ ⟨rfl, sh1, rf1, s1, t1, σ1, d1, rfl, hS1, hD1, hI1, hz1, hd1⟩
        repeat (conv => whnf
                try dsimp only
                try simp (decide := true) only [zu_same, zu_ne1, zu_ne2, zu_row, zuL_same, zuL_ne1, zuL_ne2, zrow_n1, zx0, zx1, zx2, zx3, nI_1, Nat.reduceAdd, Nat.reduceMul, Int32.reduceAdd, Int32.reduceSub, Int32.reduceMul]
                first
                | refine ⟨vp_inb (by decide), ?_⟩
                | refine ⟨by with_reducible exact zi (by omega), ?_⟩
                | refine ⟨fun h => absurd h (by with_reducible exact nI_ge (by omega) (by omega)), fun _ => ?_⟩
                | refine ⟨fun _ => ?_, fun h => absurd (by with_reducible exact nI_le (by omega) (by omega)) h⟩
                | refine ⟨fun h => absurd h (by with_reducible exact nI_nlt (by omega) (by omega)), fun _ => ?_⟩
                | refine ⟨fun _ => ?_, fun h => absurd (by with_reducible exact nI_lt (by omega) (by omega)) h⟩
                | refine ⟨fun h => absurd h (by with_reducible exact nI_pos (by omega)), fun _ => ?_⟩
                | refine ⟨fun _ => ?_, fun h => absurd (by with_reducible exact nI_0le (by omega)) h⟩
                | refine ⟨fun h => absurd h (by decide), fun _ => ?_⟩
                | refine ⟨fun _ => ?_, fun h => absurd (by decide) h⟩
                | refine ⟨fun _ => ?_, fun h => absurd h (by decide)⟩
                | refine ⟨fun h => absurd (by decide) h, fun _ => ?_⟩
                | refine ⟨by decide, ?_⟩
                | refine ⟨rfl, ?_⟩)
        try (conv => whnf)
        try dsimp only
        try simp (decide := true) only [zu_same, zu_ne1, zu_ne2, zu_row, zuL_same, zuL_ne1, zuL_ne2, zrow_n1, zx0, zx1, zx2, zx3, nI_1, Nat.reduceAdd, Nat.reduceMul, Int32.reduceAdd, Int32.reduceSub, Int32.reduceMul]
        exact ih (k + 1) sh1 rf1 s1 t1 σ1 τ d1 (by omega) hS1 hD1 hI1 hz1 (by omega)
    refine hG 40 _ _ _ _ _ ?_
    repeat (conv => whnf
            try dsimp only
            try simp (decide := true) only [zu_same, zu_ne1, zu_ne2, zu_row, zuL_same, zuL_ne1, zuL_ne2, zrow_n1, zx0, zx1, zx2, zx3, nI_1, Nat.reduceAdd, Nat.reduceMul, Int32.reduceAdd, Int32.reduceSub, Int32.reduceMul]
            first
            | refine ⟨vp_inb (by decide), ?_⟩
            | refine ⟨by with_reducible exact zi (by omega), ?_⟩
            | refine ⟨fun h => absurd h (by with_reducible exact nI_ge (by omega) (by omega)), fun _ => ?_⟩
            | refine ⟨fun _ => ?_, fun h => absurd (by with_reducible exact nI_le (by omega) (by omega)) h⟩
            | refine ⟨fun h => absurd h (by with_reducible exact nI_nlt (by omega) (by omega)), fun _ => ?_⟩
            | refine ⟨fun _ => ?_, fun h => absurd (by with_reducible exact nI_lt (by omega) (by omega)) h⟩
            | refine ⟨fun h => absurd h (by with_reducible exact nI_pos (by omega)), fun _ => ?_⟩
            | refine ⟨fun _ => ?_, fun h => absurd (by with_reducible exact nI_0le (by omega)) h⟩
            | refine ⟨fun h => absurd h (by decide), fun _ => ?_⟩
            | refine ⟨fun _ => ?_, fun h => absurd (by decide) h⟩
            | refine ⟨fun _ => ?_, fun h => absurd h (by decide)⟩
            | refine ⟨fun h => absurd (by decide) h, fun _ => ?_⟩
            | refine ⟨by decide, ?_⟩
            | refine ⟨rfl, ?_⟩)
    try (conv => whnf)
    exact h2 3 0 sh rf s t σ τ dr rfl hS hD hI hf0 (by omega)

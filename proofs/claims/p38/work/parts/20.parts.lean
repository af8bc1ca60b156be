/-! ===== parts that are added ===== -/
theorem zsw_lt {x : Int} {K : Nat → Prop} : ∀ (l : List Nat) (lo : Int), x < lo → zsw x lo l K
  | [], _, _ => trivial
  | t :: l, lo, h => ⟨fun q => absurd q (by omega), zsw_lt l (lo + 1) (by omega)⟩
def spX2_faultOf : zSp := zDQ (X := Int32 × zM) (fun x => match x with | (a, μ) => [.int a]) (fun x => match x with | (a, μ) => μ) (fun x => match x with | (a, μ) => True) (fun x r9 μ9 => match x with | (a, μ) => (∃ y, r9 = some (.int y)) ∧ μ9 = μ)
abbrev rmX2_faultOf : Room := ({ frames := 0, cells := 0, slots := 0, locals := 0 } : Room)
set_option maxRecDepth 100000 in
set_option maxHeartbeats 4000000 in
theorem ctX2_faultOf (l : Launch) (D : va_G) (cA : Nat → ClassId) : zCt false l D cA yX2_faultOf cX2_faultOf 1 (some .int) rmX2_faultOf spX2_faultOf := by
  refine zct_Q (zCX2_faultOf []) zpX2_faultOf [] (by decide +kernel) zkX2_faultOf (Or.inr (by decide +kernel)) trivial ⟨by decide +kernel, by decide +kernel⟩ (fun x ad => Nat.le_of_ble_eq_true rfl) ?_ ?_
  · intro p e s m args below meth c A H0 ad0 n0 Q F hml hNw hA hX
    exact trivial
  · rintro ⟨a, μ⟩ Ret hP hK Gl hG
    try dsimp only at hP hK
    show Gl 0 (zent 1 [.int a]) [] (0, 0) (μ)
    refine hG 40 _ _ _ _ _ ?_
    conv => whnf
    refine ⟨fun h => ?_, fun h => ?_⟩
    · conv => whnf
      refine ⟨fun h2 => ?_, fun h2 => ?_⟩
      · conv => whnf
        exact hK _ _ ⟨⟨_, rfl⟩, rfl⟩
      · conv => whnf
        refine ⟨fun h3 => ?_, fun h3 => ?_⟩
        · conv => whnf
          exact hK _ _ ⟨⟨_, rfl⟩, rfl⟩
        · conv => whnf
          exact hK _ _ ⟨⟨_, rfl⟩, rfl⟩
    · conv => whnf
      exact hK _ _ ⟨⟨_, rfl⟩, rfl⟩
def spX2_measure : zSp := zDQ (X := zIn × zLo × Nat × Nat × Nat × Nat × Nat) (fun x => match x with | (σ, τ, k, c, i, j, q) => [.ref 17, .int (nI k), .ref (23 + i), .ref (23 + j), .ref (23 + q)]) (fun x => match x with | (σ, τ, k, c, i, j, q) => (119, zSH, zRH, σ, τ)) (fun x => match x with | (σ, τ, k, c, i, j, q) => k < 60 ∧ σ 18 k = nI c ∧ 2 ≤ c ∧ c ≤ 9 ∧ i < 60 ∧ j < 60 ∧ q < 60) (fun x r9 μ9 => match x with | (σ, τ, k, c, i, j, q) => (r9 = some (.int 0) ∨ r9 = some (.int 1)) ∧ ∃ σ1 : zIn, μ9 = (119, zSH, zRH, σ1, τ) ∧ ∀ r, r ≠ 23 + k → σ1 r = σ r)
abbrev rmX2_measure : Room := ({ frames := 0, cells := 0, slots := 0, locals := 0 } : Room)
set_option maxRecDepth 100000 in
set_option maxHeartbeats 4000000 in
theorem ctX2_measure (l : Launch) (D : va_G) (cA : Nat → ClassId) : zCt false l D cA yX2_measure cX2_measure 8 (some .boolean) rmX2_measure spX2_measure := by
  refine zct_Q (zCX2_measure []) zpX2_measure [14, 201] (by decide +kernel) zkX2_measure (Or.inr (by decide +kernel)) trivial ⟨by decide +kernel, by decide +kernel⟩ (fun x ad => Nat.le_of_ble_eq_true rfl) ?_ ?_
  · intro p e s m args below meth c A H0 ad0 n0 Q F hml hNw hA hX
    exact trivial
  · rintro ⟨σ, τ, k, c, i, j, q⟩ Ret hP hK Gl hG
    try dsimp only at hP hK
    show Gl 0 (zent 8 [.ref 17, .int (nI k), .ref (23 + i), .ref (23 + j), .ref (23 + q)]) [] (0, 0) ((119, zSH, zRH, σ, τ))
    obtain ⟨hk, hc, hc2, hc9, hi, hj, hq⟩ := hP
    have r1 := zRH_pe k hk
    have s1 := zSH_pe k hk
    have s2 := zSH_pe i hi
    have s3 := zSH_pe j hj
    have s4 := zSH_pe q hq
    have loop : ∀ (f d : Nat) (y : Int32) (σ1 : zIn), d + f = 4 → (y = 0 ∨ y = 1) → (∀ r, r ≠ 23 + k → σ1 r = σ r) → Gl 14 [some (.ref 17), some (.int (nI k)), some (.ref (23 + i)), some (.ref (23 + j)), some (.ref (23 + q)), some (.ref (23 + k)), some (.int y), some (.int (nI d))] [] (0, 0) (119, zSH, zRH, σ1, τ) := by
      intro f
      induction f with
      | zero =>
        intro d y σ1 hd hy hfr
        rw [show d = 4 by omega]
        refine hG 40 _ _ _ _ _ ?_
        repeat (first
          | (conv => whnf
             try dsimp only
             try simp (decide := true) only [nI4, zu_same, zu_ne1, zu_ne2, zu_row, zuL_same, zuL_ne1, zuL_ne2, zrow_n1, zx0, zx1, zx2, zx3, nI_1, Nat.reduceAdd, Nat.reduceMul, Int32.reduceAdd, Int32.reduceSub, Int32.reduceMul]
             first
             | refine ⟨vp_inb (by decide), ?_⟩
             | refine ⟨by with_reducible exact zi (by omega), ?_⟩
             | refine ⟨fun h => absurd h (by with_reducible exact nI_ge (by omega) (by omega)), fun _ => ?_⟩
             | refine ⟨fun _ => ?_, fun h => absurd (by with_reducible exact nI_le (by omega) (by omega)) h⟩
             | refine ⟨fun h => absurd h (by with_reducible exact nI_nlt (by omega) (by omega)), fun _ => ?_⟩
             | refine ⟨fun _ => ?_, fun h => absurd (by with_reducible exact nI_lt (by omega) (by omega)) h⟩
             | refine ⟨fun h => absurd h (by with_reducible exact nI_pos (by omega)), fun _ => ?_⟩
             | refine ⟨fun _ => ?_, fun h => absurd (by with_reducible exact nI_0le (by omega)) h⟩
             | refine ⟨fun h => absurd h (by decide), fun _ => ?_⟩
             | refine ⟨fun _ => ?_, fun h => absurd (by decide) h⟩
             | refine ⟨fun _ => ?_, fun h => absurd h (by decide)⟩
             | refine ⟨fun h => absurd (by decide) h, fun _ => ?_⟩
             | refine ⟨by decide, ?_⟩
             | refine ⟨rfl, ?_⟩)
          | (conv => whnf
             fail_if_success refine Exists.intro ?_ ?_
             simp only [nI4]))
        try (conv => whnf)
        rcases hy with rfl | rfl
        · skip
          repeat (conv => whnf
                  try dsimp only
                  try simp (decide := true) only [zu_same, zu_ne1, zu_ne2, zu_row, zuL_same, zuL_ne1, zuL_ne2, zrow_n1, zx0, zx1, zx2, zx3, nI_1, Nat.reduceAdd, Nat.reduceMul, Int32.reduceAdd, Int32.reduceSub, Int32.reduceMul]
                  first
                  | refine ⟨vp_inb (by decide), ?_⟩
                  | refine ⟨by with_reducible exact zi (by omega), ?_⟩
                  | refine ⟨fun h => absurd h (by with_reducible exact nI_ge (by omega) (by omega)), fun _ => ?_⟩
                  | refine ⟨fun _ => ?_, fun h => absurd (by with_reducible exact nI_le (by omega) (by omega)) h⟩
                  | refine ⟨fun h => absurd h (by with_reducible exact nI_nlt (by omega) (by omega)), fun _ => ?_⟩
                  | refine ⟨fun _ => ?_, fun h => absurd (by with_reducible exact nI_lt (by omega) (by omega)) h⟩
                  | refine ⟨fun h => absurd h (by with_reducible exact nI_pos (by omega)), fun _ => ?_⟩
                  | refine ⟨fun _ => ?_, fun h => absurd (by with_reducible exact nI_0le (by omega)) h⟩
                  | refine ⟨fun h => absurd h (by decide), fun _ => ?_⟩
                  | refine ⟨fun _ => ?_, fun h => absurd (by decide) h⟩
                  | refine ⟨fun _ => ?_, fun h => absurd h (by decide)⟩
                  | refine ⟨fun h => absurd (by decide) h, fun _ => ?_⟩
                  | refine ⟨by decide, ?_⟩
                  | refine ⟨rfl, ?_⟩)
          try (conv => whnf)
          exact hK _ _ ⟨Or.inl rfl, σ1, rfl, hfr⟩
        · skip
          repeat (conv => whnf
                  try dsimp only
                  try simp (decide := true) only [zu_same, zu_ne1, zu_ne2, zu_row, zuL_same, zuL_ne1, zuL_ne2, zrow_n1, zx0, zx1, zx2, zx3, nI_1, Nat.reduceAdd, Nat.reduceMul, Int32.reduceAdd, Int32.reduceSub, Int32.reduceMul]
                  first
                  | refine ⟨vp_inb (by decide), ?_⟩
                  | refine ⟨by with_reducible exact zi (by omega), ?_⟩
                  | refine ⟨fun h => absurd h (by with_reducible exact nI_ge (by omega) (by omega)), fun _ => ?_⟩
                  | refine ⟨fun _ => ?_, fun h => absurd (by with_reducible exact nI_le (by omega) (by omega)) h⟩
                  | refine ⟨fun h => absurd h (by with_reducible exact nI_nlt (by omega) (by omega)), fun _ => ?_⟩
                  | refine ⟨fun _ => ?_, fun h => absurd (by with_reducible exact nI_lt (by omega) (by omega)) h⟩
                  | refine ⟨fun h => absurd h (by with_reducible exact nI_pos (by omega)), fun _ => ?_⟩
                  | refine ⟨fun _ => ?_, fun h => absurd (by with_reducible exact nI_0le (by omega)) h⟩
                  | refine ⟨fun h => absurd h (by decide), fun _ => ?_⟩
                  | refine ⟨fun _ => ?_, fun h => absurd (by decide) h⟩
                  | refine ⟨fun _ => ?_, fun h => absurd h (by decide)⟩
                  | refine ⟨fun h => absurd (by decide) h, fun _ => ?_⟩
                  | refine ⟨by decide, ?_⟩
                  | refine ⟨rfl, ?_⟩)
          try (conv => whnf)
          exact hK _ _ ⟨Or.inr rfl, σ1, rfl, hfr⟩
      | succ f ih =>
        intro d y σ1 hd hy hfr
        have jn : ∀ (y : Int32) (σ1 : zIn), (y = 0 ∨ y = 1) → (∀ r, r ≠ 23 + k → σ1 r = σ r) → Gl 201 [some (.ref 17), some (.int (nI k)), some (.ref (23 + i)), some (.ref (23 + j)), some (.ref (23 + q)), some (.ref (23 + k)), some (.int y), some (.int (nI d))] [] (0, 0) (119, zSH, zRH, σ1, τ) := by
          intro y σ1 hy hfr
          have h0 := ih (d + 1) 0 σ1 (by omega) (Or.inl rfl) hfr
          have h1 := ih (d + 1) 1 σ1 (by omega) (Or.inr rfl) hfr
          rcases hy with rfl | rfl
          · refine hG 100 _ _ _ _ _ ?_
            repeat (conv => whnf
                    try dsimp only
                    try simp (decide := true) only [zu_same, zu_ne1, zu_ne2, zu_row, zuL_same, zuL_ne1, zuL_ne2, zrow_n1, zx0, zx1, zx2, zx3, nI_1, Nat.reduceAdd, Nat.reduceMul, Int32.reduceAdd, Int32.reduceSub, Int32.reduceMul]
                    first
                    | refine ⟨vp_inb (by decide), ?_⟩
                    | refine ⟨by with_reducible exact zi (by omega), ?_⟩
                    | refine ⟨fun h => absurd h (by with_reducible exact nI_ge (by omega) (by omega)), fun _ => ?_⟩
                    | refine ⟨fun _ => ?_, fun h => absurd (by with_reducible exact nI_le (by omega) (by omega)) h⟩
                    | refine ⟨fun h => absurd h (by with_reducible exact nI_nlt (by omega) (by omega)), fun _ => ?_⟩
                    | refine ⟨fun _ => ?_, fun h => absurd (by with_reducible exact nI_lt (by omega) (by omega)) h⟩
                    | refine ⟨fun h => absurd h (by with_reducible exact nI_pos (by omega)), fun _ => ?_⟩
                    | refine ⟨fun _ => ?_, fun h => absurd (by with_reducible exact nI_0le (by omega)) h⟩
                    | refine ⟨fun h => absurd h (by decide), fun _ => ?_⟩
                    | refine ⟨fun _ => ?_, fun h => absurd (by decide) h⟩
                    | refine ⟨fun _ => ?_, fun h => absurd h (by decide)⟩
                    | refine ⟨fun h => absurd (by decide) h, fun _ => ?_⟩
                    | refine ⟨by decide, ?_⟩
                    | refine ⟨rfl, ?_⟩)
            try (conv => whnf)
            try dsimp only
            try simp (decide := true) only [zu_same, zu_ne1, zu_ne2, zu_row, zuL_same, zuL_ne1, zuL_ne2, zrow_n1, zx0, zx1, zx2, zx3, nI_1, Nat.reduceAdd, Nat.reduceMul, Int32.reduceAdd, Int32.reduceSub, Int32.reduceMul]
            exact h0
          · refine hG 100 _ _ _ _ _ ?_
            repeat (first
              | (conv => whnf
                 try dsimp only
                 try simp (decide := true) only [s1, nI_clamp (show d < 2 ^ 31 by omega), zu_same, zu_ne1, zu_ne2, zu_row, zuL_same, zuL_ne1, zuL_ne2, zrow_n1, zx0, zx1, zx2, zx3, nI_1, Nat.reduceAdd, Nat.reduceMul, Int32.reduceAdd, Int32.reduceSub, Int32.reduceMul]
                 first
                 | refine ⟨vp_inb (by decide), ?_⟩
                 | refine ⟨by with_reducible exact zi (by omega), ?_⟩
                 | refine ⟨fun h => absurd h (by with_reducible exact nI_ge (by omega) (by omega)), fun _ => ?_⟩
                 | refine ⟨fun _ => ?_, fun h => absurd (by with_reducible exact nI_le (by omega) (by omega)) h⟩
                 | refine ⟨fun h => absurd h (by with_reducible exact nI_nlt (by omega) (by omega)), fun _ => ?_⟩
                 | refine ⟨fun _ => ?_, fun h => absurd (by with_reducible exact nI_lt (by omega) (by omega)) h⟩
                 | refine ⟨fun h => absurd h (by with_reducible exact nI_pos (by omega)), fun _ => ?_⟩
                 | refine ⟨fun _ => ?_, fun h => absurd (by with_reducible exact nI_0le (by omega)) h⟩
                 | refine ⟨fun h => absurd h (by decide), fun _ => ?_⟩
                 | refine ⟨fun _ => ?_, fun h => absurd (by decide) h⟩
                 | refine ⟨fun _ => ?_, fun h => absurd h (by decide)⟩
                 | refine ⟨fun h => absurd (by decide) h, fun _ => ?_⟩
                 | refine ⟨by decide, ?_⟩
                 | refine ⟨rfl, ?_⟩)
              | (conv => whnf
                 fail_if_success refine Exists.intro ?_ ?_
                 simp only [s1, nI_clamp (show d < 2 ^ 31 by omega)]))
            try (conv => whnf)
            refine ⟨fun h => ?_, fun h => ?_⟩
            · skip
              repeat (conv => whnf
                      try dsimp only
                      try simp (decide := true) only [zu_same, zu_ne1, zu_ne2, zu_row, zuL_same, zuL_ne1, zuL_ne2, zrow_n1, zx0, zx1, zx2, zx3, nI_1, Nat.reduceAdd, Nat.reduceMul, Int32.reduceAdd, Int32.reduceSub, Int32.reduceMul]
                      first
                      | refine ⟨vp_inb (by decide), ?_⟩
                      | refine ⟨by with_reducible exact zi (by omega), ?_⟩
                      | refine ⟨fun h => absurd h (by with_reducible exact nI_ge (by omega) (by omega)), fun _ => ?_⟩
                      | refine ⟨fun _ => ?_, fun h => absurd (by with_reducible exact nI_le (by omega) (by omega)) h⟩
                      | refine ⟨fun h => absurd h (by with_reducible exact nI_nlt (by omega) (by omega)), fun _ => ?_⟩
                      | refine ⟨fun _ => ?_, fun h => absurd (by with_reducible exact nI_lt (by omega) (by omega)) h⟩
                      | refine ⟨fun h => absurd h (by with_reducible exact nI_pos (by omega)), fun _ => ?_⟩
                      | refine ⟨fun _ => ?_, fun h => absurd (by with_reducible exact nI_0le (by omega)) h⟩
                      | refine ⟨fun h => absurd h (by decide), fun _ => ?_⟩
                      | refine ⟨fun _ => ?_, fun h => absurd (by decide) h⟩
                      | refine ⟨fun _ => ?_, fun h => absurd h (by decide)⟩
                      | refine ⟨fun h => absurd (by decide) h, fun _ => ?_⟩
                      | refine ⟨by decide, ?_⟩
                      | refine ⟨rfl, ?_⟩)
              try (conv => whnf)
              try dsimp only
              try simp (decide := true) only [zu_same, zu_ne1, zu_ne2, zu_row, zuL_same, zuL_ne1, zuL_ne2, zrow_n1, zx0, zx1, zx2, zx3, nI_1, Nat.reduceAdd, Nat.reduceMul, Int32.reduceAdd, Int32.reduceSub, Int32.reduceMul]
              exact h0
            · skip
              repeat (first
                | (conv => whnf
                   try dsimp only
                   try simp (decide := true) only [s1, nI_clamp (show d < 2 ^ 31 by omega), zu_same, zu_ne1, zu_ne2, zu_row, zuL_same, zuL_ne1, zuL_ne2, zrow_n1, zx0, zx1, zx2, zx3, nI_1, Nat.reduceAdd, Nat.reduceMul, Int32.reduceAdd, Int32.reduceSub, Int32.reduceMul]
                   first
                   | refine ⟨vp_inb (by decide), ?_⟩
                   | refine ⟨by with_reducible exact zi (by omega), ?_⟩
                   | refine ⟨fun h => absurd h (by with_reducible exact nI_ge (by omega) (by omega)), fun _ => ?_⟩
                   | refine ⟨fun _ => ?_, fun h => absurd (by with_reducible exact nI_le (by omega) (by omega)) h⟩
                   | refine ⟨fun h => absurd h (by with_reducible exact nI_nlt (by omega) (by omega)), fun _ => ?_⟩
                   | refine ⟨fun _ => ?_, fun h => absurd (by with_reducible exact nI_lt (by omega) (by omega)) h⟩
                   | refine ⟨fun h => absurd h (by with_reducible exact nI_pos (by omega)), fun _ => ?_⟩
                   | refine ⟨fun _ => ?_, fun h => absurd (by with_reducible exact nI_0le (by omega)) h⟩
                   | refine ⟨fun h => absurd h (by decide), fun _ => ?_⟩
                   | refine ⟨fun _ => ?_, fun h => absurd (by decide) h⟩
                   | refine ⟨fun _ => ?_, fun h => absurd h (by decide)⟩
                   | refine ⟨fun h => absurd (by decide) h, fun _ => ?_⟩
                   | refine ⟨by decide, ?_⟩
                   | refine ⟨rfl, ?_⟩)
                | (conv => whnf
                   fail_if_success refine Exists.intro ?_ ?_
                   simp only [s1, nI_clamp (show d < 2 ^ 31 by omega)]))
              try (conv => whnf)
              refine ⟨fun h => ?_, fun h => ?_⟩
              · skip
                repeat (conv => whnf
                        try dsimp only
                        try simp (decide := true) only [zu_same, zu_ne1, zu_ne2, zu_row, zuL_same, zuL_ne1, zuL_ne2, zrow_n1, zx0, zx1, zx2, zx3, nI_1, Nat.reduceAdd, Nat.reduceMul, Int32.reduceAdd, Int32.reduceSub, Int32.reduceMul]
                        first
                        | refine ⟨vp_inb (by decide), ?_⟩
                        | refine ⟨by with_reducible exact zi (by omega), ?_⟩
                        | refine ⟨fun h => absurd h (by with_reducible exact nI_ge (by omega) (by omega)), fun _ => ?_⟩
                        | refine ⟨fun _ => ?_, fun h => absurd (by with_reducible exact nI_le (by omega) (by omega)) h⟩
                        | refine ⟨fun h => absurd h (by with_reducible exact nI_nlt (by omega) (by omega)), fun _ => ?_⟩
                        | refine ⟨fun _ => ?_, fun h => absurd (by with_reducible exact nI_lt (by omega) (by omega)) h⟩
                        | refine ⟨fun h => absurd h (by with_reducible exact nI_pos (by omega)), fun _ => ?_⟩
                        | refine ⟨fun _ => ?_, fun h => absurd (by with_reducible exact nI_0le (by omega)) h⟩
                        | refine ⟨fun h => absurd h (by decide), fun _ => ?_⟩
                        | refine ⟨fun _ => ?_, fun h => absurd (by decide) h⟩
                        | refine ⟨fun _ => ?_, fun h => absurd h (by decide)⟩
                        | refine ⟨fun h => absurd (by decide) h, fun _ => ?_⟩
                        | refine ⟨by decide, ?_⟩
                        | refine ⟨rfl, ?_⟩)
                try (conv => whnf)
                try dsimp only
                try simp (decide := true) only [zu_same, zu_ne1, zu_ne2, zu_row, zuL_same, zuL_ne1, zuL_ne2, zrow_n1, zx0, zx1, zx2, zx3, nI_1, Nat.reduceAdd, Nat.reduceMul, Int32.reduceAdd, Int32.reduceSub, Int32.reduceMul]
                exact h0
              · skip
                repeat (conv => whnf
                        try dsimp only
                        try simp (decide := true) only [zu_same, zu_ne1, zu_ne2, zu_row, zuL_same, zuL_ne1, zuL_ne2, zrow_n1, zx0, zx1, zx2, zx3, nI_1, Nat.reduceAdd, Nat.reduceMul, Int32.reduceAdd, Int32.reduceSub, Int32.reduceMul]
                        first
                        | refine ⟨vp_inb (by decide), ?_⟩
                        | refine ⟨by with_reducible exact zi (by omega), ?_⟩
                        | refine ⟨fun h => absurd h (by with_reducible exact nI_ge (by omega) (by omega)), fun _ => ?_⟩
                        | refine ⟨fun _ => ?_, fun h => absurd (by with_reducible exact nI_le (by omega) (by omega)) h⟩
                        | refine ⟨fun h => absurd h (by with_reducible exact nI_nlt (by omega) (by omega)), fun _ => ?_⟩
                        | refine ⟨fun _ => ?_, fun h => absurd (by with_reducible exact nI_lt (by omega) (by omega)) h⟩
                        | refine ⟨fun h => absurd h (by with_reducible exact nI_pos (by omega)), fun _ => ?_⟩
                        | refine ⟨fun _ => ?_, fun h => absurd (by with_reducible exact nI_0le (by omega)) h⟩
                        | refine ⟨fun h => absurd h (by decide), fun _ => ?_⟩
                        | refine ⟨fun _ => ?_, fun h => absurd (by decide) h⟩
                        | refine ⟨fun _ => ?_, fun h => absurd h (by decide)⟩
                        | refine ⟨fun h => absurd (by decide) h, fun _ => ?_⟩
                        | refine ⟨by decide, ?_⟩
                        | refine ⟨rfl, ?_⟩)
                try (conv => whnf)
                try dsimp only
                try simp (decide := true) only [zu_same, zu_ne1, zu_ne2, zu_row, zuL_same, zuL_ne1, zuL_ne2, zrow_n1, zx0, zx1, zx2, zx3, nI_1, Nat.reduceAdd, Nat.reduceMul, Int32.reduceAdd, Int32.reduceSub, Int32.reduceMul]
                exact h1
        have hc' : σ1 18 k = nI c := by rw [hfr 18 (by omega)]; exact hc
        have hw : ∀ x, ∀ r, r ≠ 23 + k → zu σ1 (23 + k) d x r = σ r := fun x r h => by
          rw [zu_row h]
          exact hfr r h
        rcases (show c = 2 ∨ c = 3 ∨ c = 4 ∨ c = 5 ∨ c = 6 ∨ c = 7 ∨ c = 8 ∨ c = 9 by omega) with rfl | rfl | rfl | rfl | rfl | rfl | rfl | rfl
        · skip
          refine hG 100 _ _ _ _ _ ?_
          repeat (first
            | (conv => whnf
               try dsimp only
               try simp (decide := true) only [nI4, hc', s1, s2, s3, s4, nI_clamp (show d < 2 ^ 31 by omega), nI_clamp (show k < 2 ^ 31 by omega), zu_same, zu_ne1, zu_ne2, zu_row, zuL_same, zuL_ne1, zuL_ne2, zrow_n1, zx0, zx1, zx2, zx3, nI_1, Nat.reduceAdd, Nat.reduceMul, Int32.reduceAdd, Int32.reduceSub, Int32.reduceMul]
               first
               | refine ⟨vp_inb (by decide), ?_⟩
               | refine ⟨by with_reducible exact zi (by omega), ?_⟩
               | refine ⟨fun h => absurd h (by with_reducible exact nI_ge (by omega) (by omega)), fun _ => ?_⟩
               | refine ⟨fun _ => ?_, fun h => absurd (by with_reducible exact nI_le (by omega) (by omega)) h⟩
               | refine ⟨fun h => absurd h (by with_reducible exact nI_nlt (by omega) (by omega)), fun _ => ?_⟩
               | refine ⟨fun _ => ?_, fun h => absurd (by with_reducible exact nI_lt (by omega) (by omega)) h⟩
               | refine ⟨fun h => absurd h (by with_reducible exact nI_pos (by omega)), fun _ => ?_⟩
               | refine ⟨fun _ => ?_, fun h => absurd (by with_reducible exact nI_0le (by omega)) h⟩
               | refine ⟨fun h => absurd h (by decide), fun _ => ?_⟩
               | refine ⟨fun _ => ?_, fun h => absurd (by decide) h⟩
               | refine ⟨fun _ => ?_, fun h => absurd h (by decide)⟩
               | refine ⟨fun h => absurd (by decide) h, fun _ => ?_⟩
               | refine ⟨by decide, ?_⟩
               | refine ⟨rfl, ?_⟩)
            | (conv => whnf
               fail_if_success refine Exists.intro ?_ ?_
               simp only [nI4, hc', s1, s2, s3, s4, nI_clamp (show d < 2 ^ 31 by omega), nI_clamp (show k < 2 ^ 31 by omega)]))
          try (conv => whnf)
          refine ⟨fun _ => ?_, zsw_lt _ _ (by decide)⟩
          rcases hy with rfl | rfl
          · skip
            repeat (first
              | (conv => whnf
                 try dsimp only
                 try simp (decide := true) only [s1, s2, s3, s4, nI_clamp (show d < 2 ^ 31 by omega), nI_clamp (show k < 2 ^ 31 by omega), zu_same, zu_ne1, zu_ne2, zu_row, zuL_same, zuL_ne1, zuL_ne2, zrow_n1, zx0, zx1, zx2, zx3, nI_1, Nat.reduceAdd, Nat.reduceMul, Int32.reduceAdd, Int32.reduceSub, Int32.reduceMul]
                 first
                 | refine ⟨vp_inb (by decide), ?_⟩
                 | refine ⟨by with_reducible exact zi (by omega), ?_⟩
                 | refine ⟨fun h => absurd h (by with_reducible exact nI_ge (by omega) (by omega)), fun _ => ?_⟩
                 | refine ⟨fun _ => ?_, fun h => absurd (by with_reducible exact nI_le (by omega) (by omega)) h⟩
                 | refine ⟨fun h => absurd h (by with_reducible exact nI_nlt (by omega) (by omega)), fun _ => ?_⟩
                 | refine ⟨fun _ => ?_, fun h => absurd (by with_reducible exact nI_lt (by omega) (by omega)) h⟩
                 | refine ⟨fun h => absurd h (by with_reducible exact nI_pos (by omega)), fun _ => ?_⟩
                 | refine ⟨fun _ => ?_, fun h => absurd (by with_reducible exact nI_0le (by omega)) h⟩
                 | refine ⟨fun h => absurd h (by decide), fun _ => ?_⟩
                 | refine ⟨fun _ => ?_, fun h => absurd (by decide) h⟩
                 | refine ⟨fun _ => ?_, fun h => absurd h (by decide)⟩
                 | refine ⟨fun h => absurd (by decide) h, fun _ => ?_⟩
                 | refine ⟨by decide, ?_⟩
                 | refine ⟨rfl, ?_⟩)
              | (conv => whnf
                 fail_if_success refine Exists.intro ?_ ?_
                 simp only [s1, s2, s3, s4, nI_clamp (show d < 2 ^ 31 by omega), nI_clamp (show k < 2 ^ 31 by omega)]))
            try (conv => whnf)
            try dsimp only
            try simp (decide := true) only [zu_same, zu_ne1, zu_ne2, zu_row, zuL_same, zuL_ne1, zuL_ne2, zrow_n1, zx0, zx1, zx2, zx3, nI_1, Nat.reduceAdd, Nat.reduceMul, Int32.reduceAdd, Int32.reduceSub, Int32.reduceMul]
            exact jn 0 _ (Or.inl rfl) (hw _)
          · skip
            repeat (first
              | (conv => whnf
                 try dsimp only
                 try simp (decide := true) only [s1, s2, s3, s4, nI_clamp (show d < 2 ^ 31 by omega), nI_clamp (show k < 2 ^ 31 by omega), zu_same, zu_ne1, zu_ne2, zu_row, zuL_same, zuL_ne1, zuL_ne2, zrow_n1, zx0, zx1, zx2, zx3, nI_1, Nat.reduceAdd, Nat.reduceMul, Int32.reduceAdd, Int32.reduceSub, Int32.reduceMul]
                 first
                 | refine ⟨vp_inb (by decide), ?_⟩
                 | refine ⟨by with_reducible exact zi (by omega), ?_⟩
                 | refine ⟨fun h => absurd h (by with_reducible exact nI_ge (by omega) (by omega)), fun _ => ?_⟩
                 | refine ⟨fun _ => ?_, fun h => absurd (by with_reducible exact nI_le (by omega) (by omega)) h⟩
                 | refine ⟨fun h => absurd h (by with_reducible exact nI_nlt (by omega) (by omega)), fun _ => ?_⟩
                 | refine ⟨fun _ => ?_, fun h => absurd (by with_reducible exact nI_lt (by omega) (by omega)) h⟩
                 | refine ⟨fun h => absurd h (by with_reducible exact nI_pos (by omega)), fun _ => ?_⟩
                 | refine ⟨fun _ => ?_, fun h => absurd (by with_reducible exact nI_0le (by omega)) h⟩
                 | refine ⟨fun h => absurd h (by decide), fun _ => ?_⟩
                 | refine ⟨fun _ => ?_, fun h => absurd (by decide) h⟩
                 | refine ⟨fun _ => ?_, fun h => absurd h (by decide)⟩
                 | refine ⟨fun h => absurd (by decide) h, fun _ => ?_⟩
                 | refine ⟨by decide, ?_⟩
                 | refine ⟨rfl, ?_⟩)
              | (conv => whnf
                 fail_if_success refine Exists.intro ?_ ?_
                 simp only [s1, s2, s3, s4, nI_clamp (show d < 2 ^ 31 by omega), nI_clamp (show k < 2 ^ 31 by omega)]))
            try (conv => whnf)
            refine ⟨fun h => ?_, fun h => ?_⟩
            · skip
              repeat (first
                | (conv => whnf
                   try dsimp only
                   try simp (decide := true) only [s1, s2, s3, s4, nI_clamp (show d < 2 ^ 31 by omega), nI_clamp (show k < 2 ^ 31 by omega), zu_same, zu_ne1, zu_ne2, zu_row, zuL_same, zuL_ne1, zuL_ne2, zrow_n1, zx0, zx1, zx2, zx3, nI_1, Nat.reduceAdd, Nat.reduceMul, Int32.reduceAdd, Int32.reduceSub, Int32.reduceMul]
                   first
                   | refine ⟨vp_inb (by decide), ?_⟩
                   | refine ⟨by with_reducible exact zi (by omega), ?_⟩
                   | refine ⟨fun h => absurd h (by with_reducible exact nI_ge (by omega) (by omega)), fun _ => ?_⟩
                   | refine ⟨fun _ => ?_, fun h => absurd (by with_reducible exact nI_le (by omega) (by omega)) h⟩
                   | refine ⟨fun h => absurd h (by with_reducible exact nI_nlt (by omega) (by omega)), fun _ => ?_⟩
                   | refine ⟨fun _ => ?_, fun h => absurd (by with_reducible exact nI_lt (by omega) (by omega)) h⟩
                   | refine ⟨fun h => absurd h (by with_reducible exact nI_pos (by omega)), fun _ => ?_⟩
                   | refine ⟨fun _ => ?_, fun h => absurd (by with_reducible exact nI_0le (by omega)) h⟩
                   | refine ⟨fun h => absurd h (by decide), fun _ => ?_⟩
                   | refine ⟨fun _ => ?_, fun h => absurd (by decide) h⟩
                   | refine ⟨fun _ => ?_, fun h => absurd h (by decide)⟩
                   | refine ⟨fun h => absurd (by decide) h, fun _ => ?_⟩
                   | refine ⟨by decide, ?_⟩
                   | refine ⟨rfl, ?_⟩)
                | (conv => whnf
                   fail_if_success refine Exists.intro ?_ ?_
                   simp only [s1, s2, s3, s4, nI_clamp (show d < 2 ^ 31 by omega), nI_clamp (show k < 2 ^ 31 by omega)]))
              try (conv => whnf)
              try dsimp only
              try simp (decide := true) only [zu_same, zu_ne1, zu_ne2, zu_row, zuL_same, zuL_ne1, zuL_ne2, zrow_n1, zx0, zx1, zx2, zx3, nI_1, Nat.reduceAdd, Nat.reduceMul, Int32.reduceAdd, Int32.reduceSub, Int32.reduceMul]
              first
              | exact jn 0 _ (Or.inl rfl) (hw _)
              | exact jn 1 _ (Or.inr rfl) (hw _)
            · skip
              repeat (first
                | (conv => whnf
                   try dsimp only
                   try simp (decide := true) only [s1, s2, s3, s4, nI_clamp (show d < 2 ^ 31 by omega), nI_clamp (show k < 2 ^ 31 by omega), zu_same, zu_ne1, zu_ne2, zu_row, zuL_same, zuL_ne1, zuL_ne2, zrow_n1, zx0, zx1, zx2, zx3, nI_1, Nat.reduceAdd, Nat.reduceMul, Int32.reduceAdd, Int32.reduceSub, Int32.reduceMul]
                   first
                   | refine ⟨vp_inb (by decide), ?_⟩
                   | refine ⟨by with_reducible exact zi (by omega), ?_⟩
                   | refine ⟨fun h => absurd h (by with_reducible exact nI_ge (by omega) (by omega)), fun _ => ?_⟩
                   | refine ⟨fun _ => ?_, fun h => absurd (by with_reducible exact nI_le (by omega) (by omega)) h⟩
                   | refine ⟨fun h => absurd h (by with_reducible exact nI_nlt (by omega) (by omega)), fun _ => ?_⟩
                   | refine ⟨fun _ => ?_, fun h => absurd (by with_reducible exact nI_lt (by omega) (by omega)) h⟩
                   | refine ⟨fun h => absurd h (by with_reducible exact nI_pos (by omega)), fun _ => ?_⟩
                   | refine ⟨fun _ => ?_, fun h => absurd (by with_reducible exact nI_0le (by omega)) h⟩
                   | refine ⟨fun h => absurd h (by decide), fun _ => ?_⟩
                   | refine ⟨fun _ => ?_, fun h => absurd (by decide) h⟩
                   | refine ⟨fun _ => ?_, fun h => absurd h (by decide)⟩
                   | refine ⟨fun h => absurd (by decide) h, fun _ => ?_⟩
                   | refine ⟨by decide, ?_⟩
                   | refine ⟨rfl, ?_⟩)
                | (conv => whnf
                   fail_if_success refine Exists.intro ?_ ?_
                   simp only [s1, s2, s3, s4, nI_clamp (show d < 2 ^ 31 by omega), nI_clamp (show k < 2 ^ 31 by omega)]))
              try (conv => whnf)
              try dsimp only
              try simp (decide := true) only [zu_same, zu_ne1, zu_ne2, zu_row, zuL_same, zuL_ne1, zuL_ne2, zrow_n1, zx0, zx1, zx2, zx3, nI_1, Nat.reduceAdd, Nat.reduceMul, Int32.reduceAdd, Int32.reduceSub, Int32.reduceMul]
              first
              | exact jn 0 _ (Or.inl rfl) (hw _)
              | exact jn 1 _ (Or.inr rfl) (hw _)
        · skip
          refine hG 100 _ _ _ _ _ ?_
          repeat (first
            | (conv => whnf
               try dsimp only
               try simp (decide := true) only [nI4, hc', s1, s2, s3, s4, nI_clamp (show d < 2 ^ 31 by omega), nI_clamp (show k < 2 ^ 31 by omega), zu_same, zu_ne1, zu_ne2, zu_row, zuL_same, zuL_ne1, zuL_ne2, zrow_n1, zx0, zx1, zx2, zx3, nI_1, Nat.reduceAdd, Nat.reduceMul, Int32.reduceAdd, Int32.reduceSub, Int32.reduceMul]
               first
               | refine ⟨vp_inb (by decide), ?_⟩
               | refine ⟨by with_reducible exact zi (by omega), ?_⟩
               | refine ⟨fun h => absurd h (by with_reducible exact nI_ge (by omega) (by omega)), fun _ => ?_⟩
               | refine ⟨fun _ => ?_, fun h => absurd (by with_reducible exact nI_le (by omega) (by omega)) h⟩
               | refine ⟨fun h => absurd h (by with_reducible exact nI_nlt (by omega) (by omega)), fun _ => ?_⟩
               | refine ⟨fun _ => ?_, fun h => absurd (by with_reducible exact nI_lt (by omega) (by omega)) h⟩
               | refine ⟨fun h => absurd h (by with_reducible exact nI_pos (by omega)), fun _ => ?_⟩
               | refine ⟨fun _ => ?_, fun h => absurd (by with_reducible exact nI_0le (by omega)) h⟩
               | refine ⟨fun h => absurd h (by decide), fun _ => ?_⟩
               | refine ⟨fun _ => ?_, fun h => absurd (by decide) h⟩
               | refine ⟨fun _ => ?_, fun h => absurd h (by decide)⟩
               | refine ⟨fun h => absurd (by decide) h, fun _ => ?_⟩
               | refine ⟨by decide, ?_⟩
               | refine ⟨rfl, ?_⟩)
            | (conv => whnf
               fail_if_success refine Exists.intro ?_ ?_
               simp only [nI4, hc', s1, s2, s3, s4, nI_clamp (show d < 2 ^ 31 by omega), nI_clamp (show k < 2 ^ 31 by omega)]))
          try (conv => whnf)
          refine ⟨fun _ => ?_, zsw_lt _ _ (by decide)⟩
          rcases hy with rfl | rfl
          · skip
            repeat (first
              | (conv => whnf
                 try dsimp only
                 try simp (decide := true) only [s1, s2, s3, s4, nI_clamp (show d < 2 ^ 31 by omega), nI_clamp (show k < 2 ^ 31 by omega), zu_same, zu_ne1, zu_ne2, zu_row, zuL_same, zuL_ne1, zuL_ne2, zrow_n1, zx0, zx1, zx2, zx3, nI_1, Nat.reduceAdd, Nat.reduceMul, Int32.reduceAdd, Int32.reduceSub, Int32.reduceMul]
                 first
                 | refine ⟨vp_inb (by decide), ?_⟩
                 | refine ⟨by with_reducible exact zi (by omega), ?_⟩
                 | refine ⟨fun h => absurd h (by with_reducible exact nI_ge (by omega) (by omega)), fun _ => ?_⟩
                 | refine ⟨fun _ => ?_, fun h => absurd (by with_reducible exact nI_le (by omega) (by omega)) h⟩
                 | refine ⟨fun h => absurd h (by with_reducible exact nI_nlt (by omega) (by omega)), fun _ => ?_⟩
                 | refine ⟨fun _ => ?_, fun h => absurd (by with_reducible exact nI_lt (by omega) (by omega)) h⟩
                 | refine ⟨fun h => absurd h (by with_reducible exact nI_pos (by omega)), fun _ => ?_⟩
                 | refine ⟨fun _ => ?_, fun h => absurd (by with_reducible exact nI_0le (by omega)) h⟩
                 | refine ⟨fun h => absurd h (by decide), fun _ => ?_⟩
                 | refine ⟨fun _ => ?_, fun h => absurd (by decide) h⟩
                 | refine ⟨fun _ => ?_, fun h => absurd h (by decide)⟩
                 | refine ⟨fun h => absurd (by decide) h, fun _ => ?_⟩
                 | refine ⟨by decide, ?_⟩
                 | refine ⟨rfl, ?_⟩)
              | (conv => whnf
                 fail_if_success refine Exists.intro ?_ ?_
                 simp only [s1, s2, s3, s4, nI_clamp (show d < 2 ^ 31 by omega), nI_clamp (show k < 2 ^ 31 by omega)]))
            try (conv => whnf)
            try dsimp only
            try simp (decide := true) only [zu_same, zu_ne1, zu_ne2, zu_row, zuL_same, zuL_ne1, zuL_ne2, zrow_n1, zx0, zx1, zx2, zx3, nI_1, Nat.reduceAdd, Nat.reduceMul, Int32.reduceAdd, Int32.reduceSub, Int32.reduceMul]
            exact jn 0 _ (Or.inl rfl) (hw _)
          · skip
            repeat (first
              | (conv => whnf
                 try dsimp only
                 try simp (decide := true) only [s1, s2, s3, s4, nI_clamp (show d < 2 ^ 31 by omega), nI_clamp (show k < 2 ^ 31 by omega), zu_same, zu_ne1, zu_ne2, zu_row, zuL_same, zuL_ne1, zuL_ne2, zrow_n1, zx0, zx1, zx2, zx3, nI_1, Nat.reduceAdd, Nat.reduceMul, Int32.reduceAdd, Int32.reduceSub, Int32.reduceMul]
                 first
                 | refine ⟨vp_inb (by decide), ?_⟩
                 | refine ⟨by with_reducible exact zi (by omega), ?_⟩
                 | refine ⟨fun h => absurd h (by with_reducible exact nI_ge (by omega) (by omega)), fun _ => ?_⟩
                 | refine ⟨fun _ => ?_, fun h => absurd (by with_reducible exact nI_le (by omega) (by omega)) h⟩
                 | refine ⟨fun h => absurd h (by with_reducible exact nI_nlt (by omega) (by omega)), fun _ => ?_⟩
                 | refine ⟨fun _ => ?_, fun h => absurd (by with_reducible exact nI_lt (by omega) (by omega)) h⟩
                 | refine ⟨fun h => absurd h (by with_reducible exact nI_pos (by omega)), fun _ => ?_⟩
                 | refine ⟨fun _ => ?_, fun h => absurd (by with_reducible exact nI_0le (by omega)) h⟩
                 | refine ⟨fun h => absurd h (by decide), fun _ => ?_⟩
                 | refine ⟨fun _ => ?_, fun h => absurd (by decide) h⟩
                 | refine ⟨fun _ => ?_, fun h => absurd h (by decide)⟩
                 | refine ⟨fun h => absurd (by decide) h, fun _ => ?_⟩
                 | refine ⟨by decide, ?_⟩
                 | refine ⟨rfl, ?_⟩)
              | (conv => whnf
                 fail_if_success refine Exists.intro ?_ ?_
                 simp only [s1, s2, s3, s4, nI_clamp (show d < 2 ^ 31 by omega), nI_clamp (show k < 2 ^ 31 by omega)]))
            try (conv => whnf)
            refine ⟨fun h => ?_, fun h => ?_⟩
            · skip
              repeat (first
                | (conv => whnf
                   try dsimp only
                   try simp (decide := true) only [s1, s2, s3, s4, nI_clamp (show d < 2 ^ 31 by omega), nI_clamp (show k < 2 ^ 31 by omega), zu_same, zu_ne1, zu_ne2, zu_row, zuL_same, zuL_ne1, zuL_ne2, zrow_n1, zx0, zx1, zx2, zx3, nI_1, Nat.reduceAdd, Nat.reduceMul, Int32.reduceAdd, Int32.reduceSub, Int32.reduceMul]
                   first
                   | refine ⟨vp_inb (by decide), ?_⟩
                   | refine ⟨by with_reducible exact zi (by omega), ?_⟩
                   | refine ⟨fun h => absurd h (by with_reducible exact nI_ge (by omega) (by omega)), fun _ => ?_⟩
                   | refine ⟨fun _ => ?_, fun h => absurd (by with_reducible exact nI_le (by omega) (by omega)) h⟩
                   | refine ⟨fun h => absurd h (by with_reducible exact nI_nlt (by omega) (by omega)), fun _ => ?_⟩
                   | refine ⟨fun _ => ?_, fun h => absurd (by with_reducible exact nI_lt (by omega) (by omega)) h⟩
                   | refine ⟨fun h => absurd h (by with_reducible exact nI_pos (by omega)), fun _ => ?_⟩
                   | refine ⟨fun _ => ?_, fun h => absurd (by with_reducible exact nI_0le (by omega)) h⟩
                   | refine ⟨fun h => absurd h (by decide), fun _ => ?_⟩
                   | refine ⟨fun _ => ?_, fun h => absurd (by decide) h⟩
                   | refine ⟨fun _ => ?_, fun h => absurd h (by decide)⟩
                   | refine ⟨fun h => absurd (by decide) h, fun _ => ?_⟩
                   | refine ⟨by decide, ?_⟩
                   | refine ⟨rfl, ?_⟩)
                | (conv => whnf
                   fail_if_success refine Exists.intro ?_ ?_
                   simp only [s1, s2, s3, s4, nI_clamp (show d < 2 ^ 31 by omega), nI_clamp (show k < 2 ^ 31 by omega)]))
              try (conv => whnf)
              try dsimp only
              try simp (decide := true) only [zu_same, zu_ne1, zu_ne2, zu_row, zuL_same, zuL_ne1, zuL_ne2, zrow_n1, zx0, zx1, zx2, zx3, nI_1, Nat.reduceAdd, Nat.reduceMul, Int32.reduceAdd, Int32.reduceSub, Int32.reduceMul]
              first
              | exact jn 0 _ (Or.inl rfl) (hw _)
              | exact jn 1 _ (Or.inr rfl) (hw _)
            · skip
              repeat (first
                | (conv => whnf
                   try dsimp only
                   try simp (decide := true) only [s1, s2, s3, s4, nI_clamp (show d < 2 ^ 31 by omega), nI_clamp (show k < 2 ^ 31 by omega), zu_same, zu_ne1, zu_ne2, zu_row, zuL_same, zuL_ne1, zuL_ne2, zrow_n1, zx0, zx1, zx2, zx3, nI_1, Nat.reduceAdd, Nat.reduceMul, Int32.reduceAdd, Int32.reduceSub, Int32.reduceMul]
                   first
                   | refine ⟨vp_inb (by decide), ?_⟩
                   | refine ⟨by with_reducible exact zi (by omega), ?_⟩
                   | refine ⟨fun h => absurd h (by with_reducible exact nI_ge (by omega) (by omega)), fun _ => ?_⟩
                   | refine ⟨fun _ => ?_, fun h => absurd (by with_reducible exact nI_le (by omega) (by omega)) h⟩
                   | refine ⟨fun h => absurd h (by with_reducible exact nI_nlt (by omega) (by omega)), fun _ => ?_⟩
                   | refine ⟨fun _ => ?_, fun h => absurd (by with_reducible exact nI_lt (by omega) (by omega)) h⟩
                   | refine ⟨fun h => absurd h (by with_reducible exact nI_pos (by omega)), fun _ => ?_⟩
                   | refine ⟨fun _ => ?_, fun h => absurd (by with_reducible exact nI_0le (by omega)) h⟩
                   | refine ⟨fun h => absurd h (by decide), fun _ => ?_⟩
                   | refine ⟨fun _ => ?_, fun h => absurd (by decide) h⟩
                   | refine ⟨fun _ => ?_, fun h => absurd h (by decide)⟩
                   | refine ⟨fun h => absurd (by decide) h, fun _ => ?_⟩
                   | refine ⟨by decide, ?_⟩
                   | refine ⟨rfl, ?_⟩)
                | (conv => whnf
                   fail_if_success refine Exists.intro ?_ ?_
                   simp only [s1, s2, s3, s4, nI_clamp (show d < 2 ^ 31 by omega), nI_clamp (show k < 2 ^ 31 by omega)]))
              try (conv => whnf)
              try dsimp only
              try simp (decide := true) only [zu_same, zu_ne1, zu_ne2, zu_row, zuL_same, zuL_ne1, zuL_ne2, zrow_n1, zx0, zx1, zx2, zx3, nI_1, Nat.reduceAdd, Nat.reduceMul, Int32.reduceAdd, Int32.reduceSub, Int32.reduceMul]
              first
              | exact jn 0 _ (Or.inl rfl) (hw _)
              | exact jn 1 _ (Or.inr rfl) (hw _)
        · skip
          refine hG 100 _ _ _ _ _ ?_
          repeat (first
            | (conv => whnf
               try dsimp only
               try simp (decide := true) only [nI4, hc', s1, s2, s3, s4, nI_clamp (show d < 2 ^ 31 by omega), nI_clamp (show k < 2 ^ 31 by omega), zu_same, zu_ne1, zu_ne2, zu_row, zuL_same, zuL_ne1, zuL_ne2, zrow_n1, zx0, zx1, zx2, zx3, nI_1, Nat.reduceAdd, Nat.reduceMul, Int32.reduceAdd, Int32.reduceSub, Int32.reduceMul]
               first
               | refine ⟨vp_inb (by decide), ?_⟩
               | refine ⟨by with_reducible exact zi (by omega), ?_⟩
               | refine ⟨fun h => absurd h (by with_reducible exact nI_ge (by omega) (by omega)), fun _ => ?_⟩
               | refine ⟨fun _ => ?_, fun h => absurd (by with_reducible exact nI_le (by omega) (by omega)) h⟩
               | refine ⟨fun h => absurd h (by with_reducible exact nI_nlt (by omega) (by omega)), fun _ => ?_⟩
               | refine ⟨fun _ => ?_, fun h => absurd (by with_reducible exact nI_lt (by omega) (by omega)) h⟩
               | refine ⟨fun h => absurd h (by with_reducible exact nI_pos (by omega)), fun _ => ?_⟩
               | refine ⟨fun _ => ?_, fun h => absurd (by with_reducible exact nI_0le (by omega)) h⟩
               | refine ⟨fun h => absurd h (by decide), fun _ => ?_⟩
               | refine ⟨fun _ => ?_, fun h => absurd (by decide) h⟩
               | refine ⟨fun _ => ?_, fun h => absurd h (by decide)⟩
               | refine ⟨fun h => absurd (by decide) h, fun _ => ?_⟩
               | refine ⟨by decide, ?_⟩
               | refine ⟨rfl, ?_⟩)
            | (conv => whnf
               fail_if_success refine Exists.intro ?_ ?_
               simp only [nI4, hc', s1, s2, s3, s4, nI_clamp (show d < 2 ^ 31 by omega), nI_clamp (show k < 2 ^ 31 by omega)]))
          try (conv => whnf)
          refine ⟨fun w => absurd w (by decide), zsw_one _ _ 0 64 rfl rfl ?_⟩
          repeat (first
            | (conv => whnf
               try dsimp only
               try simp (decide := true) only [s1, s2, s3, s4, nI_clamp (show d < 2 ^ 31 by omega), nI_clamp (show k < 2 ^ 31 by omega), zu_same, zu_ne1, zu_ne2, zu_row, zuL_same, zuL_ne1, zuL_ne2, zrow_n1, zx0, zx1, zx2, zx3, nI_1, Nat.reduceAdd, Nat.reduceMul, Int32.reduceAdd, Int32.reduceSub, Int32.reduceMul]
               first
               | refine ⟨vp_inb (by decide), ?_⟩
               | refine ⟨by with_reducible exact zi (by omega), ?_⟩
               | refine ⟨fun h => absurd h (by with_reducible exact nI_ge (by omega) (by omega)), fun _ => ?_⟩
               | refine ⟨fun _ => ?_, fun h => absurd (by with_reducible exact nI_le (by omega) (by omega)) h⟩
               | refine ⟨fun h => absurd h (by with_reducible exact nI_nlt (by omega) (by omega)), fun _ => ?_⟩
               | refine ⟨fun _ => ?_, fun h => absurd (by with_reducible exact nI_lt (by omega) (by omega)) h⟩
               | refine ⟨fun h => absurd h (by with_reducible exact nI_pos (by omega)), fun _ => ?_⟩
               | refine ⟨fun _ => ?_, fun h => absurd (by with_reducible exact nI_0le (by omega)) h⟩
               | refine ⟨fun h => absurd h (by decide), fun _ => ?_⟩
               | refine ⟨fun _ => ?_, fun h => absurd (by decide) h⟩
               | refine ⟨fun _ => ?_, fun h => absurd h (by decide)⟩
               | refine ⟨fun h => absurd (by decide) h, fun _ => ?_⟩
               | refine ⟨by decide, ?_⟩
               | refine ⟨rfl, ?_⟩)
            | (conv => whnf
               fail_if_success refine Exists.intro ?_ ?_
               simp only [s1, s2, s3, s4, nI_clamp (show d < 2 ^ 31 by omega), nI_clamp (show k < 2 ^ 31 by omega)]))
          try (conv => whnf)
          try dsimp only
          try simp (decide := true) only [zu_same, zu_ne1, zu_ne2, zu_row, zuL_same, zuL_ne1, zuL_ne2, zrow_n1, zx0, zx1, zx2, zx3, nI_1, Nat.reduceAdd, Nat.reduceMul, Int32.reduceAdd, Int32.reduceSub, Int32.reduceMul]
          exact jn y _ hy (hw _)
        · skip
          refine hG 100 _ _ _ _ _ ?_
          repeat (first
            | (conv => whnf
               try dsimp only
               try simp (decide := true) only [nI4, hc', s1, s2, s3, s4, nI_clamp (show d < 2 ^ 31 by omega), nI_clamp (show k < 2 ^ 31 by omega), zu_same, zu_ne1, zu_ne2, zu_row, zuL_same, zuL_ne1, zuL_ne2, zrow_n1, zx0, zx1, zx2, zx3, nI_1, Nat.reduceAdd, Nat.reduceMul, Int32.reduceAdd, Int32.reduceSub, Int32.reduceMul]
               first
               | refine ⟨vp_inb (by decide), ?_⟩
               | refine ⟨by with_reducible exact zi (by omega), ?_⟩
               | refine ⟨fun h => absurd h (by with_reducible exact nI_ge (by omega) (by omega)), fun _ => ?_⟩
               | refine ⟨fun _ => ?_, fun h => absurd (by with_reducible exact nI_le (by omega) (by omega)) h⟩
               | refine ⟨fun h => absurd h (by with_reducible exact nI_nlt (by omega) (by omega)), fun _ => ?_⟩
               | refine ⟨fun _ => ?_, fun h => absurd (by with_reducible exact nI_lt (by omega) (by omega)) h⟩
               | refine ⟨fun h => absurd h (by with_reducible exact nI_pos (by omega)), fun _ => ?_⟩
               | refine ⟨fun _ => ?_, fun h => absurd (by with_reducible exact nI_0le (by omega)) h⟩
               | refine ⟨fun h => absurd h (by decide), fun _ => ?_⟩
               | refine ⟨fun _ => ?_, fun h => absurd (by decide) h⟩
               | refine ⟨fun _ => ?_, fun h => absurd h (by decide)⟩
               | refine ⟨fun h => absurd (by decide) h, fun _ => ?_⟩
               | refine ⟨by decide, ?_⟩
               | refine ⟨rfl, ?_⟩)
            | (conv => whnf
               fail_if_success refine Exists.intro ?_ ?_
               simp only [nI4, hc', s1, s2, s3, s4, nI_clamp (show d < 2 ^ 31 by omega), nI_clamp (show k < 2 ^ 31 by omega)]))
          try (conv => whnf)
          refine ⟨fun w => absurd w (by decide), zsw_one _ _ 1 81 rfl rfl ?_⟩
          repeat (first
            | (conv => whnf
               try dsimp only
               try simp (decide := true) only [s1, s2, s3, s4, nI_clamp (show d < 2 ^ 31 by omega), nI_clamp (show k < 2 ^ 31 by omega), zu_same, zu_ne1, zu_ne2, zu_row, zuL_same, zuL_ne1, zuL_ne2, zrow_n1, zx0, zx1, zx2, zx3, nI_1, Nat.reduceAdd, Nat.reduceMul, Int32.reduceAdd, Int32.reduceSub, Int32.reduceMul]
               first
               | refine ⟨vp_inb (by decide), ?_⟩
               | refine ⟨by with_reducible exact zi (by omega), ?_⟩
               | refine ⟨fun h => absurd h (by with_reducible exact nI_ge (by omega) (by omega)), fun _ => ?_⟩
               | refine ⟨fun _ => ?_, fun h => absurd (by with_reducible exact nI_le (by omega) (by omega)) h⟩
               | refine ⟨fun h => absurd h (by with_reducible exact nI_nlt (by omega) (by omega)), fun _ => ?_⟩
               | refine ⟨fun _ => ?_, fun h => absurd (by with_reducible exact nI_lt (by omega) (by omega)) h⟩
               | refine ⟨fun h => absurd h (by with_reducible exact nI_pos (by omega)), fun _ => ?_⟩
               | refine ⟨fun _ => ?_, fun h => absurd (by with_reducible exact nI_0le (by omega)) h⟩
               | refine ⟨fun h => absurd h (by decide), fun _ => ?_⟩
               | refine ⟨fun _ => ?_, fun h => absurd (by decide) h⟩
               | refine ⟨fun _ => ?_, fun h => absurd h (by decide)⟩
               | refine ⟨fun h => absurd (by decide) h, fun _ => ?_⟩
               | refine ⟨by decide, ?_⟩
               | refine ⟨rfl, ?_⟩)
            | (conv => whnf
               fail_if_success refine Exists.intro ?_ ?_
               simp only [s1, s2, s3, s4, nI_clamp (show d < 2 ^ 31 by omega), nI_clamp (show k < 2 ^ 31 by omega)]))
          try (conv => whnf)
          try dsimp only
          try simp (decide := true) only [zu_same, zu_ne1, zu_ne2, zu_row, zuL_same, zuL_ne1, zuL_ne2, zrow_n1, zx0, zx1, zx2, zx3, nI_1, Nat.reduceAdd, Nat.reduceMul, Int32.reduceAdd, Int32.reduceSub, Int32.reduceMul]
          exact jn y _ hy (hw _)
        · skip
          refine hG 100 _ _ _ _ _ ?_
          repeat (first
            | (conv => whnf
               try dsimp only
               try simp (decide := true) only [nI4, hc', s1, s2, s3, s4, nI_clamp (show d < 2 ^ 31 by omega), nI_clamp (show k < 2 ^ 31 by omega), zu_same, zu_ne1, zu_ne2, zu_row, zuL_same, zuL_ne1, zuL_ne2, zrow_n1, zx0, zx1, zx2, zx3, nI_1, Nat.reduceAdd, Nat.reduceMul, Int32.reduceAdd, Int32.reduceSub, Int32.reduceMul]
               first
               | refine ⟨vp_inb (by decide), ?_⟩
               | refine ⟨by with_reducible exact zi (by omega), ?_⟩
               | refine ⟨fun h => absurd h (by with_reducible exact nI_ge (by omega) (by omega)), fun _ => ?_⟩
               | refine ⟨fun _ => ?_, fun h => absurd (by with_reducible exact nI_le (by omega) (by omega)) h⟩
               | refine ⟨fun h => absurd h (by with_reducible exact nI_nlt (by omega) (by omega)), fun _ => ?_⟩
               | refine ⟨fun _ => ?_, fun h => absurd (by with_reducible exact nI_lt (by omega) (by omega)) h⟩
               | refine ⟨fun h => absurd h (by with_reducible exact nI_pos (by omega)), fun _ => ?_⟩
               | refine ⟨fun _ => ?_, fun h => absurd (by with_reducible exact nI_0le (by omega)) h⟩
               | refine ⟨fun h => absurd h (by decide), fun _ => ?_⟩
               | refine ⟨fun _ => ?_, fun h => absurd (by decide) h⟩
               | refine ⟨fun _ => ?_, fun h => absurd h (by decide)⟩
               | refine ⟨fun h => absurd (by decide) h, fun _ => ?_⟩
               | refine ⟨by decide, ?_⟩
               | refine ⟨rfl, ?_⟩)
            | (conv => whnf
               fail_if_success refine Exists.intro ?_ ?_
               simp only [nI4, hc', s1, s2, s3, s4, nI_clamp (show d < 2 ^ 31 by omega), nI_clamp (show k < 2 ^ 31 by omega)]))
          try (conv => whnf)
          refine ⟨fun w => absurd w (by decide), zsw_one _ _ 2 169 rfl rfl ?_⟩
          rcases hy with rfl | rfl
          · skip
            repeat (first
              | (conv => whnf
                 try dsimp only
                 try simp (decide := true) only [s1, s2, s3, s4, nI_clamp (show d < 2 ^ 31 by omega), nI_clamp (show k < 2 ^ 31 by omega), zu_same, zu_ne1, zu_ne2, zu_row, zuL_same, zuL_ne1, zuL_ne2, zrow_n1, zx0, zx1, zx2, zx3, nI_1, Nat.reduceAdd, Nat.reduceMul, Int32.reduceAdd, Int32.reduceSub, Int32.reduceMul]
                 first
                 | refine ⟨vp_inb (by decide), ?_⟩
                 | refine ⟨by with_reducible exact zi (by omega), ?_⟩
                 | refine ⟨fun h => absurd h (by with_reducible exact nI_ge (by omega) (by omega)), fun _ => ?_⟩
                 | refine ⟨fun _ => ?_, fun h => absurd (by with_reducible exact nI_le (by omega) (by omega)) h⟩
                 | refine ⟨fun h => absurd h (by with_reducible exact nI_nlt (by omega) (by omega)), fun _ => ?_⟩
                 | refine ⟨fun _ => ?_, fun h => absurd (by with_reducible exact nI_lt (by omega) (by omega)) h⟩
                 | refine ⟨fun h => absurd h (by with_reducible exact nI_pos (by omega)), fun _ => ?_⟩
                 | refine ⟨fun _ => ?_, fun h => absurd (by with_reducible exact nI_0le (by omega)) h⟩
                 | refine ⟨fun h => absurd h (by decide), fun _ => ?_⟩
                 | refine ⟨fun _ => ?_, fun h => absurd (by decide) h⟩
                 | refine ⟨fun _ => ?_, fun h => absurd h (by decide)⟩
                 | refine ⟨fun h => absurd (by decide) h, fun _ => ?_⟩
                 | refine ⟨by decide, ?_⟩
                 | refine ⟨rfl, ?_⟩)
              | (conv => whnf
                 fail_if_success refine Exists.intro ?_ ?_
                 simp only [s1, s2, s3, s4, nI_clamp (show d < 2 ^ 31 by omega), nI_clamp (show k < 2 ^ 31 by omega)]))
            try (conv => whnf)
            try dsimp only
            try simp (decide := true) only [zu_same, zu_ne1, zu_ne2, zu_row, zuL_same, zuL_ne1, zuL_ne2, zrow_n1, zx0, zx1, zx2, zx3, nI_1, Nat.reduceAdd, Nat.reduceMul, Int32.reduceAdd, Int32.reduceSub, Int32.reduceMul]
            exact jn 0 _ (Or.inl rfl) (hw _)
          · skip
            repeat (first
              | (conv => whnf
                 try dsimp only
                 try simp (decide := true) only [s1, s2, s3, s4, nI_clamp (show d < 2 ^ 31 by omega), nI_clamp (show k < 2 ^ 31 by omega), zu_same, zu_ne1, zu_ne2, zu_row, zuL_same, zuL_ne1, zuL_ne2, zrow_n1, zx0, zx1, zx2, zx3, nI_1, Nat.reduceAdd, Nat.reduceMul, Int32.reduceAdd, Int32.reduceSub, Int32.reduceMul]
                 first
                 | refine ⟨vp_inb (by decide), ?_⟩
                 | refine ⟨by with_reducible exact zi (by omega), ?_⟩
                 | refine ⟨fun h => absurd h (by with_reducible exact nI_ge (by omega) (by omega)), fun _ => ?_⟩
                 | refine ⟨fun _ => ?_, fun h => absurd (by with_reducible exact nI_le (by omega) (by omega)) h⟩
                 | refine ⟨fun h => absurd h (by with_reducible exact nI_nlt (by omega) (by omega)), fun _ => ?_⟩
                 | refine ⟨fun _ => ?_, fun h => absurd (by with_reducible exact nI_lt (by omega) (by omega)) h⟩
                 | refine ⟨fun h => absurd h (by with_reducible exact nI_pos (by omega)), fun _ => ?_⟩
                 | refine ⟨fun _ => ?_, fun h => absurd (by with_reducible exact nI_0le (by omega)) h⟩
                 | refine ⟨fun h => absurd h (by decide), fun _ => ?_⟩
                 | refine ⟨fun _ => ?_, fun h => absurd (by decide) h⟩
                 | refine ⟨fun _ => ?_, fun h => absurd h (by decide)⟩
                 | refine ⟨fun h => absurd (by decide) h, fun _ => ?_⟩
                 | refine ⟨by decide, ?_⟩
                 | refine ⟨rfl, ?_⟩)
              | (conv => whnf
                 fail_if_success refine Exists.intro ?_ ?_
                 simp only [s1, s2, s3, s4, nI_clamp (show d < 2 ^ 31 by omega), nI_clamp (show k < 2 ^ 31 by omega)]))
            try (conv => whnf)
            refine ⟨fun h => ?_, fun h => ?_⟩
            · skip
              repeat (first
                | (conv => whnf
                   try dsimp only
                   try simp (decide := true) only [s1, s2, s3, s4, nI_clamp (show d < 2 ^ 31 by omega), nI_clamp (show k < 2 ^ 31 by omega), zu_same, zu_ne1, zu_ne2, zu_row, zuL_same, zuL_ne1, zuL_ne2, zrow_n1, zx0, zx1, zx2, zx3, nI_1, Nat.reduceAdd, Nat.reduceMul, Int32.reduceAdd, Int32.reduceSub, Int32.reduceMul]
                   first
                   | refine ⟨vp_inb (by decide), ?_⟩
                   | refine ⟨by with_reducible exact zi (by omega), ?_⟩
                   | refine ⟨fun h => absurd h (by with_reducible exact nI_ge (by omega) (by omega)), fun _ => ?_⟩
                   | refine ⟨fun _ => ?_, fun h => absurd (by with_reducible exact nI_le (by omega) (by omega)) h⟩
                   | refine ⟨fun h => absurd h (by with_reducible exact nI_nlt (by omega) (by omega)), fun _ => ?_⟩
                   | refine ⟨fun _ => ?_, fun h => absurd (by with_reducible exact nI_lt (by omega) (by omega)) h⟩
                   | refine ⟨fun h => absurd h (by with_reducible exact nI_pos (by omega)), fun _ => ?_⟩
                   | refine ⟨fun _ => ?_, fun h => absurd (by with_reducible exact nI_0le (by omega)) h⟩
                   | refine ⟨fun h => absurd h (by decide), fun _ => ?_⟩
                   | refine ⟨fun _ => ?_, fun h => absurd (by decide) h⟩
                   | refine ⟨fun _ => ?_, fun h => absurd h (by decide)⟩
                   | refine ⟨fun h => absurd (by decide) h, fun _ => ?_⟩
                   | refine ⟨by decide, ?_⟩
                   | refine ⟨rfl, ?_⟩)
                | (conv => whnf
                   fail_if_success refine Exists.intro ?_ ?_
                   simp only [s1, s2, s3, s4, nI_clamp (show d < 2 ^ 31 by omega), nI_clamp (show k < 2 ^ 31 by omega)]))
              try (conv => whnf)
              try dsimp only
              try simp (decide := true) only [zu_same, zu_ne1, zu_ne2, zu_row, zuL_same, zuL_ne1, zuL_ne2, zrow_n1, zx0, zx1, zx2, zx3, nI_1, Nat.reduceAdd, Nat.reduceMul, Int32.reduceAdd, Int32.reduceSub, Int32.reduceMul]
              first
              | exact jn 0 _ (Or.inl rfl) (hw _)
              | exact jn 1 _ (Or.inr rfl) (hw _)
            · skip
              repeat (first
                | (conv => whnf
                   try dsimp only
                   try simp (decide := true) only [s1, s2, s3, s4, nI_clamp (show d < 2 ^ 31 by omega), nI_clamp (show k < 2 ^ 31 by omega), zu_same, zu_ne1, zu_ne2, zu_row, zuL_same, zuL_ne1, zuL_ne2, zrow_n1, zx0, zx1, zx2, zx3, nI_1, Nat.reduceAdd, Nat.reduceMul, Int32.reduceAdd, Int32.reduceSub, Int32.reduceMul]
                   first
                   | refine ⟨vp_inb (by decide), ?_⟩
                   | refine ⟨by with_reducible exact zi (by omega), ?_⟩
                   | refine ⟨fun h => absurd h (by with_reducible exact nI_ge (by omega) (by omega)), fun _ => ?_⟩
                   | refine ⟨fun _ => ?_, fun h => absurd (by with_reducible exact nI_le (by omega) (by omega)) h⟩
                   | refine ⟨fun h => absurd h (by with_reducible exact nI_nlt (by omega) (by omega)), fun _ => ?_⟩
                   | refine ⟨fun _ => ?_, fun h => absurd (by with_reducible exact nI_lt (by omega) (by omega)) h⟩
                   | refine ⟨fun h => absurd h (by with_reducible exact nI_pos (by omega)), fun _ => ?_⟩
                   | refine ⟨fun _ => ?_, fun h => absurd (by with_reducible exact nI_0le (by omega)) h⟩
                   | refine ⟨fun h => absurd h (by decide), fun _ => ?_⟩
                   | refine ⟨fun _ => ?_, fun h => absurd (by decide) h⟩
                   | refine ⟨fun _ => ?_, fun h => absurd h (by decide)⟩
                   | refine ⟨fun h => absurd (by decide) h, fun _ => ?_⟩
                   | refine ⟨by decide, ?_⟩
                   | refine ⟨rfl, ?_⟩)
                | (conv => whnf
                   fail_if_success refine Exists.intro ?_ ?_
                   simp only [s1, s2, s3, s4, nI_clamp (show d < 2 ^ 31 by omega), nI_clamp (show k < 2 ^ 31 by omega)]))
              try (conv => whnf)
              try dsimp only
              try simp (decide := true) only [zu_same, zu_ne1, zu_ne2, zu_row, zuL_same, zuL_ne1, zuL_ne2, zrow_n1, zx0, zx1, zx2, zx3, nI_1, Nat.reduceAdd, Nat.reduceMul, Int32.reduceAdd, Int32.reduceSub, Int32.reduceMul]
              first
              | exact jn 0 _ (Or.inl rfl) (hw _)
              | exact jn 1 _ (Or.inr rfl) (hw _)
        · skip
          refine hG 100 _ _ _ _ _ ?_
          repeat (first
            | (conv => whnf
               try dsimp only
               try simp (decide := true) only [nI4, hc', s1, s2, s3, s4, nI_clamp (show d < 2 ^ 31 by omega), nI_clamp (show k < 2 ^ 31 by omega), zu_same, zu_ne1, zu_ne2, zu_row, zuL_same, zuL_ne1, zuL_ne2, zrow_n1, zx0, zx1, zx2, zx3, nI_1, Nat.reduceAdd, Nat.reduceMul, Int32.reduceAdd, Int32.reduceSub, Int32.reduceMul]
               first
               | refine ⟨vp_inb (by decide), ?_⟩
               | refine ⟨by with_reducible exact zi (by omega), ?_⟩
               | refine ⟨fun h => absurd h (by with_reducible exact nI_ge (by omega) (by omega)), fun _ => ?_⟩
               | refine ⟨fun _ => ?_, fun h => absurd (by with_reducible exact nI_le (by omega) (by omega)) h⟩
               | refine ⟨fun h => absurd h (by with_reducible exact nI_nlt (by omega) (by omega)), fun _ => ?_⟩
               | refine ⟨fun _ => ?_, fun h => absurd (by with_reducible exact nI_lt (by omega) (by omega)) h⟩
               | refine ⟨fun h => absurd h (by with_reducible exact nI_pos (by omega)), fun _ => ?_⟩
               | refine ⟨fun _ => ?_, fun h => absurd (by with_reducible exact nI_0le (by omega)) h⟩
               | refine ⟨fun h => absurd h (by decide), fun _ => ?_⟩
               | refine ⟨fun _ => ?_, fun h => absurd (by decide) h⟩
               | refine ⟨fun _ => ?_, fun h => absurd h (by decide)⟩
               | refine ⟨fun h => absurd (by decide) h, fun _ => ?_⟩
               | refine ⟨by decide, ?_⟩
               | refine ⟨rfl, ?_⟩)
            | (conv => whnf
               fail_if_success refine Exists.intro ?_ ?_
               simp only [nI4, hc', s1, s2, s3, s4, nI_clamp (show d < 2 ^ 31 by omega), nI_clamp (show k < 2 ^ 31 by omega)]))
          try (conv => whnf)
          refine ⟨fun w => absurd w (by decide), zsw_one _ _ 3 169 rfl rfl ?_⟩
          rcases hy with rfl | rfl
          · skip
            repeat (first
              | (conv => whnf
                 try dsimp only
                 try simp (decide := true) only [s1, s2, s3, s4, nI_clamp (show d < 2 ^ 31 by omega), nI_clamp (show k < 2 ^ 31 by omega), zu_same, zu_ne1, zu_ne2, zu_row, zuL_same, zuL_ne1, zuL_ne2, zrow_n1, zx0, zx1, zx2, zx3, nI_1, Nat.reduceAdd, Nat.reduceMul, Int32.reduceAdd, Int32.reduceSub, Int32.reduceMul]
                 first
                 | refine ⟨vp_inb (by decide), ?_⟩
                 | refine ⟨by with_reducible exact zi (by omega), ?_⟩
                 | refine ⟨fun h => absurd h (by with_reducible exact nI_ge (by omega) (by omega)), fun _ => ?_⟩
                 | refine ⟨fun _ => ?_, fun h => absurd (by with_reducible exact nI_le (by omega) (by omega)) h⟩
                 | refine ⟨fun h => absurd h (by with_reducible exact nI_nlt (by omega) (by omega)), fun _ => ?_⟩
                 | refine ⟨fun _ => ?_, fun h => absurd (by with_reducible exact nI_lt (by omega) (by omega)) h⟩
                 | refine ⟨fun h => absurd h (by with_reducible exact nI_pos (by omega)), fun _ => ?_⟩
                 | refine ⟨fun _ => ?_, fun h => absurd (by with_reducible exact nI_0le (by omega)) h⟩
                 | refine ⟨fun h => absurd h (by decide), fun _ => ?_⟩
                 | refine ⟨fun _ => ?_, fun h => absurd (by decide) h⟩
                 | refine ⟨fun _ => ?_, fun h => absurd h (by decide)⟩
                 | refine ⟨fun h => absurd (by decide) h, fun _ => ?_⟩
                 | refine ⟨by decide, ?_⟩
                 | refine ⟨rfl, ?_⟩)
              | (conv => whnf
                 fail_if_success refine Exists.intro ?_ ?_
                 simp only [s1, s2, s3, s4, nI_clamp (show d < 2 ^ 31 by omega), nI_clamp (show k < 2 ^ 31 by omega)]))
            try (conv => whnf)
            try dsimp only
            try simp (decide := true) only [zu_same, zu_ne1, zu_ne2, zu_row, zuL_same, zuL_ne1, zuL_ne2, zrow_n1, zx0, zx1, zx2, zx3, nI_1, Nat.reduceAdd, Nat.reduceMul, Int32.reduceAdd, Int32.reduceSub, Int32.reduceMul]
            exact jn 0 _ (Or.inl rfl) (hw _)
          · skip
            repeat (first
              | (conv => whnf
                 try dsimp only
                 try simp (decide := true) only [s1, s2, s3, s4, nI_clamp (show d < 2 ^ 31 by omega), nI_clamp (show k < 2 ^ 31 by omega), zu_same, zu_ne1, zu_ne2, zu_row, zuL_same, zuL_ne1, zuL_ne2, zrow_n1, zx0, zx1, zx2, zx3, nI_1, Nat.reduceAdd, Nat.reduceMul, Int32.reduceAdd, Int32.reduceSub, Int32.reduceMul]
                 first
                 | refine ⟨vp_inb (by decide), ?_⟩
                 | refine ⟨by with_reducible exact zi (by omega), ?_⟩
                 | refine ⟨fun h => absurd h (by with_reducible exact nI_ge (by omega) (by omega)), fun _ => ?_⟩
                 | refine ⟨fun _ => ?_, fun h => absurd (by with_reducible exact nI_le (by omega) (by omega)) h⟩
                 | refine ⟨fun h => absurd h (by with_reducible exact nI_nlt (by omega) (by omega)), fun _ => ?_⟩
                 | refine ⟨fun _ => ?_, fun h => absurd (by with_reducible exact nI_lt (by omega) (by omega)) h⟩
                 | refine ⟨fun h => absurd h (by with_reducible exact nI_pos (by omega)), fun _ => ?_⟩
                 | refine ⟨fun _ => ?_, fun h => absurd (by with_reducible exact nI_0le (by omega)) h⟩
                 | refine ⟨fun h => absurd h (by decide), fun _ => ?_⟩
                 | refine ⟨fun _ => ?_, fun h => absurd (by decide) h⟩
                 | refine ⟨fun _ => ?_, fun h => absurd h (by decide)⟩
                 | refine ⟨fun h => absurd (by decide) h, fun _ => ?_⟩
                 | refine ⟨by decide, ?_⟩
                 | refine ⟨rfl, ?_⟩)
              | (conv => whnf
                 fail_if_success refine Exists.intro ?_ ?_
                 simp only [s1, s2, s3, s4, nI_clamp (show d < 2 ^ 31 by omega), nI_clamp (show k < 2 ^ 31 by omega)]))
            try (conv => whnf)
            refine ⟨fun h => ?_, fun h => ?_⟩
            · skip
              repeat (first
                | (conv => whnf
                   try dsimp only
                   try simp (decide := true) only [s1, s2, s3, s4, nI_clamp (show d < 2 ^ 31 by omega), nI_clamp (show k < 2 ^ 31 by omega), zu_same, zu_ne1, zu_ne2, zu_row, zuL_same, zuL_ne1, zuL_ne2, zrow_n1, zx0, zx1, zx2, zx3, nI_1, Nat.reduceAdd, Nat.reduceMul, Int32.reduceAdd, Int32.reduceSub, Int32.reduceMul]
                   first
                   | refine ⟨vp_inb (by decide), ?_⟩
                   | refine ⟨by with_reducible exact zi (by omega), ?_⟩
                   | refine ⟨fun h => absurd h (by with_reducible exact nI_ge (by omega) (by omega)), fun _ => ?_⟩
                   | refine ⟨fun _ => ?_, fun h => absurd (by with_reducible exact nI_le (by omega) (by omega)) h⟩
                   | refine ⟨fun h => absurd h (by with_reducible exact nI_nlt (by omega) (by omega)), fun _ => ?_⟩
                   | refine ⟨fun _ => ?_, fun h => absurd (by with_reducible exact nI_lt (by omega) (by omega)) h⟩
                   | refine ⟨fun h => absurd h (by with_reducible exact nI_pos (by omega)), fun _ => ?_⟩
                   | refine ⟨fun _ => ?_, fun h => absurd (by with_reducible exact nI_0le (by omega)) h⟩
                   | refine ⟨fun h => absurd h (by decide), fun _ => ?_⟩
                   | refine ⟨fun _ => ?_, fun h => absurd (by decide) h⟩
                   | refine ⟨fun _ => ?_, fun h => absurd h (by decide)⟩
                   | refine ⟨fun h => absurd (by decide) h, fun _ => ?_⟩
                   | refine ⟨by decide, ?_⟩
                   | refine ⟨rfl, ?_⟩)
                | (conv => whnf
                   fail_if_success refine Exists.intro ?_ ?_
                   simp only [s1, s2, s3, s4, nI_clamp (show d < 2 ^ 31 by omega), nI_clamp (show k < 2 ^ 31 by omega)]))
              try (conv => whnf)
              try dsimp only
              try simp (decide := true) only [zu_same, zu_ne1, zu_ne2, zu_row, zuL_same, zuL_ne1, zuL_ne2, zrow_n1, zx0, zx1, zx2, zx3, nI_1, Nat.reduceAdd, Nat.reduceMul, Int32.reduceAdd, Int32.reduceSub, Int32.reduceMul]
              first
              | exact jn 0 _ (Or.inl rfl) (hw _)
              | exact jn 1 _ (Or.inr rfl) (hw _)
            · skip
              repeat (first
                | (conv => whnf
                   try dsimp only
                   try simp (decide := true) only [s1, s2, s3, s4, nI_clamp (show d < 2 ^ 31 by omega), nI_clamp (show k < 2 ^ 31 by omega), zu_same, zu_ne1, zu_ne2, zu_row, zuL_same, zuL_ne1, zuL_ne2, zrow_n1, zx0, zx1, zx2, zx3, nI_1, Nat.reduceAdd, Nat.reduceMul, Int32.reduceAdd, Int32.reduceSub, Int32.reduceMul]
                   first
                   | refine ⟨vp_inb (by decide), ?_⟩
                   | refine ⟨by with_reducible exact zi (by omega), ?_⟩
                   | refine ⟨fun h => absurd h (by with_reducible exact nI_ge (by omega) (by omega)), fun _ => ?_⟩
                   | refine ⟨fun _ => ?_, fun h => absurd (by with_reducible exact nI_le (by omega) (by omega)) h⟩
                   | refine ⟨fun h => absurd h (by with_reducible exact nI_nlt (by omega) (by omega)), fun _ => ?_⟩
                   | refine ⟨fun _ => ?_, fun h => absurd (by with_reducible exact nI_lt (by omega) (by omega)) h⟩
                   | refine ⟨fun h => absurd h (by with_reducible exact nI_pos (by omega)), fun _ => ?_⟩
                   | refine ⟨fun _ => ?_, fun h => absurd (by with_reducible exact nI_0le (by omega)) h⟩
                   | refine ⟨fun h => absurd h (by decide), fun _ => ?_⟩
                   | refine ⟨fun _ => ?_, fun h => absurd (by decide) h⟩
                   | refine ⟨fun _ => ?_, fun h => absurd h (by decide)⟩
                   | refine ⟨fun h => absurd (by decide) h, fun _ => ?_⟩
                   | refine ⟨by decide, ?_⟩
                   | refine ⟨rfl, ?_⟩)
                | (conv => whnf
                   fail_if_success refine Exists.intro ?_ ?_
                   simp only [s1, s2, s3, s4, nI_clamp (show d < 2 ^ 31 by omega), nI_clamp (show k < 2 ^ 31 by omega)]))
              try (conv => whnf)
              try dsimp only
              try simp (decide := true) only [zu_same, zu_ne1, zu_ne2, zu_row, zuL_same, zuL_ne1, zuL_ne2, zrow_n1, zx0, zx1, zx2, zx3, nI_1, Nat.reduceAdd, Nat.reduceMul, Int32.reduceAdd, Int32.reduceSub, Int32.reduceMul]
              first
              | exact jn 0 _ (Or.inl rfl) (hw _)
              | exact jn 1 _ (Or.inr rfl) (hw _)
        · skip
          refine hG 100 _ _ _ _ _ ?_
          repeat (first
            | (conv => whnf
               try dsimp only
               try simp (decide := true) only [nI4, hc', s1, s2, s3, s4, nI_clamp (show d < 2 ^ 31 by omega), nI_clamp (show k < 2 ^ 31 by omega), zu_same, zu_ne1, zu_ne2, zu_row, zuL_same, zuL_ne1, zuL_ne2, zrow_n1, zx0, zx1, zx2, zx3, nI_1, Nat.reduceAdd, Nat.reduceMul, Int32.reduceAdd, Int32.reduceSub, Int32.reduceMul]
               first
               | refine ⟨vp_inb (by decide), ?_⟩
               | refine ⟨by with_reducible exact zi (by omega), ?_⟩
               | refine ⟨fun h => absurd h (by with_reducible exact nI_ge (by omega) (by omega)), fun _ => ?_⟩
               | refine ⟨fun _ => ?_, fun h => absurd (by with_reducible exact nI_le (by omega) (by omega)) h⟩
               | refine ⟨fun h => absurd h (by with_reducible exact nI_nlt (by omega) (by omega)), fun _ => ?_⟩
               | refine ⟨fun _ => ?_, fun h => absurd (by with_reducible exact nI_lt (by omega) (by omega)) h⟩
               | refine ⟨fun h => absurd h (by with_reducible exact nI_pos (by omega)), fun _ => ?_⟩
               | refine ⟨fun _ => ?_, fun h => absurd (by with_reducible exact nI_0le (by omega)) h⟩
               | refine ⟨fun h => absurd h (by decide), fun _ => ?_⟩
               | refine ⟨fun _ => ?_, fun h => absurd (by decide) h⟩
               | refine ⟨fun _ => ?_, fun h => absurd h (by decide)⟩
               | refine ⟨fun h => absurd (by decide) h, fun _ => ?_⟩
               | refine ⟨by decide, ?_⟩
               | refine ⟨rfl, ?_⟩)
            | (conv => whnf
               fail_if_success refine Exists.intro ?_ ?_
               simp only [nI4, hc', s1, s2, s3, s4, nI_clamp (show d < 2 ^ 31 by omega), nI_clamp (show k < 2 ^ 31 by omega)]))
          try (conv => whnf)
          refine ⟨fun w => absurd w (by decide), zsw_one _ _ 4 133 rfl rfl ?_⟩
          rcases hy with rfl | rfl
          · skip
            repeat (first
              | (conv => whnf
                 try dsimp only
                 try simp (decide := true) only [s1, s2, s3, s4, nI_clamp (show d < 2 ^ 31 by omega), nI_clamp (show k < 2 ^ 31 by omega), zu_same, zu_ne1, zu_ne2, zu_row, zuL_same, zuL_ne1, zuL_ne2, zrow_n1, zx0, zx1, zx2, zx3, nI_1, Nat.reduceAdd, Nat.reduceMul, Int32.reduceAdd, Int32.reduceSub, Int32.reduceMul]
                 first
                 | refine ⟨vp_inb (by decide), ?_⟩
                 | refine ⟨by with_reducible exact zi (by omega), ?_⟩
                 | refine ⟨fun h => absurd h (by with_reducible exact nI_ge (by omega) (by omega)), fun _ => ?_⟩
                 | refine ⟨fun _ => ?_, fun h => absurd (by with_reducible exact nI_le (by omega) (by omega)) h⟩
                 | refine ⟨fun h => absurd h (by with_reducible exact nI_nlt (by omega) (by omega)), fun _ => ?_⟩
                 | refine ⟨fun _ => ?_, fun h => absurd (by with_reducible exact nI_lt (by omega) (by omega)) h⟩
                 | refine ⟨fun h => absurd h (by with_reducible exact nI_pos (by omega)), fun _ => ?_⟩
                 | refine ⟨fun _ => ?_, fun h => absurd (by with_reducible exact nI_0le (by omega)) h⟩
                 | refine ⟨fun h => absurd h (by decide), fun _ => ?_⟩
                 | refine ⟨fun _ => ?_, fun h => absurd (by decide) h⟩
                 | refine ⟨fun _ => ?_, fun h => absurd h (by decide)⟩
                 | refine ⟨fun h => absurd (by decide) h, fun _ => ?_⟩
                 | refine ⟨by decide, ?_⟩
                 | refine ⟨rfl, ?_⟩)
              | (conv => whnf
                 fail_if_success refine Exists.intro ?_ ?_
                 simp only [s1, s2, s3, s4, nI_clamp (show d < 2 ^ 31 by omega), nI_clamp (show k < 2 ^ 31 by omega)]))
            try (conv => whnf)
            try dsimp only
            try simp (decide := true) only [zu_same, zu_ne1, zu_ne2, zu_row, zuL_same, zuL_ne1, zuL_ne2, zrow_n1, zx0, zx1, zx2, zx3, nI_1, Nat.reduceAdd, Nat.reduceMul, Int32.reduceAdd, Int32.reduceSub, Int32.reduceMul]
            exact jn 0 _ (Or.inl rfl) (hw _)
          · skip
            repeat (first
              | (conv => whnf
                 try dsimp only
                 try simp (decide := true) only [s1, s2, s3, s4, nI_clamp (show d < 2 ^ 31 by omega), nI_clamp (show k < 2 ^ 31 by omega), zu_same, zu_ne1, zu_ne2, zu_row, zuL_same, zuL_ne1, zuL_ne2, zrow_n1, zx0, zx1, zx2, zx3, nI_1, Nat.reduceAdd, Nat.reduceMul, Int32.reduceAdd, Int32.reduceSub, Int32.reduceMul]
                 first
                 | refine ⟨vp_inb (by decide), ?_⟩
                 | refine ⟨by with_reducible exact zi (by omega), ?_⟩
                 | refine ⟨fun h => absurd h (by with_reducible exact nI_ge (by omega) (by omega)), fun _ => ?_⟩
                 | refine ⟨fun _ => ?_, fun h => absurd (by with_reducible exact nI_le (by omega) (by omega)) h⟩
                 | refine ⟨fun h => absurd h (by with_reducible exact nI_nlt (by omega) (by omega)), fun _ => ?_⟩
                 | refine ⟨fun _ => ?_, fun h => absurd (by with_reducible exact nI_lt (by omega) (by omega)) h⟩
                 | refine ⟨fun h => absurd h (by with_reducible exact nI_pos (by omega)), fun _ => ?_⟩
                 | refine ⟨fun _ => ?_, fun h => absurd (by with_reducible exact nI_0le (by omega)) h⟩
                 | refine ⟨fun h => absurd h (by decide), fun _ => ?_⟩
                 | refine ⟨fun _ => ?_, fun h => absurd (by decide) h⟩
                 | refine ⟨fun _ => ?_, fun h => absurd h (by decide)⟩
                 | refine ⟨fun h => absurd (by decide) h, fun _ => ?_⟩
                 | refine ⟨by decide, ?_⟩
                 | refine ⟨rfl, ?_⟩)
              | (conv => whnf
                 fail_if_success refine Exists.intro ?_ ?_
                 simp only [s1, s2, s3, s4, nI_clamp (show d < 2 ^ 31 by omega), nI_clamp (show k < 2 ^ 31 by omega)]))
            try (conv => whnf)
            refine ⟨fun h => ?_, fun h => ?_⟩
            · skip
              repeat (first
                | (conv => whnf
                   try dsimp only
                   try simp (decide := true) only [s1, s2, s3, s4, nI_clamp (show d < 2 ^ 31 by omega), nI_clamp (show k < 2 ^ 31 by omega), zu_same, zu_ne1, zu_ne2, zu_row, zuL_same, zuL_ne1, zuL_ne2, zrow_n1, zx0, zx1, zx2, zx3, nI_1, Nat.reduceAdd, Nat.reduceMul, Int32.reduceAdd, Int32.reduceSub, Int32.reduceMul]
                   first
                   | refine ⟨vp_inb (by decide), ?_⟩
                   | refine ⟨by with_reducible exact zi (by omega), ?_⟩
                   | refine ⟨fun h => absurd h (by with_reducible exact nI_ge (by omega) (by omega)), fun _ => ?_⟩
                   | refine ⟨fun _ => ?_, fun h => absurd (by with_reducible exact nI_le (by omega) (by omega)) h⟩
                   | refine ⟨fun h => absurd h (by with_reducible exact nI_nlt (by omega) (by omega)), fun _ => ?_⟩
                   | refine ⟨fun _ => ?_, fun h => absurd (by with_reducible exact nI_lt (by omega) (by omega)) h⟩
                   | refine ⟨fun h => absurd h (by with_reducible exact nI_pos (by omega)), fun _ => ?_⟩
                   | refine ⟨fun _ => ?_, fun h => absurd (by with_reducible exact nI_0le (by omega)) h⟩
                   | refine ⟨fun h => absurd h (by decide), fun _ => ?_⟩
                   | refine ⟨fun _ => ?_, fun h => absurd (by decide) h⟩
                   | refine ⟨fun _ => ?_, fun h => absurd h (by decide)⟩
                   | refine ⟨fun h => absurd (by decide) h, fun _ => ?_⟩
                   | refine ⟨by decide, ?_⟩
                   | refine ⟨rfl, ?_⟩)
                | (conv => whnf
                   fail_if_success refine Exists.intro ?_ ?_
                   simp only [s1, s2, s3, s4, nI_clamp (show d < 2 ^ 31 by omega), nI_clamp (show k < 2 ^ 31 by omega)]))
              try (conv => whnf)
              try dsimp only
              try simp (decide := true) only [zu_same, zu_ne1, zu_ne2, zu_row, zuL_same, zuL_ne1, zuL_ne2, zrow_n1, zx0, zx1, zx2, zx3, nI_1, Nat.reduceAdd, Nat.reduceMul, Int32.reduceAdd, Int32.reduceSub, Int32.reduceMul]
              first
              | exact jn 0 _ (Or.inl rfl) (hw _)
              | exact jn 1 _ (Or.inr rfl) (hw _)
            · skip
              repeat (first
                | (conv => whnf
                   try dsimp only
                   try simp (decide := true) only [s1, s2, s3, s4, nI_clamp (show d < 2 ^ 31 by omega), nI_clamp (show k < 2 ^ 31 by omega), zu_same, zu_ne1, zu_ne2, zu_row, zuL_same, zuL_ne1, zuL_ne2, zrow_n1, zx0, zx1, zx2, zx3, nI_1, Nat.reduceAdd, Nat.reduceMul, Int32.reduceAdd, Int32.reduceSub, Int32.reduceMul]
                   first
                   | refine ⟨vp_inb (by decide), ?_⟩
                   | refine ⟨by with_reducible exact zi (by omega), ?_⟩
                   | refine ⟨fun h => absurd h (by with_reducible exact nI_ge (by omega) (by omega)), fun _ => ?_⟩
                   | refine ⟨fun _ => ?_, fun h => absurd (by with_reducible exact nI_le (by omega) (by omega)) h⟩
                   | refine ⟨fun h => absurd h (by with_reducible exact nI_nlt (by omega) (by omega)), fun _ => ?_⟩
                   | refine ⟨fun _ => ?_, fun h => absurd (by with_reducible exact nI_lt (by omega) (by omega)) h⟩
                   | refine ⟨fun h => absurd h (by with_reducible exact nI_pos (by omega)), fun _ => ?_⟩
                   | refine ⟨fun _ => ?_, fun h => absurd (by with_reducible exact nI_0le (by omega)) h⟩
                   | refine ⟨fun h => absurd h (by decide), fun _ => ?_⟩
                   | refine ⟨fun _ => ?_, fun h => absurd (by decide) h⟩
                   | refine ⟨fun _ => ?_, fun h => absurd h (by decide)⟩
                   | refine ⟨fun h => absurd (by decide) h, fun _ => ?_⟩
                   | refine ⟨by decide, ?_⟩
                   | refine ⟨rfl, ?_⟩)
                | (conv => whnf
                   fail_if_success refine Exists.intro ?_ ?_
                   simp only [s1, s2, s3, s4, nI_clamp (show d < 2 ^ 31 by omega), nI_clamp (show k < 2 ^ 31 by omega)]))
              try (conv => whnf)
              try dsimp only
              try simp (decide := true) only [zu_same, zu_ne1, zu_ne2, zu_row, zuL_same, zuL_ne1, zuL_ne2, zrow_n1, zx0, zx1, zx2, zx3, nI_1, Nat.reduceAdd, Nat.reduceMul, Int32.reduceAdd, Int32.reduceSub, Int32.reduceMul]
              first
              | exact jn 0 _ (Or.inl rfl) (hw _)
              | exact jn 1 _ (Or.inr rfl) (hw _)
        · skip
          refine hG 100 _ _ _ _ _ ?_
          repeat (first
            | (conv => whnf
               try dsimp only
               try simp (decide := true) only [nI4, hc', s1, s2, s3, s4, nI_clamp (show d < 2 ^ 31 by omega), nI_clamp (show k < 2 ^ 31 by omega), zu_same, zu_ne1, zu_ne2, zu_row, zuL_same, zuL_ne1, zuL_ne2, zrow_n1, zx0, zx1, zx2, zx3, nI_1, Nat.reduceAdd, Nat.reduceMul, Int32.reduceAdd, Int32.reduceSub, Int32.reduceMul]
               first
               | refine ⟨vp_inb (by decide), ?_⟩
               | refine ⟨by with_reducible exact zi (by omega), ?_⟩
               | refine ⟨fun h => absurd h (by with_reducible exact nI_ge (by omega) (by omega)), fun _ => ?_⟩
               | refine ⟨fun _ => ?_, fun h => absurd (by with_reducible exact nI_le (by omega) (by omega)) h⟩
               | refine ⟨fun h => absurd h (by with_reducible exact nI_nlt (by omega) (by omega)), fun _ => ?_⟩
               | refine ⟨fun _ => ?_, fun h => absurd (by with_reducible exact nI_lt (by omega) (by omega)) h⟩
               | refine ⟨fun h => absurd h (by with_reducible exact nI_pos (by omega)), fun _ => ?_⟩
               | refine ⟨fun _ => ?_, fun h => absurd (by with_reducible exact nI_0le (by omega)) h⟩
               | refine ⟨fun h => absurd h (by decide), fun _ => ?_⟩
               | refine ⟨fun _ => ?_, fun h => absurd (by decide) h⟩
               | refine ⟨fun _ => ?_, fun h => absurd h (by decide)⟩
               | refine ⟨fun h => absurd (by decide) h, fun _ => ?_⟩
               | refine ⟨by decide, ?_⟩
               | refine ⟨rfl, ?_⟩)
            | (conv => whnf
               fail_if_success refine Exists.intro ?_ ?_
               simp only [nI4, hc', s1, s2, s3, s4, nI_clamp (show d < 2 ^ 31 by omega), nI_clamp (show k < 2 ^ 31 by omega)]))
          try (conv => whnf)
          refine ⟨fun w => absurd w (by decide), zsw_one _ _ 5 98 rfl rfl ?_⟩
          rcases hy with rfl | rfl
          · skip
            repeat (first
              | (conv => whnf
                 try dsimp only
                 try simp (decide := true) only [s1, s2, s3, s4, nI_clamp (show d < 2 ^ 31 by omega), nI_clamp (show k < 2 ^ 31 by omega), zu_same, zu_ne1, zu_ne2, zu_row, zuL_same, zuL_ne1, zuL_ne2, zrow_n1, zx0, zx1, zx2, zx3, nI_1, Nat.reduceAdd, Nat.reduceMul, Int32.reduceAdd, Int32.reduceSub, Int32.reduceMul]
                 first
                 | refine ⟨vp_inb (by decide), ?_⟩
                 | refine ⟨by with_reducible exact zi (by omega), ?_⟩
                 | refine ⟨fun h => absurd h (by with_reducible exact nI_ge (by omega) (by omega)), fun _ => ?_⟩
                 | refine ⟨fun _ => ?_, fun h => absurd (by with_reducible exact nI_le (by omega) (by omega)) h⟩
                 | refine ⟨fun h => absurd h (by with_reducible exact nI_nlt (by omega) (by omega)), fun _ => ?_⟩
                 | refine ⟨fun _ => ?_, fun h => absurd (by with_reducible exact nI_lt (by omega) (by omega)) h⟩
                 | refine ⟨fun h => absurd h (by with_reducible exact nI_pos (by omega)), fun _ => ?_⟩
                 | refine ⟨fun _ => ?_, fun h => absurd (by with_reducible exact nI_0le (by omega)) h⟩
                 | refine ⟨fun h => absurd h (by decide), fun _ => ?_⟩
                 | refine ⟨fun _ => ?_, fun h => absurd (by decide) h⟩
                 | refine ⟨fun _ => ?_, fun h => absurd h (by decide)⟩
                 | refine ⟨fun h => absurd (by decide) h, fun _ => ?_⟩
                 | refine ⟨by decide, ?_⟩
                 | refine ⟨rfl, ?_⟩)
              | (conv => whnf
                 fail_if_success refine Exists.intro ?_ ?_
                 simp only [s1, s2, s3, s4, nI_clamp (show d < 2 ^ 31 by omega), nI_clamp (show k < 2 ^ 31 by omega)]))
            try (conv => whnf)
            try dsimp only
            try simp (decide := true) only [zu_same, zu_ne1, zu_ne2, zu_row, zuL_same, zuL_ne1, zuL_ne2, zrow_n1, zx0, zx1, zx2, zx3, nI_1, Nat.reduceAdd, Nat.reduceMul, Int32.reduceAdd, Int32.reduceSub, Int32.reduceMul]
            exact jn 0 _ (Or.inl rfl) (hw _)
          · skip
            repeat (first
              | (conv => whnf
                 try dsimp only
                 try simp (decide := true) only [s1, s2, s3, s4, nI_clamp (show d < 2 ^ 31 by omega), nI_clamp (show k < 2 ^ 31 by omega), zu_same, zu_ne1, zu_ne2, zu_row, zuL_same, zuL_ne1, zuL_ne2, zrow_n1, zx0, zx1, zx2, zx3, nI_1, Nat.reduceAdd, Nat.reduceMul, Int32.reduceAdd, Int32.reduceSub, Int32.reduceMul]
                 first
                 | refine ⟨vp_inb (by decide), ?_⟩
                 | refine ⟨by with_reducible exact zi (by omega), ?_⟩
                 | refine ⟨fun h => absurd h (by with_reducible exact nI_ge (by omega) (by omega)), fun _ => ?_⟩
                 | refine ⟨fun _ => ?_, fun h => absurd (by with_reducible exact nI_le (by omega) (by omega)) h⟩
                 | refine ⟨fun h => absurd h (by with_reducible exact nI_nlt (by omega) (by omega)), fun _ => ?_⟩
                 | refine ⟨fun _ => ?_, fun h => absurd (by with_reducible exact nI_lt (by omega) (by omega)) h⟩
                 | refine ⟨fun h => absurd h (by with_reducible exact nI_pos (by omega)), fun _ => ?_⟩
                 | refine ⟨fun _ => ?_, fun h => absurd (by with_reducible exact nI_0le (by omega)) h⟩
                 | refine ⟨fun h => absurd h (by decide), fun _ => ?_⟩
                 | refine ⟨fun _ => ?_, fun h => absurd (by decide) h⟩
                 | refine ⟨fun _ => ?_, fun h => absurd h (by decide)⟩
                 | refine ⟨fun h => absurd (by decide) h, fun _ => ?_⟩
                 | refine ⟨by decide, ?_⟩
                 | refine ⟨rfl, ?_⟩)
              | (conv => whnf
                 fail_if_success refine Exists.intro ?_ ?_
                 simp only [s1, s2, s3, s4, nI_clamp (show d < 2 ^ 31 by omega), nI_clamp (show k < 2 ^ 31 by omega)]))
            try (conv => whnf)
            refine ⟨fun h => ?_, fun h => ?_⟩
            · skip
              repeat (first
                | (conv => whnf
                   try dsimp only
                   try simp (decide := true) only [s1, s2, s3, s4, nI_clamp (show d < 2 ^ 31 by omega), nI_clamp (show k < 2 ^ 31 by omega), zu_same, zu_ne1, zu_ne2, zu_row, zuL_same, zuL_ne1, zuL_ne2, zrow_n1, zx0, zx1, zx2, zx3, nI_1, Nat.reduceAdd, Nat.reduceMul, Int32.reduceAdd, Int32.reduceSub, Int32.reduceMul]
                   first
                   | refine ⟨vp_inb (by decide), ?_⟩
                   | refine ⟨by with_reducible exact zi (by omega), ?_⟩
                   | refine ⟨fun h => absurd h (by with_reducible exact nI_ge (by omega) (by omega)), fun _ => ?_⟩
                   | refine ⟨fun _ => ?_, fun h => absurd (by with_reducible exact nI_le (by omega) (by omega)) h⟩
                   | refine ⟨fun h => absurd h (by with_reducible exact nI_nlt (by omega) (by omega)), fun _ => ?_⟩
                   | refine ⟨fun _ => ?_, fun h => absurd (by with_reducible exact nI_lt (by omega) (by omega)) h⟩
                   | refine ⟨fun h => absurd h (by with_reducible exact nI_pos (by omega)), fun _ => ?_⟩
                   | refine ⟨fun _ => ?_, fun h => absurd (by with_reducible exact nI_0le (by omega)) h⟩
                   | refine ⟨fun h => absurd h (by decide), fun _ => ?_⟩
                   | refine ⟨fun _ => ?_, fun h => absurd (by decide) h⟩
                   | refine ⟨fun _ => ?_, fun h => absurd h (by decide)⟩
                   | refine ⟨fun h => absurd (by decide) h, fun _ => ?_⟩
                   | refine ⟨by decide, ?_⟩
                   | refine ⟨rfl, ?_⟩)
                | (conv => whnf
                   fail_if_success refine Exists.intro ?_ ?_
                   simp only [s1, s2, s3, s4, nI_clamp (show d < 2 ^ 31 by omega), nI_clamp (show k < 2 ^ 31 by omega)]))
              try (conv => whnf)
              try dsimp only
              try simp (decide := true) only [zu_same, zu_ne1, zu_ne2, zu_row, zuL_same, zuL_ne1, zuL_ne2, zrow_n1, zx0, zx1, zx2, zx3, nI_1, Nat.reduceAdd, Nat.reduceMul, Int32.reduceAdd, Int32.reduceSub, Int32.reduceMul]
              first
              | exact jn 0 _ (Or.inl rfl) (hw _)
              | exact jn 1 _ (Or.inr rfl) (hw _)
            · skip
              repeat (first
                | (conv => whnf
                   try dsimp only
                   try simp (decide := true) only [s1, s2, s3, s4, nI_clamp (show d < 2 ^ 31 by omega), nI_clamp (show k < 2 ^ 31 by omega), zu_same, zu_ne1, zu_ne2, zu_row, zuL_same, zuL_ne1, zuL_ne2, zrow_n1, zx0, zx1, zx2, zx3, nI_1, Nat.reduceAdd, Nat.reduceMul, Int32.reduceAdd, Int32.reduceSub, Int32.reduceMul]
                   first
                   | refine ⟨vp_inb (by decide), ?_⟩
                   | refine ⟨by with_reducible exact zi (by omega), ?_⟩
                   | refine ⟨fun h => absurd h (by with_reducible exact nI_ge (by omega) (by omega)), fun _ => ?_⟩
                   | refine ⟨fun _ => ?_, fun h => absurd (by with_reducible exact nI_le (by omega) (by omega)) h⟩
                   | refine ⟨fun h => absurd h (by with_reducible exact nI_nlt (by omega) (by omega)), fun _ => ?_⟩
                   | refine ⟨fun _ => ?_, fun h => absurd (by with_reducible exact nI_lt (by omega) (by omega)) h⟩
                   | refine ⟨fun h => absurd h (by with_reducible exact nI_pos (by omega)), fun _ => ?_⟩
                   | refine ⟨fun _ => ?_, fun h => absurd (by with_reducible exact nI_0le (by omega)) h⟩
                   | refine ⟨fun h => absurd h (by decide), fun _ => ?_⟩
                   | refine ⟨fun _ => ?_, fun h => absurd (by decide) h⟩
                   | refine ⟨fun _ => ?_, fun h => absurd h (by decide)⟩
                   | refine ⟨fun h => absurd (by decide) h, fun _ => ?_⟩
                   | refine ⟨by decide, ?_⟩
                   | refine ⟨rfl, ?_⟩)
                | (conv => whnf
                   fail_if_success refine Exists.intro ?_ ?_
                   simp only [s1, s2, s3, s4, nI_clamp (show d < 2 ^ 31 by omega), nI_clamp (show k < 2 ^ 31 by omega)]))
              try (conv => whnf)
              try dsimp only
              try simp (decide := true) only [zu_same, zu_ne1, zu_ne2, zu_row, zuL_same, zuL_ne1, zuL_ne2, zrow_n1, zx0, zx1, zx2, zx3, nI_1, Nat.reduceAdd, Nat.reduceMul, Int32.reduceAdd, Int32.reduceSub, Int32.reduceMul]
              first
              | exact jn 0 _ (Or.inl rfl) (hw _)
              | exact jn 1 _ (Or.inr rfl) (hw _)
    refine hG 40 _ _ _ _ _ ?_
    repeat (first
      | (conv => whnf
         try dsimp only
         try simp (decide := true) only [r1, nI_clamp (show k < 2 ^ 31 by omega), zu_same, zu_ne1, zu_ne2, zu_row, zuL_same, zuL_ne1, zuL_ne2, zrow_n1, zx0, zx1, zx2, zx3, nI_1, Nat.reduceAdd, Nat.reduceMul, Int32.reduceAdd, Int32.reduceSub, Int32.reduceMul]
         first
         | refine ⟨vp_inb (by decide), ?_⟩
         | refine ⟨by with_reducible exact zi (by omega), ?_⟩
         | refine ⟨fun h => absurd h (by with_reducible exact nI_ge (by omega) (by omega)), fun _ => ?_⟩
         | refine ⟨fun _ => ?_, fun h => absurd (by with_reducible exact nI_le (by omega) (by omega)) h⟩
         | refine ⟨fun h => absurd h (by with_reducible exact nI_nlt (by omega) (by omega)), fun _ => ?_⟩
         | refine ⟨fun _ => ?_, fun h => absurd (by with_reducible exact nI_lt (by omega) (by omega)) h⟩
         | refine ⟨fun h => absurd h (by with_reducible exact nI_pos (by omega)), fun _ => ?_⟩
         | refine ⟨fun _ => ?_, fun h => absurd (by with_reducible exact nI_0le (by omega)) h⟩
         | refine ⟨fun h => absurd h (by decide), fun _ => ?_⟩
         | refine ⟨fun _ => ?_, fun h => absurd (by decide) h⟩
         | refine ⟨fun _ => ?_, fun h => absurd h (by decide)⟩
         | refine ⟨fun h => absurd (by decide) h, fun _ => ?_⟩
         | refine ⟨by decide, ?_⟩
         | refine ⟨rfl, ?_⟩)
      | (conv => whnf
         fail_if_success refine Exists.intro ?_ ?_
         simp only [r1, nI_clamp (show k < 2 ^ 31 by omega)]))
    try (conv => whnf)
    exact loop 4 0 1 σ (by omega) (Or.inr rfl) (fun _ _ => rfl)
def spX2_noteDimensions : zSp := zDQ (X := zIn × zLo × Nat × Nat × Nat × Nat × Nat) (fun x => match x with | (σ, τ, k, c, i, j, q) => [.ref 17, .int (nI k)]) (fun x => match x with | (σ, τ, k, c, i, j, q) => (119, zSH, zRH, σ, τ)) (fun x => match x with | (σ, τ, k, c, i, j, q) => k < 60 ∧ σ 18 k = nI c ∧ 2 ≤ c ∧ c ≤ 9 ∧ i < 60 ∧ j < 60 ∧ q < 60 ∧ σ 19 k = nI i ∧ σ 20 k = nI j ∧ σ 21 k = nI q) (fun x r9 μ9 => match x with | (σ, τ, k, c, i, j, q) => r9 = none ∧ ∃ (σ1 : zIn) (τ1 : zLo), μ9 = (119, zSH, zRH, σ1, τ1) ∧ (∀ r, r ≠ 23 + k → r ≠ 83 → σ1 r = σ r) ∧ ∀ r, r ≠ 17 → τ1 r = τ r)
abbrev rmX2_noteDimensions : Room := ({ frames := 1, cells := 0, slots := 0, locals := 27 } : Room)
set_option maxRecDepth 100000 in
set_option maxHeartbeats 4000000 in
theorem ctX2_noteDimensions (l : Launch) (D : va_G) (cA : Nat → ClassId) : zCt false l D cA yX2_noteDimensions cX2_noteDimensions 2 (none) rmX2_noteDimensions spX2_noteDimensions := by
  refine zct_Q (zCX2_noteDimensions [(61, 0, 4, spX2_measure, rmX2_measure.cells, rmX2_measure.slots), (68, 1, 1, spX2_faultOf, rmX2_faultOf.cells, rmX2_faultOf.slots)]) zpX2_noteDimensions [] (by decide +kernel) zkX2_noteDimensions (Or.inr (by decide +kernel)) trivial ⟨by decide +kernel, by decide +kernel⟩ (fun x ad => Nat.le_of_ble_eq_true rfl) ?_ ?_
  · intro p e s m args below meth c A H0 ad0 n0 Q F hml hNw hA hX
    exact ⟨zco_V hX hA F hml hNw (ctX2_measure l D cA) ⟨⟨zlX2_noteDimensions_61, zwX2_measure.1.1, zwX2_measure.1.2⟩, zwX2_measure.2⟩ zdX2_measure ⟨Nat.le_of_ble_eq_true rfl, Nat.le_of_ble_eq_true rfl⟩ (ci := 2) (by decide) rfl (by rintro av μ K ⟨x, rfl, rfl, -⟩; exact ⟨_, _, rfl, rfl⟩), zco_S hX hA F hml hNw (ctX2_faultOf l D cA) ⟨⟨zlX2_noteDimensions_68, zwX2_faultOf.1⟩, zwX2_faultOf.2⟩ zdX2_faultOf ⟨Nat.le_of_ble_eq_true rfl, Nat.le_of_ble_eq_true rfl⟩, trivial⟩
  · rintro ⟨σ, τ, k, c, i, j, q⟩ Ret hP hK Gl hG
    try dsimp only at hP hK
    show Gl 0 (zent 2 [.ref 17, .int (nI k)]) [] (0, 0) ((119, zSH, zRH, σ, τ))
    obtain ⟨hk, hc, hc2, hc9, hi, hj, hq, h19, h20, h21⟩ := hP
    have r2 := zRH_pe i hi
    have r3 := zRH_pe j hj
    have r4 := zRH_pe q hq
    refine hG 100 _ _ _ _ _ ?_
    repeat (first
      | (conv => whnf
         try dsimp only
         try simp (decide := true) only [h19, h20, h21, r2, r3, r4, nI_clamp (show k < 2 ^ 31 by omega), nI_clamp (show i < 2 ^ 31 by omega), nI_clamp (show j < 2 ^ 31 by omega), nI_clamp (show q < 2 ^ 31 by omega), zu_same, zu_ne1, zu_ne2, zu_row, zuL_same, zuL_ne1, zuL_ne2, zrow_n1, zx0, zx1, zx2, zx3, nI_1, Nat.reduceAdd, Nat.reduceMul, Int32.reduceAdd, Int32.reduceSub, Int32.reduceMul]
         first
         | refine ⟨vp_inb (by decide), ?_⟩
         | refine ⟨by with_reducible exact zi (by omega), ?_⟩
         | refine ⟨fun h => absurd h (by with_reducible exact nI_ge (by omega) (by omega)), fun _ => ?_⟩
         | refine ⟨fun _ => ?_, fun h => absurd (by with_reducible exact nI_le (by omega) (by omega)) h⟩
         | refine ⟨fun h => absurd h (by with_reducible exact nI_nlt (by omega) (by omega)), fun _ => ?_⟩
         | refine ⟨fun _ => ?_, fun h => absurd (by with_reducible exact nI_lt (by omega) (by omega)) h⟩
         | refine ⟨fun h => absurd h (by with_reducible exact nI_pos (by omega)), fun _ => ?_⟩
         | refine ⟨fun _ => ?_, fun h => absurd (by with_reducible exact nI_0le (by omega)) h⟩
         | refine ⟨fun h => absurd h (by decide), fun _ => ?_⟩
         | refine ⟨fun _ => ?_, fun h => absurd (by decide) h⟩
         | refine ⟨fun _ => ?_, fun h => absurd h (by decide)⟩
         | refine ⟨fun h => absurd (by decide) h, fun _ => ?_⟩
         | refine ⟨by decide, ?_⟩
         | refine ⟨rfl, ?_⟩)
      | (conv => whnf
         fail_if_success refine Exists.intro ?_ ?_
         simp only [h19, h20, h21, r2, r3, r4, nI_clamp (show k < 2 ^ 31 by omega), nI_clamp (show i < 2 ^ 31 by omega), nI_clamp (show j < 2 ^ 31 by omega), nI_clamp (show q < 2 ^ 31 by omega)]))
    try (conv => whnf)
    refine ⟨(σ, τ, k, c, i, j, q), rfl, rfl, ⟨hk, hc, hc2, hc9, hi, hj, hq⟩, ?_⟩
    try dsimp only [cond_true, cond_false]
    rintro _ _ ⟨rfl | rfl, σ1, rfl, hfr⟩
    · skip
      repeat (first
        | (conv => whnf
           try dsimp only
           try simp (decide := true) only [nI_clamp (show k < 2 ^ 31 by omega), zu_same, zu_ne1, zu_ne2, zu_row, zuL_same, zuL_ne1, zuL_ne2, zrow_n1, zx0, zx1, zx2, zx3, nI_1, Nat.reduceAdd, Nat.reduceMul, Int32.reduceAdd, Int32.reduceSub, Int32.reduceMul]
           first
           | refine ⟨vp_inb (by decide), ?_⟩
           | refine ⟨by with_reducible exact zi (by omega), ?_⟩
           | refine ⟨fun h => absurd h (by with_reducible exact nI_ge (by omega) (by omega)), fun _ => ?_⟩
           | refine ⟨fun _ => ?_, fun h => absurd (by with_reducible exact nI_le (by omega) (by omega)) h⟩
           | refine ⟨fun h => absurd h (by with_reducible exact nI_nlt (by omega) (by omega)), fun _ => ?_⟩
           | refine ⟨fun _ => ?_, fun h => absurd (by with_reducible exact nI_lt (by omega) (by omega)) h⟩
           | refine ⟨fun h => absurd h (by with_reducible exact nI_pos (by omega)), fun _ => ?_⟩
           | refine ⟨fun _ => ?_, fun h => absurd (by with_reducible exact nI_0le (by omega)) h⟩
           | refine ⟨fun h => absurd h (by decide), fun _ => ?_⟩
           | refine ⟨fun _ => ?_, fun h => absurd (by decide) h⟩
           | refine ⟨fun _ => ?_, fun h => absurd h (by decide)⟩
           | refine ⟨fun h => absurd (by decide) h, fun _ => ?_⟩
           | refine ⟨by decide, ?_⟩
           | refine ⟨rfl, ?_⟩)
        | (conv => whnf
           fail_if_success refine Exists.intro ?_ ?_
           simp only [nI_clamp (show k < 2 ^ 31 by omega)]))
      try (conv => whnf)
      refine ⟨(_, _), rfl, rfl, trivial, ?_⟩
      try dsimp only [cond_true, cond_false]
      rintro _ _ ⟨⟨y, rfl⟩, rfl⟩
      repeat (first
        | (conv => whnf
           try dsimp only
           try simp (decide := true) only [nI_clamp (show k < 2 ^ 31 by omega), zu_same, zu_ne1, zu_ne2, zu_row, zuL_same, zuL_ne1, zuL_ne2, zrow_n1, zx0, zx1, zx2, zx3, nI_1, Nat.reduceAdd, Nat.reduceMul, Int32.reduceAdd, Int32.reduceSub, Int32.reduceMul]
           first
           | refine ⟨vp_inb (by decide), ?_⟩
           | refine ⟨by with_reducible exact zi (by omega), ?_⟩
           | refine ⟨fun h => absurd h (by with_reducible exact nI_ge (by omega) (by omega)), fun _ => ?_⟩
           | refine ⟨fun _ => ?_, fun h => absurd (by with_reducible exact nI_le (by omega) (by omega)) h⟩
           | refine ⟨fun h => absurd h (by with_reducible exact nI_nlt (by omega) (by omega)), fun _ => ?_⟩
           | refine ⟨fun _ => ?_, fun h => absurd (by with_reducible exact nI_lt (by omega) (by omega)) h⟩
           | refine ⟨fun h => absurd h (by with_reducible exact nI_pos (by omega)), fun _ => ?_⟩
           | refine ⟨fun _ => ?_, fun h => absurd (by with_reducible exact nI_0le (by omega)) h⟩
           | refine ⟨fun h => absurd h (by decide), fun _ => ?_⟩
           | refine ⟨fun _ => ?_, fun h => absurd (by decide) h⟩
           | refine ⟨fun _ => ?_, fun h => absurd h (by decide)⟩
           | refine ⟨fun h => absurd (by decide) h, fun _ => ?_⟩
           | refine ⟨by decide, ?_⟩
           | refine ⟨rfl, ?_⟩)
        | (conv => whnf
           fail_if_success refine Exists.intro ?_ ?_
           simp only [nI_clamp (show k < 2 ^ 31 by omega)]))
      try (conv => whnf)
      exact hK _ _ ⟨rfl, _, _, rfl, fun r h1 h2 => by rw [zu_row h2]; exact hfr r h1, fun r h => zuL_row h⟩
    · skip
      repeat (conv => whnf
              try dsimp only
              try simp (decide := true) only [zu_same, zu_ne1, zu_ne2, zu_row, zuL_same, zuL_ne1, zuL_ne2, zrow_n1, zx0, zx1, zx2, zx3, nI_1, Nat.reduceAdd, Nat.reduceMul, Int32.reduceAdd, Int32.reduceSub, Int32.reduceMul]
              first
              | refine ⟨vp_inb (by decide), ?_⟩
              | refine ⟨by with_reducible exact zi (by omega), ?_⟩
              | refine ⟨fun h => absurd h (by with_reducible exact nI_ge (by omega) (by omega)), fun _ => ?_⟩
              | refine ⟨fun _ => ?_, fun h => absurd (by with_reducible exact nI_le (by omega) (by omega)) h⟩
              | refine ⟨fun h => absurd h (by with_reducible exact nI_nlt (by omega) (by omega)), fun _ => ?_⟩
              | refine ⟨fun _ => ?_, fun h => absurd (by with_reducible exact nI_lt (by omega) (by omega)) h⟩
              | refine ⟨fun h => absurd h (by with_reducible exact nI_pos (by omega)), fun _ => ?_⟩
              | refine ⟨fun _ => ?_, fun h => absurd (by with_reducible exact nI_0le (by omega)) h⟩
              | refine ⟨fun h => absurd h (by decide), fun _ => ?_⟩
              | refine ⟨fun _ => ?_, fun h => absurd (by decide) h⟩
              | refine ⟨fun _ => ?_, fun h => absurd h (by decide)⟩
              | refine ⟨fun h => absurd (by decide) h, fun _ => ?_⟩
              | refine ⟨by decide, ?_⟩
              | refine ⟨rfl, ?_⟩)
      try (conv => whnf)
      exact hK _ _ ⟨rfl, _, _, rfl, fun r h1 h2 => hfr r h1, fun r h => zuL_row h⟩
/-- a part has been added -/
def cNewP (σ : zIn) (τ : zLo) (σ1 : zIn) (τ1 : zLo) (pc : Nat) : Prop := (∀ r, r < 17 ∨ 85 < r → σ1 r = σ r) ∧ σ1 17 10 = nI (pc + 1) ∧ ∀ k, k ≠ pc → σ1 18 k = σ 18 k ∧ σ1 19 k = σ 19 k ∧ σ1 20 k = σ 20 k ∧ σ1 21 k = σ 21 k ∧ σ1 85 k = σ 85 k ∧ τ1 84 k = τ 84 k
def spX2_addLeaf : zSp := zDQ (X := zIn × zLo × Nat × Int32 × Int32 × Int32 × Nat) (fun x => match x with | (σ, τ, pc, lc, a, ln, u) => [.ref 17, .int lc, .int a, .int ln, .ref (3 + u)]) (fun x => match x with | (σ, τ, pc, lc, a, ln, u) => (119, zSH, zRH, σ, τ)) (fun x => match x with | (σ, τ, pc, lc, a, ln, u) => σ 17 10 = nI pc ∧ pc < 60 ∧ u < 12) (fun x r9 μ9 => match x with | (σ, τ, pc, lc, a, ln, u) => r9 = some (.int (nI pc)) ∧ ∃ (σ1 : zIn) (τ1 : zLo), μ9 = (119, zSH, zRH, σ1, τ1) ∧ cNewP σ τ σ1 τ1 pc ∧ σ1 18 pc = lc ∧ σ1 19 pc = a ∧ σ1 85 pc = ln ∧ τ1 84 pc = zrb pc)
abbrev rmX2_addLeaf : Room := ({ frames := 1, cells := 0, slots := 0, locals := 26 } : Room)
set_option maxRecDepth 100000 in
set_option maxHeartbeats 4000000 in
theorem ctX2_addLeaf (l : Launch) (D : va_G) (cA : Nat → ClassId) : zCt false l D cA yX2_addLeaf cX2_addLeaf 6 (some .int) rmX2_addLeaf spX2_addLeaf := by
  refine zct_Q (zCX2_addLeaf [(43, 1, 5, spCopy, 0, 0)]) zpX2_addLeaf [] (by decide +kernel) zkX2_addLeaf (Or.inr (by decide +kernel)) trivial ⟨by decide +kernel, by decide +kernel⟩ (fun x ad => Nat.le_of_ble_eq_true rfl) ?_ ?_
  · intro p e s m args below meth c A H0 ad0 n0 Q F hml hNw hA hX
    exact ⟨zco_copy F hml ⟨zlX2_addLeaf_43, zlib_copy⟩ ⟨Nat.le_of_ble_eq_true rfl, Nat.le_of_ble_eq_true rfl⟩, trivial⟩
  · rintro ⟨σ, τ, pc, lc, a, ln, u⟩ Ret hP hK Gl hG
    try dsimp only at hP hK
    show Gl 0 (zent 6 [.ref 17, .int lc, .int a, .int ln, .ref (3 + u)]) [] (0, 0) ((119, zSH, zRH, σ, τ))
    obtain ⟨hpc, h60, hu⟩ := hP
    have r1 := zRH_pe pc h60
    have s1 := zSH_pe pc h60
    have s2 := zSH_ue u hu
    refine hG 100 _ _ _ _ _ ?_
    repeat (first
      | (conv => whnf
         try dsimp only
         try simp (decide := true) only [hpc, r1, nI_clamp (show pc < 2 ^ 31 by omega), zu_same, zu_ne1, zu_ne2, zu_row, zuL_same, zuL_ne1, zuL_ne2, zrow_n1, zx0, zx1, zx2, zx3, nI_1, Nat.reduceAdd, Nat.reduceMul, Int32.reduceAdd, Int32.reduceSub, Int32.reduceMul]
         first
         | refine ⟨vp_inb (by decide), ?_⟩
         | refine ⟨by with_reducible exact zi (by omega), ?_⟩
         | refine ⟨fun h => absurd h (by with_reducible exact nI_ge (by omega) (by omega)), fun _ => ?_⟩
         | refine ⟨fun _ => ?_, fun h => absurd (by with_reducible exact nI_le (by omega) (by omega)) h⟩
         | refine ⟨fun h => absurd h (by with_reducible exact nI_nlt (by omega) (by omega)), fun _ => ?_⟩
         | refine ⟨fun _ => ?_, fun h => absurd (by with_reducible exact nI_lt (by omega) (by omega)) h⟩
         | refine ⟨fun h => absurd h (by with_reducible exact nI_pos (by omega)), fun _ => ?_⟩
         | refine ⟨fun _ => ?_, fun h => absurd (by with_reducible exact nI_0le (by omega)) h⟩
         | refine ⟨fun h => absurd h (by decide), fun _ => ?_⟩
         | refine ⟨fun _ => ?_, fun h => absurd (by decide) h⟩
         | refine ⟨fun _ => ?_, fun h => absurd h (by decide)⟩
         | refine ⟨fun h => absurd (by decide) h, fun _ => ?_⟩
         | refine ⟨by decide, ?_⟩
         | refine ⟨rfl, ?_⟩)
      | (conv => whnf
         fail_if_success refine Exists.intro ?_ ?_
         simp only [hpc, r1, nI_clamp (show pc < 2 ^ 31 by omega)]))
    try (conv => whnf)
    refine ⟨_, _, _, _, _, _, _, rfl, s2, s1, ⟨by decide, by decide, by decide, by decide, by decide⟩, ?_⟩
    repeat (first
      | (conv => whnf
         try dsimp only
         try simp (decide := true) only [hpc, nI_clamp (show pc < 2 ^ 31 by omega), zu_same, zu_ne1, zu_ne2, zu_row, zuL_same, zuL_ne1, zuL_ne2, zrow_n1, zx0, zx1, zx2, zx3, nI_1, Nat.reduceAdd, Nat.reduceMul, Int32.reduceAdd, Int32.reduceSub, Int32.reduceMul]
         first
         | refine ⟨vp_inb (by decide), ?_⟩
         | refine ⟨by with_reducible exact zi (by omega), ?_⟩
         | refine ⟨fun h => absurd h (by with_reducible exact nI_ge (by omega) (by omega)), fun _ => ?_⟩
         | refine ⟨fun _ => ?_, fun h => absurd (by with_reducible exact nI_le (by omega) (by omega)) h⟩
         | refine ⟨fun h => absurd h (by with_reducible exact nI_nlt (by omega) (by omega)), fun _ => ?_⟩
         | refine ⟨fun _ => ?_, fun h => absurd (by with_reducible exact nI_lt (by omega) (by omega)) h⟩
         | refine ⟨fun h => absurd h (by with_reducible exact nI_pos (by omega)), fun _ => ?_⟩
         | refine ⟨fun _ => ?_, fun h => absurd (by with_reducible exact nI_0le (by omega)) h⟩
         | refine ⟨fun h => absurd h (by decide), fun _ => ?_⟩
         | refine ⟨fun _ => ?_, fun h => absurd (by decide) h⟩
         | refine ⟨fun _ => ?_, fun h => absurd h (by decide)⟩
         | refine ⟨fun h => absurd (by decide) h, fun _ => ?_⟩
         | refine ⟨by decide, ?_⟩
         | refine ⟨rfl, ?_⟩)
      | (conv => whnf
         fail_if_success refine Exists.intro ?_ ?_
         simp only [hpc, nI_clamp (show pc < 2 ^ 31 by omega)]))
    try (conv => whnf)
    refine hK _ _ ⟨rfl, _, _, rfl, ⟨fun r hr => ?_, ?_, fun k hk => ⟨?_, ?_, ?_, ?_, ?_, ?_⟩⟩, ?_, ?_, ?_, ?_⟩
    · rw [zrow_ne (by omega), zu_row (by omega), zu_row (by omega), zu_row (by omega), zu_row (by omega)]
    all_goals
      first
      | simp (decide := true) only [zrow_n1 (show (17 : Nat) ≠ 23 + pc by omega), zrow_n1 (show (18 : Nat) ≠ 23 + pc by omega), zrow_n1 (show (19 : Nat) ≠ 23 + pc by omega), zrow_n1 (show (20 : Nat) ≠ 23 + pc by omega), zrow_n1 (show (21 : Nat) ≠ 23 + pc by omega), zrow_n1 (show (85 : Nat) ≠ 23 + pc by omega), zu_same, zu_ne1, zu_ne2, zuL_same, zuL_ne1, zuL_ne2, hpc, nI_1, ne_eq, hk, not_false_eq_true]
      | simp (decide := true) only [zrow_n1 (show (17 : Nat) ≠ 23 + pc by omega), zrow_n1 (show (18 : Nat) ≠ 23 + pc by omega), zrow_n1 (show (19 : Nat) ≠ 23 + pc by omega), zrow_n1 (show (20 : Nat) ≠ 23 + pc by omega), zrow_n1 (show (21 : Nat) ≠ 23 + pc by omega), zrow_n1 (show (85 : Nat) ≠ 23 + pc by omega), zu_same, zu_ne1, zu_ne2, zuL_same, zuL_ne1, zuL_ne2, hpc, nI_1]
      try rfl
def spX2_addNode : zSp := zDQ (X := zIn × zLo × Nat × Nat × Nat × Nat × Nat) (fun x => match x with | (σ, τ, pc, c, i, j, q) => [.ref 17, .int (nI c), .int (nI i), .int (nI j), .int (nI q)]) (fun x => match x with | (σ, τ, pc, c, i, j, q) => (119, zSH, zRH, σ, τ)) (fun x => match x with | (σ, τ, pc, c, i, j, q) => σ 17 10 = nI pc ∧ pc < 60 ∧ i < pc ∧ j < pc ∧ q < pc ∧ 2 ≤ c ∧ c ≤ 9) (fun x r9 μ9 => match x with | (σ, τ, pc, c, i, j, q) => r9 = some (.int (nI pc)) ∧ ∃ (σ1 : zIn) (τ1 : zLo), μ9 = (119, zSH, zRH, σ1, τ1) ∧ cNewP σ τ σ1 τ1 pc ∧ σ1 18 pc = nI c ∧ σ1 19 pc = nI i ∧ σ1 20 pc = nI j ∧ σ1 21 pc = nI q ∧ σ1 85 pc = σ 85 i ||| σ 85 j ||| σ 85 q ∧ τ1 84 pc = τ 84 i ||| τ 84 j ||| τ 84 q ||| zrb pc)
abbrev rmX2_addNode : Room := ({ frames := 2, cells := 0, slots := 0, locals := 48 } : Room)
set_option maxRecDepth 100000 in
set_option maxHeartbeats 4000000 in
theorem ctX2_addNode (l : Launch) (D : va_G) (cA : Nat → ClassId) : zCt false l D cA yX2_addNode cX2_addNode 6 (some .int) rmX2_addNode spX2_addNode := by
  refine zct_Q (zCX2_addNode [(53, 1, 2, spX7_isPartIn, rmX7_isPartIn.cells, rmX7_isPartIn.slots), (57, 0, 1, spX2_noteDimensions, rmX2_noteDimensions.cells, rmX2_noteDimensions.slots)]) zpX2_addNode [110] (by decide +kernel) zkX2_addNode (Or.inr (by decide +kernel)) trivial ⟨by decide +kernel, by decide +kernel⟩ (fun x ad => Nat.le_of_ble_eq_true rfl) ?_ ?_
  · intro p e s m args below meth c A H0 ad0 n0 Q F hml hNw hA hX
    exact ⟨zco_SN hX hA F hml hNw (ctX7_isPartIn l D cA) ⟨⟨zlX2_addNode_53, zwX7_isPartIn.1⟩, zwX7_isPartIn.2⟩ zdX7_isPartIn ⟨Nat.le_of_ble_eq_true rfl, Nat.le_of_ble_eq_true rfl⟩, zco_V hX hA F hml hNw (ctX2_noteDimensions l D cA) ⟨⟨zlX2_addNode_57, zwX2_noteDimensions.1.1, zwX2_noteDimensions.1.2⟩, zwX2_noteDimensions.2⟩ zdX2_noteDimensions ⟨Nat.le_of_ble_eq_true rfl, Nat.le_of_ble_eq_true rfl⟩ (ci := 2) (by decide) rfl (by rintro av μ K ⟨x, rfl, rfl, -⟩; exact ⟨_, _, rfl, rfl⟩), trivial⟩
  · rintro ⟨σ, τ, pc, c, i, j, q⟩ Ret hP hK Gl hG
    try dsimp only at hP hK
    show Gl 0 (zent 6 [.ref 17, .int (nI c), .int (nI i), .int (nI j), .int (nI q)]) [] (0, 0) ((119, zSH, zRH, σ, τ))
    obtain ⟨hpc, h60, hi, hj, hq, hc2, hc9⟩ := hP
    have step : ∀ (σ1 : zIn) (τ1 : zLo), cNewP σ τ σ1 τ1 pc → σ1 18 pc = nI c → σ1 19 pc = nI i → σ1 20 pc = nI j → σ1 21 pc = nI q → σ1 85 pc = σ 85 i ||| σ 85 j ||| σ 85 q → τ1 84 pc = τ 84 i ||| τ 84 j ||| τ 84 q ||| zrb pc → Gl 110 [some (.ref 17), some (.int (nI c)), some (.int (nI i)), some (.int (nI j)), some (.int (nI q)), some (.int (nI pc))] [] (0, 0) (119, zSH, zRH, σ1, τ1) := by
      intro σ1 τ1 hN h18 h19 h20 h21 h85 h84
      refine hG 100 _ _ _ _ _ ?_
      repeat (conv => whnf
              try dsimp only
              try simp (decide := true) only [zu_same, zu_ne1, zu_ne2, zu_row, zuL_same, zuL_ne1, zuL_ne2, zrow_n1, zx0, zx1, zx2, zx3, nI_1, Nat.reduceAdd, Nat.reduceMul, Int32.reduceAdd, Int32.reduceSub, Int32.reduceMul]
              first
              | refine ⟨vp_inb (by decide), ?_⟩
              | refine ⟨by with_reducible exact zi (by omega), ?_⟩
              | refine ⟨fun h => absurd h (by with_reducible exact nI_ge (by omega) (by omega)), fun _ => ?_⟩
              | refine ⟨fun _ => ?_, fun h => absurd (by with_reducible exact nI_le (by omega) (by omega)) h⟩
              | refine ⟨fun h => absurd h (by with_reducible exact nI_nlt (by omega) (by omega)), fun _ => ?_⟩
              | refine ⟨fun _ => ?_, fun h => absurd (by with_reducible exact nI_lt (by omega) (by omega)) h⟩
              | refine ⟨fun h => absurd h (by with_reducible exact nI_pos (by omega)), fun _ => ?_⟩
              | refine ⟨fun _ => ?_, fun h => absurd (by with_reducible exact nI_0le (by omega)) h⟩
              | refine ⟨fun h => absurd h (by decide), fun _ => ?_⟩
              | refine ⟨fun _ => ?_, fun h => absurd (by decide) h⟩
              | refine ⟨fun _ => ?_, fun h => absurd h (by decide)⟩
              | refine ⟨fun h => absurd (by decide) h, fun _ => ?_⟩
              | refine ⟨by decide, ?_⟩
              | refine ⟨rfl, ?_⟩)
      try (conv => whnf)
      refine ⟨(τ1 17 8, nI i, (119, zSH, zRH, σ1, τ1)), rfl, rfl, trivial, ?_⟩
      try dsimp only [cond_true, cond_false]
      by_cases b1 : bL (τ1 17 8) i = true
      · rw [if_neg (zbL_t (by omega) b1)]
        repeat (conv => whnf
                try dsimp only
                try simp (decide := true) only [zu_same, zu_ne1, zu_ne2, zu_row, zuL_same, zuL_ne1, zuL_ne2, zrow_n1, zx0, zx1, zx2, zx3, nI_1, Nat.reduceAdd, Nat.reduceMul, Int32.reduceAdd, Int32.reduceSub, Int32.reduceMul]
                first
                | refine ⟨vp_inb (by decide), ?_⟩
                | refine ⟨by with_reducible exact zi (by omega), ?_⟩
                | refine ⟨fun h => absurd h (by with_reducible exact nI_ge (by omega) (by omega)), fun _ => ?_⟩
                | refine ⟨fun _ => ?_, fun h => absurd (by with_reducible exact nI_le (by omega) (by omega)) h⟩
                | refine ⟨fun h => absurd h (by with_reducible exact nI_nlt (by omega) (by omega)), fun _ => ?_⟩
                | refine ⟨fun _ => ?_, fun h => absurd (by with_reducible exact nI_lt (by omega) (by omega)) h⟩
                | refine ⟨fun h => absurd h (by with_reducible exact nI_pos (by omega)), fun _ => ?_⟩
                | refine ⟨fun _ => ?_, fun h => absurd (by with_reducible exact nI_0le (by omega)) h⟩
                | refine ⟨fun h => absurd h (by decide), fun _ => ?_⟩
                | refine ⟨fun _ => ?_, fun h => absurd (by decide) h⟩
                | refine ⟨fun _ => ?_, fun h => absurd h (by decide)⟩
                | refine ⟨fun h => absurd (by decide) h, fun _ => ?_⟩
                | refine ⟨by decide, ?_⟩
                | refine ⟨rfl, ?_⟩)
        try (conv => whnf)
        refine ⟨(τ1 17 8, nI j, (119, zSH, zRH, σ1, τ1)), rfl, rfl, trivial, ?_⟩
        try dsimp only [cond_true, cond_false]
        by_cases b2 : bL (τ1 17 8) j = true
        · rw [if_neg (zbL_t (by omega) b2)]
          repeat (conv => whnf
                  try dsimp only
                  try simp (decide := true) only [zu_same, zu_ne1, zu_ne2, zu_row, zuL_same, zuL_ne1, zuL_ne2, zrow_n1, zx0, zx1, zx2, zx3, nI_1, Nat.reduceAdd, Nat.reduceMul, Int32.reduceAdd, Int32.reduceSub, Int32.reduceMul]
                  first
                  | refine ⟨vp_inb (by decide), ?_⟩
                  | refine ⟨by with_reducible exact zi (by omega), ?_⟩
                  | refine ⟨fun h => absurd h (by with_reducible exact nI_ge (by omega) (by omega)), fun _ => ?_⟩
                  | refine ⟨fun _ => ?_, fun h => absurd (by with_reducible exact nI_le (by omega) (by omega)) h⟩
                  | refine ⟨fun h => absurd h (by with_reducible exact nI_nlt (by omega) (by omega)), fun _ => ?_⟩
                  | refine ⟨fun _ => ?_, fun h => absurd (by with_reducible exact nI_lt (by omega) (by omega)) h⟩
                  | refine ⟨fun h => absurd h (by with_reducible exact nI_pos (by omega)), fun _ => ?_⟩
                  | refine ⟨fun _ => ?_, fun h => absurd (by with_reducible exact nI_0le (by omega)) h⟩
                  | refine ⟨fun h => absurd h (by decide), fun _ => ?_⟩
                  | refine ⟨fun _ => ?_, fun h => absurd (by decide) h⟩
                  | refine ⟨fun _ => ?_, fun h => absurd h (by decide)⟩
                  | refine ⟨fun h => absurd (by decide) h, fun _ => ?_⟩
                  | refine ⟨by decide, ?_⟩
                  | refine ⟨rfl, ?_⟩)
          try (conv => whnf)
          refine ⟨(τ1 17 8, nI q, (119, zSH, zRH, σ1, τ1)), rfl, rfl, trivial, ?_⟩
          try dsimp only [cond_true, cond_false]
          by_cases b3 : bL (τ1 17 8) q = true
          · rw [if_neg (zbL_t (by omega) b3)]
            repeat (conv => whnf
                    try dsimp only
                    try simp (decide := true) only [zu_same, zu_ne1, zu_ne2, zu_row, zuL_same, zuL_ne1, zuL_ne2, zrow_n1, zx0, zx1, zx2, zx3, nI_1, Nat.reduceAdd, Nat.reduceMul, Int32.reduceAdd, Int32.reduceSub, Int32.reduceMul]
                    first
                    | refine ⟨vp_inb (by decide), ?_⟩
                    | refine ⟨by with_reducible exact zi (by omega), ?_⟩
                    | refine ⟨fun h => absurd h (by with_reducible exact nI_ge (by omega) (by omega)), fun _ => ?_⟩
                    | refine ⟨fun _ => ?_, fun h => absurd (by with_reducible exact nI_le (by omega) (by omega)) h⟩
                    | refine ⟨fun h => absurd h (by with_reducible exact nI_nlt (by omega) (by omega)), fun _ => ?_⟩
                    | refine ⟨fun _ => ?_, fun h => absurd (by with_reducible exact nI_lt (by omega) (by omega)) h⟩
                    | refine ⟨fun h => absurd h (by with_reducible exact nI_pos (by omega)), fun _ => ?_⟩
                    | refine ⟨fun _ => ?_, fun h => absurd (by with_reducible exact nI_0le (by omega)) h⟩
                    | refine ⟨fun h => absurd h (by decide), fun _ => ?_⟩
                    | refine ⟨fun _ => ?_, fun h => absurd (by decide) h⟩
                    | refine ⟨fun _ => ?_, fun h => absurd h (by decide)⟩
                    | refine ⟨fun h => absurd (by decide) h, fun _ => ?_⟩
                    | refine ⟨by decide, ?_⟩
                    | refine ⟨rfl, ?_⟩)
            try (conv => whnf)
            refine ⟨(σ1, τ1, pc, c, i, j, q), rfl, rfl, ⟨h60, h18, hc2, hc9, by omega, by omega, by omega, h19, h20, h21⟩, ?_⟩
            try dsimp only [cond_true, cond_false]
            rintro _ _ ⟨rfl, σ2, τ2, rfl, g1, g2⟩
            repeat (conv => whnf
                    try dsimp only
                    try simp (decide := true) only [zu_same, zu_ne1, zu_ne2, zu_row, zuL_same, zuL_ne1, zuL_ne2, zrow_n1, zx0, zx1, zx2, zx3, nI_1, Nat.reduceAdd, Nat.reduceMul, Int32.reduceAdd, Int32.reduceSub, Int32.reduceMul]
                    first
                    | refine ⟨vp_inb (by decide), ?_⟩
                    | refine ⟨by with_reducible exact zi (by omega), ?_⟩
                    | refine ⟨fun h => absurd h (by with_reducible exact nI_ge (by omega) (by omega)), fun _ => ?_⟩
                    | refine ⟨fun _ => ?_, fun h => absurd (by with_reducible exact nI_le (by omega) (by omega)) h⟩
                    | refine ⟨fun h => absurd h (by with_reducible exact nI_nlt (by omega) (by omega)), fun _ => ?_⟩
                    | refine ⟨fun _ => ?_, fun h => absurd (by with_reducible exact nI_lt (by omega) (by omega)) h⟩
                    | refine ⟨fun h => absurd h (by with_reducible exact nI_pos (by omega)), fun _ => ?_⟩
                    | refine ⟨fun _ => ?_, fun h => absurd (by with_reducible exact nI_0le (by omega)) h⟩
                    | refine ⟨fun h => absurd h (by decide), fun _ => ?_⟩
                    | refine ⟨fun _ => ?_, fun h => absurd (by decide) h⟩
                    | refine ⟨fun _ => ?_, fun h => absurd h (by decide)⟩
                    | refine ⟨fun h => absurd (by decide) h, fun _ => ?_⟩
                    | refine ⟨by decide, ?_⟩
                    | refine ⟨rfl, ?_⟩)
            try (conv => whnf)
            have hr : ∀ r, (r < 23 ∨ r = 85) → σ2 r = σ1 r := fun r h => g1 r (by omega) (by omega)
            have h2 : τ2 84 = τ1 84 := g2 84 (by decide)
            refine hK _ _ ⟨rfl, σ2, τ2, rfl, ⟨fun r h => ?_, ?_, fun k hk => ?_⟩, ?_, ?_, ?_, ?_, ?_, ?_⟩
            · rw [g1 r (by omega) (by omega)]
              exact hN.1 r h
            · rw [hr 17 (by decide)]
              exact hN.2.1
            · rw [hr 18 (by decide), hr 19 (by decide), hr 20 (by decide), hr 21 (by decide), hr 85 (by decide), h2]
              exact hN.2.2 k hk
            · rw [hr 18 (by decide)]; exact h18
            · rw [hr 19 (by decide)]; exact h19
            · rw [hr 20 (by decide)]; exact h20
            · rw [hr 21 (by decide)]; exact h21
            · rw [hr 85 (by decide)]; exact h85
            · rw [h2]; exact h84
          · rw [if_pos (zbL_f (by omega) b3)]
            repeat (conv => whnf
                    try dsimp only
                    try simp (decide := true) only [zu_same, zu_ne1, zu_ne2, zu_row, zuL_same, zuL_ne1, zuL_ne2, zrow_n1, zx0, zx1, zx2, zx3, nI_1, Nat.reduceAdd, Nat.reduceMul, Int32.reduceAdd, Int32.reduceSub, Int32.reduceMul]
                    first
                    | refine ⟨vp_inb (by decide), ?_⟩
                    | refine ⟨by with_reducible exact zi (by omega), ?_⟩
                    | refine ⟨fun h => absurd h (by with_reducible exact nI_ge (by omega) (by omega)), fun _ => ?_⟩
                    | refine ⟨fun _ => ?_, fun h => absurd (by with_reducible exact nI_le (by omega) (by omega)) h⟩
                    | refine ⟨fun h => absurd h (by with_reducible exact nI_nlt (by omega) (by omega)), fun _ => ?_⟩
                    | refine ⟨fun _ => ?_, fun h => absurd (by with_reducible exact nI_lt (by omega) (by omega)) h⟩
                    | refine ⟨fun h => absurd h (by with_reducible exact nI_pos (by omega)), fun _ => ?_⟩
                    | refine ⟨fun _ => ?_, fun h => absurd (by with_reducible exact nI_0le (by omega)) h⟩
                    | refine ⟨fun h => absurd h (by decide), fun _ => ?_⟩
                    | refine ⟨fun _ => ?_, fun h => absurd (by decide) h⟩
                    | refine ⟨fun _ => ?_, fun h => absurd h (by decide)⟩
                    | refine ⟨fun h => absurd (by decide) h, fun _ => ?_⟩
                    | refine ⟨by decide, ?_⟩
                    | refine ⟨rfl, ?_⟩)
            try (conv => whnf)
            exact hK _ _ ⟨rfl, σ1, τ1, rfl, hN, h18, h19, h20, h21, h85, h84⟩
        · rw [if_pos (zbL_f (by omega) b2)]
          repeat (conv => whnf
                  try dsimp only
                  try simp (decide := true) only [zu_same, zu_ne1, zu_ne2, zu_row, zuL_same, zuL_ne1, zuL_ne2, zrow_n1, zx0, zx1, zx2, zx3, nI_1, Nat.reduceAdd, Nat.reduceMul, Int32.reduceAdd, Int32.reduceSub, Int32.reduceMul]
                  first
                  | refine ⟨vp_inb (by decide), ?_⟩
                  | refine ⟨by with_reducible exact zi (by omega), ?_⟩
                  | refine ⟨fun h => absurd h (by with_reducible exact nI_ge (by omega) (by omega)), fun _ => ?_⟩
                  | refine ⟨fun _ => ?_, fun h => absurd (by with_reducible exact nI_le (by omega) (by omega)) h⟩
                  | refine ⟨fun h => absurd h (by with_reducible exact nI_nlt (by omega) (by omega)), fun _ => ?_⟩
                  | refine ⟨fun _ => ?_, fun h => absurd (by with_reducible exact nI_lt (by omega) (by omega)) h⟩
                  | refine ⟨fun h => absurd h (by with_reducible exact nI_pos (by omega)), fun _ => ?_⟩
                  | refine ⟨fun _ => ?_, fun h => absurd (by with_reducible exact nI_0le (by omega)) h⟩
                  | refine ⟨fun h => absurd h (by decide), fun _ => ?_⟩
                  | refine ⟨fun _ => ?_, fun h => absurd (by decide) h⟩
                  | refine ⟨fun _ => ?_, fun h => absurd h (by decide)⟩
                  | refine ⟨fun h => absurd (by decide) h, fun _ => ?_⟩
                  | refine ⟨by decide, ?_⟩
                  | refine ⟨rfl, ?_⟩)
          try (conv => whnf)
          exact hK _ _ ⟨rfl, σ1, τ1, rfl, hN, h18, h19, h20, h21, h85, h84⟩
      · rw [if_pos (zbL_f (by omega) b1)]
        repeat (conv => whnf
                try dsimp only
                try simp (decide := true) only [zu_same, zu_ne1, zu_ne2, zu_row, zuL_same, zuL_ne1, zuL_ne2, zrow_n1, zx0, zx1, zx2, zx3, nI_1, Nat.reduceAdd, Nat.reduceMul, Int32.reduceAdd, Int32.reduceSub, Int32.reduceMul]
                first
                | refine ⟨vp_inb (by decide), ?_⟩
                | refine ⟨by with_reducible exact zi (by omega), ?_⟩
                | refine ⟨fun h => absurd h (by with_reducible exact nI_ge (by omega) (by omega)), fun _ => ?_⟩
                | refine ⟨fun _ => ?_, fun h => absurd (by with_reducible exact nI_le (by omega) (by omega)) h⟩
                | refine ⟨fun h => absurd h (by with_reducible exact nI_nlt (by omega) (by omega)), fun _ => ?_⟩
                | refine ⟨fun _ => ?_, fun h => absurd (by with_reducible exact nI_lt (by omega) (by omega)) h⟩
                | refine ⟨fun h => absurd h (by with_reducible exact nI_pos (by omega)), fun _ => ?_⟩
                | refine ⟨fun _ => ?_, fun h => absurd (by with_reducible exact nI_0le (by omega)) h⟩
                | refine ⟨fun h => absurd h (by decide), fun _ => ?_⟩
                | refine ⟨fun _ => ?_, fun h => absurd (by decide) h⟩
                | refine ⟨fun _ => ?_, fun h => absurd h (by decide)⟩
                | refine ⟨fun h => absurd (by decide) h, fun _ => ?_⟩
                | refine ⟨by decide, ?_⟩
                | refine ⟨rfl, ?_⟩)
        try (conv => whnf)
        exact hK _ _ ⟨rfl, σ1, τ1, rfl, hN, h18, h19, h20, h21, h85, h84⟩
    refine hG 100 _ _ _ _ _ ?_
    repeat (first
      | (conv => whnf
         try dsimp only
         try simp (decide := true) only [hpc, nI_clamp (show pc < 2 ^ 31 by omega), nI_clamp (show i < 2 ^ 31 by omega), nI_clamp (show j < 2 ^ 31 by omega), nI_clamp (show q < 2 ^ 31 by omega), zu_same, zu_ne1, zu_ne2, zu_row, zuL_same, zuL_ne1, zuL_ne2, zrow_n1, zx0, zx1, zx2, zx3, nI_1, Nat.reduceAdd, Nat.reduceMul, Int32.reduceAdd, Int32.reduceSub, Int32.reduceMul]
         first
         | refine ⟨vp_inb (by decide), ?_⟩
         | refine ⟨by with_reducible exact zi (by omega), ?_⟩
         | refine ⟨fun h => absurd h (by with_reducible exact nI_ge (by omega) (by omega)), fun _ => ?_⟩
         | refine ⟨fun _ => ?_, fun h => absurd (by with_reducible exact nI_le (by omega) (by omega)) h⟩
         | refine ⟨fun h => absurd h (by with_reducible exact nI_nlt (by omega) (by omega)), fun _ => ?_⟩
         | refine ⟨fun _ => ?_, fun h => absurd (by with_reducible exact nI_lt (by omega) (by omega)) h⟩
         | refine ⟨fun h => absurd h (by with_reducible exact nI_pos (by omega)), fun _ => ?_⟩
         | refine ⟨fun _ => ?_, fun h => absurd (by with_reducible exact nI_0le (by omega)) h⟩
         | refine ⟨fun h => absurd h (by decide), fun _ => ?_⟩
         | refine ⟨fun _ => ?_, fun h => absurd (by decide) h⟩
         | refine ⟨fun _ => ?_, fun h => absurd h (by decide)⟩
         | refine ⟨fun h => absurd (by decide) h, fun _ => ?_⟩
         | refine ⟨by decide, ?_⟩
         | refine ⟨rfl, ?_⟩)
      | (conv => whnf
         fail_if_success refine Exists.intro ?_ ?_
         simp only [hpc, nI_clamp (show pc < 2 ^ 31 by omega), nI_clamp (show i < 2 ^ 31 by omega), nI_clamp (show j < 2 ^ 31 by omega), nI_clamp (show q < 2 ^ 31 by omega)]))
    try (conv => whnf)
    refine step _ _ ⟨fun r hr => ?_, ?_, fun k hk => ⟨?_, ?_, ?_, ?_, ?_, ?_⟩⟩ ?_ ?_ ?_ ?_ ?_ ?_
    · rw [zu_row (by omega), zu_row (by omega), zu_row (by omega), zu_row (by omega), zu_row (by omega), zu_row (by omega)]
    all_goals
      first
      | simp (decide := true) only [zu_same, zu_ne1, zu_ne2, zuL_same, zuL_ne1, zuL_ne2, hpc, nI_1, ne_eq, hk, not_false_eq_true]
      | simp (decide := true) only [zu_same, zu_ne1, zu_ne2, zuL_same, zuL_ne1, zuL_ne2, hpc, nI_1]
      try rfl

/-! ===== the order: what leans on what, circles ===== -/
theorem pSt_self {n w : Nat} {r : Nat → Int32} : pSt n w r w = r w := by
  unfold pSt
  split
  · exact Int32.or_self
  · rfl
def pNxI : Option Nat → Int32
  | none => -1
  | some v => nI v
def spX1_below : zSp := zD (X := zIn × zLo × Nat) (fun x => match x with | (σ, τ, v) => [.ref 94, .int (nI v)]) (fun x => match x with | (σ, τ, v) => (119, zSH, zRH, σ, τ)) (fun x => match x with | (σ, τ, v) => v < 16) (fun x => match x with | (σ, τ, v) => some (.int (pBe (σ 96) v))) (fun x => match x with | (σ, τ, v) => (119, zSH, zRH, σ, τ))
abbrev rmX1_below : Room := ({ frames := 0, cells := 0, slots := 0, locals := 0 } : Room)
set_option maxRecDepth 100000 in
set_option maxHeartbeats 4000000 in
theorem ctX1_below (l : Launch) (D : va_G) (cA : Nat → ClassId) : zCt false l D cA yX1_below cX1_below 2 (some .int) rmX1_below spX1_below := by
  refine zct_D (zCX1_below []) zpX1_below [] (by decide +kernel) zkX1_below (Or.inr (by decide +kernel)) trivial ⟨by decide +kernel, by decide +kernel⟩ (fun x ad => Nat.le_of_ble_eq_true rfl) ?_ ?_
  · intro p e s m args below meth c A H0 ad0 n0 Q F hml hNw hA hX
    exact trivial
  · rintro ⟨σ, τ, v⟩ Ret hP hK Gl hG
    try dsimp only at hP hK
    show Gl 0 (zent 2 [.ref 94, .int (nI v)]) [] (0, 0) ((119, zSH, zRH, σ, τ))
    refine hG 40 _ _ _ _ _ ?_
    repeat (first
      | (conv => whnf
         try dsimp only
         try simp (decide := true) only [nI_clamp (show v < 2 ^ 31 by omega), zu_same, zu_ne1, zu_ne2, zuL_same, zuL_ne1, zuL_ne2, zrow_n1, zx0, zx1, zx2, zx3, nI_1, Nat.reduceAdd, Nat.reduceMul, Int32.reduceAdd, Int32.reduceSub, Int32.reduceMul]
         first
         | refine ⟨vp_inb rfl, ?_⟩
         | refine ⟨zi (by omega), ?_⟩
         | refine ⟨fun h => absurd h (nI_ge (by omega) (by omega)), fun _ => ?_⟩
         | refine ⟨fun _ => ?_, fun h => absurd (nI_le (by omega) (by omega)) h⟩
         | refine ⟨fun h => absurd h (nI_nlt (by omega) (by omega)), fun _ => ?_⟩
         | refine ⟨fun _ => ?_, fun h => absurd (nI_lt (by omega) (by omega)) h⟩
         | refine ⟨fun h => absurd h (nI_pos (by omega)), fun _ => ?_⟩
         | refine ⟨fun h => absurd h (of_decide_eq_false rfl), fun _ => ?_⟩
         | refine ⟨fun _ => ?_, fun h => absurd (of_decide_eq_true rfl) h⟩
         | refine ⟨fun _ => ?_, fun h => absurd h (of_decide_eq_false rfl)⟩
         | refine ⟨fun h => absurd (of_decide_eq_true rfl) h, fun _ => ?_⟩
         | refine ⟨of_decide_eq_true rfl, ?_⟩
         | refine ⟨rfl, ?_⟩)
      | (conv => whnf
         fail_if_success refine Exists.intro ?_ ?_
         simp only [nI_clamp (show v < 2 ^ 31 by omega)]))
    try (conv => whnf)
    exact hK
def spX1_above : zSp := zD (X := zIn × zLo × Nat × Nat) (fun x => match x with | (σ, τ, n, v) => [.ref 94, .int (nI v)]) (fun x => match x with | (σ, τ, n, v) => (119, zSH, zRH, σ, τ)) (fun x => match x with | (σ, τ, n, v) => σ 86 3 = nI n ∧ n ≤ 16 ∧ v < 16) (fun x => match x with | (σ, τ, n, v) => some (.int (pAb (σ 96) v n))) (fun x => match x with | (σ, τ, n, v) => (119, zSH, zRH, σ, τ))
abbrev rmX1_above : Room := ({ frames := 1, cells := 0, slots := 0, locals := 21 } : Room)
set_option maxRecDepth 100000 in
set_option maxHeartbeats 4000000 in
theorem ctX1_above (l : Launch) (D : va_G) (cA : Nat → ClassId) : zCt false l D cA yX1_above cX1_above 4 (some .int) rmX1_above spX1_above := by
  refine zct_D (zCX1_above [(53, 1, 2, spX7_isIn, rmX7_isIn.cells, rmX7_isIn.slots)]) zpX1_above [6] (by decide +kernel) zkX1_above (Or.inr (by decide +kernel)) trivial ⟨by decide +kernel, by decide +kernel⟩ (fun x ad => Nat.le_of_ble_eq_true rfl) ?_ ?_
  · intro p e s m args below meth c A H0 ad0 n0 Q F hml hNw hA hX
    exact ⟨zco_SN hX hA F hml hNw (ctX7_isIn l D cA) ⟨⟨zlX1_above_53, zwX7_isIn.1⟩, zwX7_isIn.2⟩ zdX7_isIn ⟨Nat.le_of_ble_eq_true rfl, Nat.le_of_ble_eq_true rfl⟩, trivial⟩
  · rintro ⟨σ, τ, n, v⟩ Ret hP hK Gl hG
    try dsimp only at hP hK
    show Gl 0 (zent 4 [.ref 94, .int (nI v)]) [] (0, 0) ((119, zSH, zRH, σ, τ))
    obtain ⟨hn, h16, hv⟩ := hP
    have loop : ∀ (f u : Nat), u + f = n → Gl 6 [some (.ref 94), some (.int (nI v)), some (.int (pAb (σ 96) v u)), some (.int (nI u))] [] (0, 0) (119, zSH, zRH, σ, τ) := by
      intro f
      induction f with
      | zero =>
        intro u hu
        have hun : u = n := by omega
        rw [hun]
        refine hG 40 _ _ _ _ _ ?_
        repeat (first
          | (conv => whnf
             try dsimp only
             try simp (decide := true) only [hn, zu_same, zu_ne1, zu_ne2, zuL_same, zuL_ne1, zuL_ne2, zrow_n1, zx0, zx1, zx2, zx3, nI_1, Nat.reduceAdd, Nat.reduceMul, Int32.reduceAdd, Int32.reduceSub, Int32.reduceMul]
             first
             | refine ⟨vp_inb rfl, ?_⟩
             | refine ⟨zi (by omega), ?_⟩
             | refine ⟨fun h => absurd h (nI_ge (by omega) (by omega)), fun _ => ?_⟩
             | refine ⟨fun _ => ?_, fun h => absurd (nI_le (by omega) (by omega)) h⟩
             | refine ⟨fun h => absurd h (nI_nlt (by omega) (by omega)), fun _ => ?_⟩
             | refine ⟨fun _ => ?_, fun h => absurd (nI_lt (by omega) (by omega)) h⟩
             | refine ⟨fun h => absurd h (nI_pos (by omega)), fun _ => ?_⟩
             | refine ⟨fun h => absurd h (of_decide_eq_false rfl), fun _ => ?_⟩
             | refine ⟨fun _ => ?_, fun h => absurd (of_decide_eq_true rfl) h⟩
             | refine ⟨fun _ => ?_, fun h => absurd h (of_decide_eq_false rfl)⟩
             | refine ⟨fun h => absurd (of_decide_eq_true rfl) h, fun _ => ?_⟩
             | refine ⟨of_decide_eq_true rfl, ?_⟩
             | refine ⟨rfl, ?_⟩)
          | (conv => whnf
             fail_if_success refine Exists.intro ?_ ?_
             simp only [hn]))
        try (conv => whnf)
        exact hK
      | succ f ih =>
        intro u hu
        refine hG 100 _ _ _ _ _ ?_
        repeat (first
          | (conv => whnf
             try dsimp only
             try simp (decide := true) only [hn, nI_clamp (show u < 2 ^ 31 by omega), zu_same, zu_ne1, zu_ne2, zuL_same, zuL_ne1, zuL_ne2, zrow_n1, zx0, zx1, zx2, zx3, nI_1, Nat.reduceAdd, Nat.reduceMul, Int32.reduceAdd, Int32.reduceSub, Int32.reduceMul]
             first
             | refine ⟨vp_inb rfl, ?_⟩
             | refine ⟨zi (by omega), ?_⟩
             | refine ⟨fun h => absurd h (nI_ge (by omega) (by omega)), fun _ => ?_⟩
             | refine ⟨fun _ => ?_, fun h => absurd (nI_le (by omega) (by omega)) h⟩
             | refine ⟨fun h => absurd h (nI_nlt (by omega) (by omega)), fun _ => ?_⟩
             | refine ⟨fun _ => ?_, fun h => absurd (nI_lt (by omega) (by omega)) h⟩
             | refine ⟨fun h => absurd h (nI_pos (by omega)), fun _ => ?_⟩
             | refine ⟨fun h => absurd h (of_decide_eq_false rfl), fun _ => ?_⟩
             | refine ⟨fun _ => ?_, fun h => absurd (of_decide_eq_true rfl) h⟩
             | refine ⟨fun _ => ?_, fun h => absurd h (of_decide_eq_false rfl)⟩
             | refine ⟨fun h => absurd (of_decide_eq_true rfl) h, fun _ => ?_⟩
             | refine ⟨of_decide_eq_true rfl, ?_⟩
             | refine ⟨rfl, ?_⟩)
          | (conv => whnf
             fail_if_success refine Exists.intro ?_ ?_
             simp only [hn, nI_clamp (show u < 2 ^ 31 by omega)]))
        try (conv => whnf)
        refine ⟨(σ 96 u, nI v, (119, zSH, zRH, σ, τ)), rfl, rfl, trivial, ?_⟩
        try dsimp only
        have h9 := ih (u + 1) (by omega)
        unfold pAb at h9
        by_cases hb : bt (σ 96 u) v = true
        · rw [if_neg (zbt_t (by omega) hb)]
          rw [if_pos hb] at h9
          repeat (first
            | (conv => whnf
               try dsimp only
               try simp (decide := true) only [hn, zu_same, zu_ne1, zu_ne2, zuL_same, zuL_ne1, zuL_ne2, zrow_n1, zx0, zx1, zx2, zx3, nI_1, Nat.reduceAdd, Nat.reduceMul, Int32.reduceAdd, Int32.reduceSub, Int32.reduceMul]
               first
               | refine ⟨vp_inb rfl, ?_⟩
               | refine ⟨zi (by omega), ?_⟩
               | refine ⟨fun h => absurd h (nI_ge (by omega) (by omega)), fun _ => ?_⟩
               | refine ⟨fun _ => ?_, fun h => absurd (nI_le (by omega) (by omega)) h⟩
               | refine ⟨fun h => absurd h (nI_nlt (by omega) (by omega)), fun _ => ?_⟩
               | refine ⟨fun _ => ?_, fun h => absurd (nI_lt (by omega) (by omega)) h⟩
               | refine ⟨fun h => absurd h (nI_pos (by omega)), fun _ => ?_⟩
               | refine ⟨fun h => absurd h (of_decide_eq_false rfl), fun _ => ?_⟩
               | refine ⟨fun _ => ?_, fun h => absurd (of_decide_eq_true rfl) h⟩
               | refine ⟨fun _ => ?_, fun h => absurd h (of_decide_eq_false rfl)⟩
               | refine ⟨fun h => absurd (of_decide_eq_true rfl) h, fun _ => ?_⟩
               | refine ⟨of_decide_eq_true rfl, ?_⟩
               | refine ⟨rfl, ?_⟩)
            | (conv => whnf
               fail_if_success refine Exists.intro ?_ ?_
               simp only [hn]))
          try (conv => whnf)
          try dsimp only
          try simp (decide := true) only [zu_same, zu_ne1, zu_ne2, zuL_same, zuL_ne1, zuL_ne2, zrow_n1, zx0, zx1, zx2, zx3, nI_1, Nat.reduceAdd, Nat.reduceMul, Int32.reduceAdd, Int32.reduceSub, Int32.reduceMul]
          exact h9
        · rw [if_pos (zbt_f (by omega) hb)]
          rw [if_neg hb] at h9
          repeat (first
            | (conv => whnf
               try dsimp only
               try simp (decide := true) only [hn, zu_same, zu_ne1, zu_ne2, zuL_same, zuL_ne1, zuL_ne2, zrow_n1, zx0, zx1, zx2, zx3, nI_1, Nat.reduceAdd, Nat.reduceMul, Int32.reduceAdd, Int32.reduceSub, Int32.reduceMul]
               first
               | refine ⟨vp_inb rfl, ?_⟩
               | refine ⟨zi (by omega), ?_⟩
               | refine ⟨fun h => absurd h (nI_ge (by omega) (by omega)), fun _ => ?_⟩
               | refine ⟨fun _ => ?_, fun h => absurd (nI_le (by omega) (by omega)) h⟩
               | refine ⟨fun h => absurd h (nI_nlt (by omega) (by omega)), fun _ => ?_⟩
               | refine ⟨fun _ => ?_, fun h => absurd (nI_lt (by omega) (by omega)) h⟩
               | refine ⟨fun h => absurd h (nI_pos (by omega)), fun _ => ?_⟩
               | refine ⟨fun h => absurd h (of_decide_eq_false rfl), fun _ => ?_⟩
               | refine ⟨fun _ => ?_, fun h => absurd (of_decide_eq_true rfl) h⟩
               | refine ⟨fun _ => ?_, fun h => absurd h (of_decide_eq_false rfl)⟩
               | refine ⟨fun h => absurd (of_decide_eq_true rfl) h, fun _ => ?_⟩
               | refine ⟨of_decide_eq_true rfl, ?_⟩
               | refine ⟨rfl, ?_⟩)
            | (conv => whnf
               fail_if_success refine Exists.intro ?_ ?_
               simp only [hn]))
          try (conv => whnf)
          try dsimp only
          try simp (decide := true) only [zu_same, zu_ne1, zu_ne2, zuL_same, zuL_ne1, zuL_ne2, zrow_n1, zx0, zx1, zx2, zx3, nI_1, Nat.reduceAdd, Nat.reduceMul, Int32.reduceAdd, Int32.reduceSub, Int32.reduceMul]
          exact h9
    refine hG 40 _ _ _ _ _ ?_
    repeat (first
      | (conv => whnf
         try dsimp only
         try simp (decide := true) only [hn, zu_same, zu_ne1, zu_ne2, zuL_same, zuL_ne1, zuL_ne2, zrow_n1, zx0, zx1, zx2, zx3, nI_1, Nat.reduceAdd, Nat.reduceMul, Int32.reduceAdd, Int32.reduceSub, Int32.reduceMul]
         first
         | refine ⟨vp_inb rfl, ?_⟩
         | refine ⟨zi (by omega), ?_⟩
         | refine ⟨fun h => absurd h (nI_ge (by omega) (by omega)), fun _ => ?_⟩
         | refine ⟨fun _ => ?_, fun h => absurd (nI_le (by omega) (by omega)) h⟩
         | refine ⟨fun h => absurd h (nI_nlt (by omega) (by omega)), fun _ => ?_⟩
         | refine ⟨fun _ => ?_, fun h => absurd (nI_lt (by omega) (by omega)) h⟩
         | refine ⟨fun h => absurd h (nI_pos (by omega)), fun _ => ?_⟩
         | refine ⟨fun h => absurd h (of_decide_eq_false rfl), fun _ => ?_⟩
         | refine ⟨fun _ => ?_, fun h => absurd (of_decide_eq_true rfl) h⟩
         | refine ⟨fun _ => ?_, fun h => absurd h (of_decide_eq_false rfl)⟩
         | refine ⟨fun h => absurd (of_decide_eq_true rfl) h, fun _ => ?_⟩
         | refine ⟨of_decide_eq_true rfl, ?_⟩
         | refine ⟨rfl, ?_⟩)
      | (conv => whnf
         fail_if_success refine Exists.intro ?_ ?_
         simp only [hn]))
    try (conv => whnf)
    exact loop n 0 (by omega)
def spX1_circleWith : zSp := zD (X := zIn × zLo × Nat × Nat) (fun x => match x with | (σ, τ, n, v) => [.ref 94, .int (nI v)]) (fun x => match x with | (σ, τ, n, v) => (119, zSH, zRH, σ, τ)) (fun x => match x with | (σ, τ, n, v) => σ 86 3 = nI n ∧ n ≤ 16 ∧ v < 16) (fun x => match x with | (σ, τ, n, v) => some (.int (pCi n (σ 96) v))) (fun x => match x with | (σ, τ, n, v) => (119, zSH, zRH, σ, τ))
abbrev rmX1_circleWith : Room := ({ frames := 2, cells := 0, slots := 0, locals := 44 } : Room)
set_option maxRecDepth 100000 in
set_option maxHeartbeats 4000000 in
theorem ctX1_circleWith (l : Launch) (D : va_G) (cA : Nat → ClassId) : zCt false l D cA yX1_circleWith cX1_circleWith 2 (some .int) rmX1_circleWith spX1_circleWith := by
  refine zct_D (zCX1_circleWith [(67, 0, 1, spX1_above, rmX1_above.cells, rmX1_above.slots), (70, 0, 1, spX1_below, rmX1_below.cells, rmX1_below.slots)]) zpX1_circleWith [] (by decide +kernel) zkX1_circleWith (Or.inr (by decide +kernel)) trivial ⟨by decide +kernel, by decide +kernel⟩ (fun x ad => Nat.le_of_ble_eq_true rfl) ?_ ?_
  · intro p e s m args below meth c A H0 ad0 n0 Q F hml hNw hA hX
    exact ⟨zco_V hX hA F hml hNw (ctX1_above l D cA) ⟨⟨zlX1_circleWith_67, zwX1_above.1.1, zwX1_above.1.2⟩, zwX1_above.2⟩ zdX1_above ⟨Nat.le_of_ble_eq_true rfl, Nat.le_of_ble_eq_true rfl⟩ (ci := 1) (by decide) rfl (by rintro av μ K ⟨x, rfl, rfl, -⟩; exact ⟨_, _, rfl, rfl⟩), zco_V hX hA F hml hNw (ctX1_below l D cA) ⟨⟨zlX1_circleWith_70, zwX1_below.1.1, zwX1_below.1.2⟩, zwX1_below.2⟩ zdX1_below ⟨Nat.le_of_ble_eq_true rfl, Nat.le_of_ble_eq_true rfl⟩ (ci := 1) (by decide) rfl (by rintro av μ K ⟨x, rfl, rfl, -⟩; exact ⟨_, _, rfl, rfl⟩), trivial⟩
  · rintro ⟨σ, τ, n, v⟩ Ret hP hK Gl hG
    try dsimp only at hP hK
    show Gl 0 (zent 2 [.ref 94, .int (nI v)]) [] (0, 0) ((119, zSH, zRH, σ, τ))
    refine hG 40 _ _ _ _ _ ?_
    repeat (conv => whnf
            try dsimp only
            try simp (decide := true) only [zu_same, zu_ne1, zu_ne2, zuL_same, zuL_ne1, zuL_ne2, zrow_n1, zx0, zx1, zx2, zx3, nI_1, Nat.reduceAdd, Nat.reduceMul, Int32.reduceAdd, Int32.reduceSub, Int32.reduceMul]
            first
            | refine ⟨vp_inb rfl, ?_⟩
            | refine ⟨zi (by omega), ?_⟩
            | refine ⟨fun h => absurd h (nI_ge (by omega) (by omega)), fun _ => ?_⟩
            | refine ⟨fun _ => ?_, fun h => absurd (nI_le (by omega) (by omega)) h⟩
            | refine ⟨fun h => absurd h (nI_nlt (by omega) (by omega)), fun _ => ?_⟩
            | refine ⟨fun _ => ?_, fun h => absurd (nI_lt (by omega) (by omega)) h⟩
            | refine ⟨fun h => absurd h (nI_pos (by omega)), fun _ => ?_⟩
            | refine ⟨fun h => absurd h (of_decide_eq_false rfl), fun _ => ?_⟩
            | refine ⟨fun _ => ?_, fun h => absurd (of_decide_eq_true rfl) h⟩
            | refine ⟨fun _ => ?_, fun h => absurd h (of_decide_eq_false rfl)⟩
            | refine ⟨fun h => absurd (of_decide_eq_true rfl) h, fun _ => ?_⟩
            | refine ⟨of_decide_eq_true rfl, ?_⟩
            | refine ⟨rfl, ?_⟩)
    try (conv => whnf)
    refine ⟨(σ, τ, n, v), rfl, rfl, hP, ?_⟩
    try dsimp only
    repeat (conv => whnf
            try dsimp only
            try simp (decide := true) only [zu_same, zu_ne1, zu_ne2, zuL_same, zuL_ne1, zuL_ne2, zrow_n1, zx0, zx1, zx2, zx3, nI_1, Nat.reduceAdd, Nat.reduceMul, Int32.reduceAdd, Int32.reduceSub, Int32.reduceMul]
            first
            | refine ⟨vp_inb rfl, ?_⟩
            | refine ⟨zi (by omega), ?_⟩
            | refine ⟨fun h => absurd h (nI_ge (by omega) (by omega)), fun _ => ?_⟩
            | refine ⟨fun _ => ?_, fun h => absurd (nI_le (by omega) (by omega)) h⟩
            | refine ⟨fun h => absurd h (nI_nlt (by omega) (by omega)), fun _ => ?_⟩
            | refine ⟨fun _ => ?_, fun h => absurd (nI_lt (by omega) (by omega)) h⟩
            | refine ⟨fun h => absurd h (nI_pos (by omega)), fun _ => ?_⟩
            | refine ⟨fun h => absurd h (of_decide_eq_false rfl), fun _ => ?_⟩
            | refine ⟨fun _ => ?_, fun h => absurd (of_decide_eq_true rfl) h⟩
            | refine ⟨fun _ => ?_, fun h => absurd h (of_decide_eq_false rfl)⟩
            | refine ⟨fun h => absurd (of_decide_eq_true rfl) h, fun _ => ?_⟩
            | refine ⟨of_decide_eq_true rfl, ?_⟩
            | refine ⟨rfl, ?_⟩)
    try (conv => whnf)
    refine ⟨(σ, τ, v), rfl, rfl, hP.2.2, ?_⟩
    try dsimp only
    repeat (conv => whnf
            try dsimp only
            try simp (decide := true) only [zu_same, zu_ne1, zu_ne2, zuL_same, zuL_ne1, zuL_ne2, zrow_n1, zx0, zx1, zx2, zx3, nI_1, Nat.reduceAdd, Nat.reduceMul, Int32.reduceAdd, Int32.reduceSub, Int32.reduceMul]
            first
            | refine ⟨vp_inb rfl, ?_⟩
            | refine ⟨zi (by omega), ?_⟩
            | refine ⟨fun h => absurd h (nI_ge (by omega) (by omega)), fun _ => ?_⟩
            | refine ⟨fun _ => ?_, fun h => absurd (nI_le (by omega) (by omega)) h⟩
            | refine ⟨fun h => absurd h (nI_nlt (by omega) (by omega)), fun _ => ?_⟩
            | refine ⟨fun _ => ?_, fun h => absurd (nI_lt (by omega) (by omega)) h⟩
            | refine ⟨fun h => absurd h (nI_pos (by omega)), fun _ => ?_⟩
            | refine ⟨fun h => absurd h (of_decide_eq_false rfl), fun _ => ?_⟩
            | refine ⟨fun _ => ?_, fun h => absurd (of_decide_eq_true rfl) h⟩
            | refine ⟨fun _ => ?_, fun h => absurd h (of_decide_eq_false rfl)⟩
            | refine ⟨fun h => absurd (of_decide_eq_true rfl) h, fun _ => ?_⟩
            | refine ⟨of_decide_eq_true rfl, ?_⟩
            | refine ⟨rfl, ?_⟩)
    try (conv => whnf)
    exact hK
def spX1_nextLowest : zSp := zD (X := zIn × zLo × Nat × Int32) (fun x => match x with | (σ, τ, n, come) => [.ref 94, .int come]) (fun x => match x with | (σ, τ, n, come) => (119, zSH, zRH, σ, τ)) (fun x => match x with | (σ, τ, n, come) => σ 86 3 = nI n ∧ n ≤ 16) (fun x => match x with | (σ, τ, n, come) => some (.int (pNxI (pNx n (σ 96) come n 0)))) (fun x => match x with | (σ, τ, n, come) => (119, zSH, zRH, σ, τ))
abbrev rmX1_nextLowest : Room := ({ frames := 3, cells := 0, slots := 0, locals := 65 } : Room)
set_option maxRecDepth 100000 in
set_option maxHeartbeats 4000000 in
theorem ctX1_nextLowest (l : Launch) (D : va_G) (cA : Nat → ClassId) : zCt false l D cA yX1_nextLowest cX1_nextLowest 3 (some .int) rmX1_nextLowest spX1_nextLowest := by
  refine zct_D (zCX1_nextLowest [(53, 1, 2, spX7_isIn, rmX7_isIn.cells, rmX7_isIn.slots), (50, 0, 1, spX1_circleWith, rmX1_circleWith.cells, rmX1_circleWith.slots)]) zpX1_nextLowest [2] (by decide +kernel) zkX1_nextLowest (Or.inr (by decide +kernel)) trivial ⟨by decide +kernel, by decide +kernel⟩ (fun x ad => Nat.le_of_ble_eq_true rfl) ?_ ?_
  · intro p e s m args below meth c A H0 ad0 n0 Q F hml hNw hA hX
    exact ⟨zco_SN hX hA F hml hNw (ctX7_isIn l D cA) ⟨⟨zlX1_nextLowest_53, zwX7_isIn.1⟩, zwX7_isIn.2⟩ zdX7_isIn ⟨Nat.le_of_ble_eq_true rfl, Nat.le_of_ble_eq_true rfl⟩, zco_V hX hA F hml hNw (ctX1_circleWith l D cA) ⟨⟨zlX1_nextLowest_50, zwX1_circleWith.1.1, zwX1_circleWith.1.2⟩, zwX1_circleWith.2⟩ zdX1_circleWith ⟨Nat.le_of_ble_eq_true rfl, Nat.le_of_ble_eq_true rfl⟩ (ci := 1) (by decide) rfl (by rintro av μ K ⟨x, rfl, rfl, -⟩; exact ⟨_, _, rfl, rfl⟩), trivial⟩
  · rintro ⟨σ, τ, n, come⟩ Ret hP hK Gl hG
    try dsimp only at hP hK
    show Gl 0 (zent 3 [.ref 94, .int come]) [] (0, 0) ((119, zSH, zRH, σ, τ))
    obtain ⟨hn, h16⟩ := hP
    have loop : ∀ (f v : Nat), v + f = n → pNx n (σ 96) come f v = pNx n (σ 96) come n 0 → Gl 2 [some (.ref 94), some (.int come), some (.int (nI v))] [] (0, 0) (119, zSH, zRH, σ, τ) := by
      intro f
      induction f with
      | zero =>
        intro v hv hx
        have hvn : v = n := by omega
        rw [hvn]
        rw [← hx] at hK
        refine hG 40 _ _ _ _ _ ?_
        repeat (first
          | (conv => whnf
             try dsimp only
             try simp (decide := true) only [hn, zu_same, zu_ne1, zu_ne2, zuL_same, zuL_ne1, zuL_ne2, zrow_n1, zx0, zx1, zx2, zx3, nI_1, Nat.reduceAdd, Nat.reduceMul, Int32.reduceAdd, Int32.reduceSub, Int32.reduceMul]
             first
             | refine ⟨vp_inb rfl, ?_⟩
             | refine ⟨zi (by omega), ?_⟩
             | refine ⟨fun h => absurd h (nI_ge (by omega) (by omega)), fun _ => ?_⟩
             | refine ⟨fun _ => ?_, fun h => absurd (nI_le (by omega) (by omega)) h⟩
             | refine ⟨fun h => absurd h (nI_nlt (by omega) (by omega)), fun _ => ?_⟩
             | refine ⟨fun _ => ?_, fun h => absurd (nI_lt (by omega) (by omega)) h⟩
             | refine ⟨fun h => absurd h (nI_pos (by omega)), fun _ => ?_⟩
             | refine ⟨fun h => absurd h (of_decide_eq_false rfl), fun _ => ?_⟩
             | refine ⟨fun _ => ?_, fun h => absurd (of_decide_eq_true rfl) h⟩
             | refine ⟨fun _ => ?_, fun h => absurd h (of_decide_eq_false rfl)⟩
             | refine ⟨fun h => absurd (of_decide_eq_true rfl) h, fun _ => ?_⟩
             | refine ⟨of_decide_eq_true rfl, ?_⟩
             | refine ⟨rfl, ?_⟩)
          | (conv => whnf
             fail_if_success refine Exists.intro ?_ ?_
             simp only [hn]))
        try (conv => whnf)
        exact hK
      | succ f ih =>
        intro v hv hx
        have step : ¬ pOk n (σ 96) come v = true → Gl 2 [some (.ref 94), some (.int come), some (.int (nI (v + 1)))] [] (0, 0) (119, zSH, zRH, σ, τ) := fun hno => by
          refine ih (v + 1) (by omega) ?_
          rw [← hx]
          show _ = (if pOk n (σ 96) come v = true then some v else _)
          rw [if_neg hno]
        refine hG 100 _ _ _ _ _ ?_
        repeat (first
          | (conv => whnf
             try dsimp only
             try simp (decide := true) only [hn, zu_same, zu_ne1, zu_ne2, zuL_same, zuL_ne1, zuL_ne2, zrow_n1, zx0, zx1, zx2, zx3, nI_1, Nat.reduceAdd, Nat.reduceMul, Int32.reduceAdd, Int32.reduceSub, Int32.reduceMul]
             first
             | refine ⟨vp_inb rfl, ?_⟩
             | refine ⟨zi (by omega), ?_⟩
             | refine ⟨fun h => absurd h (nI_ge (by omega) (by omega)), fun _ => ?_⟩
             | refine ⟨fun _ => ?_, fun h => absurd (nI_le (by omega) (by omega)) h⟩
             | refine ⟨fun h => absurd h (nI_nlt (by omega) (by omega)), fun _ => ?_⟩
             | refine ⟨fun _ => ?_, fun h => absurd (nI_lt (by omega) (by omega)) h⟩
             | refine ⟨fun h => absurd h (nI_pos (by omega)), fun _ => ?_⟩
             | refine ⟨fun h => absurd h (of_decide_eq_false rfl), fun _ => ?_⟩
             | refine ⟨fun _ => ?_, fun h => absurd (of_decide_eq_true rfl) h⟩
             | refine ⟨fun _ => ?_, fun h => absurd h (of_decide_eq_false rfl)⟩
             | refine ⟨fun h => absurd (of_decide_eq_true rfl) h, fun _ => ?_⟩
             | refine ⟨of_decide_eq_true rfl, ?_⟩
             | refine ⟨rfl, ?_⟩)
          | (conv => whnf
             fail_if_success refine Exists.intro ?_ ?_
             simp only [hn]))
        try (conv => whnf)
        refine ⟨(come, nI v, (119, zSH, zRH, σ, τ)), rfl, rfl, trivial, ?_⟩
        try dsimp only
        by_cases hb : bt come v = true
        · rw [if_neg (zbt_t (by omega) hb)]
          repeat (first
            | (conv => whnf
               try dsimp only
               try simp (decide := true) only [hn, zu_same, zu_ne1, zu_ne2, zuL_same, zuL_ne1, zuL_ne2, zrow_n1, zx0, zx1, zx2, zx3, nI_1, Nat.reduceAdd, Nat.reduceMul, Int32.reduceAdd, Int32.reduceSub, Int32.reduceMul]
               first
               | refine ⟨vp_inb rfl, ?_⟩
               | refine ⟨zi (by omega), ?_⟩
               | refine ⟨fun h => absurd h (nI_ge (by omega) (by omega)), fun _ => ?_⟩
               | refine ⟨fun _ => ?_, fun h => absurd (nI_le (by omega) (by omega)) h⟩
               | refine ⟨fun h => absurd h (nI_nlt (by omega) (by omega)), fun _ => ?_⟩
               | refine ⟨fun _ => ?_, fun h => absurd (nI_lt (by omega) (by omega)) h⟩
               | refine ⟨fun h => absurd h (nI_pos (by omega)), fun _ => ?_⟩
               | refine ⟨fun h => absurd h (of_decide_eq_false rfl), fun _ => ?_⟩
               | refine ⟨fun _ => ?_, fun h => absurd (of_decide_eq_true rfl) h⟩
               | refine ⟨fun _ => ?_, fun h => absurd h (of_decide_eq_false rfl)⟩
               | refine ⟨fun h => absurd (of_decide_eq_true rfl) h, fun _ => ?_⟩
               | refine ⟨of_decide_eq_true rfl, ?_⟩
               | refine ⟨rfl, ?_⟩)
            | (conv => whnf
               fail_if_success refine Exists.intro ?_ ?_
               simp only [hn]))
          try (conv => whnf)
          try dsimp only
          try simp (decide := true) only [zu_same, zu_ne1, zu_ne2, zuL_same, zuL_ne1, zuL_ne2, zrow_n1, zx0, zx1, zx2, zx3, nI_1, Nat.reduceAdd, Nat.reduceMul, Int32.reduceAdd, Int32.reduceSub, Int32.reduceMul]
          exact step (fun q => by rw [(pOk_iff.mp q).1] at hb; cases hb)
        · rw [if_pos (zbt_f (by omega) hb)]
          repeat (first
            | (conv => whnf
               try dsimp only
               try simp (decide := true) only [hn, nI_clamp (show v < 2 ^ 31 by omega), zu_same, zu_ne1, zu_ne2, zuL_same, zuL_ne1, zuL_ne2, zrow_n1, zx0, zx1, zx2, zx3, nI_1, Nat.reduceAdd, Nat.reduceMul, Int32.reduceAdd, Int32.reduceSub, Int32.reduceMul]
               first
               | refine ⟨vp_inb rfl, ?_⟩
               | refine ⟨zi (by omega), ?_⟩
               | refine ⟨fun h => absurd h (nI_ge (by omega) (by omega)), fun _ => ?_⟩
               | refine ⟨fun _ => ?_, fun h => absurd (nI_le (by omega) (by omega)) h⟩
               | refine ⟨fun h => absurd h (nI_nlt (by omega) (by omega)), fun _ => ?_⟩
               | refine ⟨fun _ => ?_, fun h => absurd (nI_lt (by omega) (by omega)) h⟩
               | refine ⟨fun h => absurd h (nI_pos (by omega)), fun _ => ?_⟩
               | refine ⟨fun h => absurd h (of_decide_eq_false rfl), fun _ => ?_⟩
               | refine ⟨fun _ => ?_, fun h => absurd (of_decide_eq_true rfl) h⟩
               | refine ⟨fun _ => ?_, fun h => absurd h (of_decide_eq_false rfl)⟩
               | refine ⟨fun h => absurd (of_decide_eq_true rfl) h, fun _ => ?_⟩
               | refine ⟨of_decide_eq_true rfl, ?_⟩
               | refine ⟨rfl, ?_⟩)
            | (conv => whnf
               fail_if_success refine Exists.intro ?_ ?_
               simp only [hn, nI_clamp (show v < 2 ^ 31 by omega)]))
          try (conv => whnf)
          refine ⟨(σ, τ, n, v), rfl, rfl, ⟨hn, h16, by omega⟩, ?_⟩
          try dsimp only
          repeat (first
            | (conv => whnf
               try dsimp only
               try simp (decide := true) only [hn, zu_same, zu_ne1, zu_ne2, zuL_same, zuL_ne1, zuL_ne2, zrow_n1, zx0, zx1, zx2, zx3, nI_1, Nat.reduceAdd, Nat.reduceMul, Int32.reduceAdd, Int32.reduceSub, Int32.reduceMul]
               first
               | refine ⟨vp_inb rfl, ?_⟩
               | refine ⟨zi (by omega), ?_⟩
               | refine ⟨fun h => absurd h (nI_ge (by omega) (by omega)), fun _ => ?_⟩
               | refine ⟨fun _ => ?_, fun h => absurd (nI_le (by omega) (by omega)) h⟩
               | refine ⟨fun h => absurd h (nI_nlt (by omega) (by omega)), fun _ => ?_⟩
               | refine ⟨fun _ => ?_, fun h => absurd (nI_lt (by omega) (by omega)) h⟩
               | refine ⟨fun h => absurd h (nI_pos (by omega)), fun _ => ?_⟩
               | refine ⟨fun h => absurd h (of_decide_eq_false rfl), fun _ => ?_⟩
               | refine ⟨fun _ => ?_, fun h => absurd (of_decide_eq_true rfl) h⟩
               | refine ⟨fun _ => ?_, fun h => absurd h (of_decide_eq_false rfl)⟩
               | refine ⟨fun h => absurd (of_decide_eq_true rfl) h, fun _ => ?_⟩
               | refine ⟨of_decide_eq_true rfl, ?_⟩
               | refine ⟨rfl, ?_⟩)
            | (conv => whnf
               fail_if_success refine Exists.intro ?_ ?_
               simp only [hn]))
          try (conv => whnf)
          refine ⟨fun hc => ?_, fun hc => ?_⟩
          · conv => whnf
            try dsimp only
            try simp (decide := true) only [zu_same, zu_ne1, zu_ne2, zuL_same, zuL_ne1, zuL_ne2, zrow_n1, zx0, zx1, zx2, zx3, nI_1, Nat.reduceAdd, Nat.reduceMul, Int32.reduceAdd, Int32.reduceSub, Int32.reduceMul]
            refine step (fun q => hc ?_)
            unfold pOk at q
            rw [Bool.and_eq_true, decide_eq_true_eq] at q
            exact q.2
          · skip
            repeat (conv => whnf
                    try dsimp only
                    try simp (decide := true) only [zu_same, zu_ne1, zu_ne2, zuL_same, zuL_ne1, zuL_ne2, zrow_n1, zx0, zx1, zx2, zx3, nI_1, Nat.reduceAdd, Nat.reduceMul, Int32.reduceAdd, Int32.reduceSub, Int32.reduceMul]
                    first
                    | refine ⟨vp_inb rfl, ?_⟩
                    | refine ⟨zi (by omega), ?_⟩
                    | refine ⟨fun h => absurd h (nI_ge (by omega) (by omega)), fun _ => ?_⟩
                    | refine ⟨fun _ => ?_, fun h => absurd (nI_le (by omega) (by omega)) h⟩
                    | refine ⟨fun h => absurd h (nI_nlt (by omega) (by omega)), fun _ => ?_⟩
                    | refine ⟨fun _ => ?_, fun h => absurd (nI_lt (by omega) (by omega)) h⟩
                    | refine ⟨fun h => absurd h (nI_pos (by omega)), fun _ => ?_⟩
                    | refine ⟨fun h => absurd h (of_decide_eq_false rfl), fun _ => ?_⟩
                    | refine ⟨fun _ => ?_, fun h => absurd (of_decide_eq_true rfl) h⟩
                    | refine ⟨fun _ => ?_, fun h => absurd h (of_decide_eq_false rfl)⟩
                    | refine ⟨fun h => absurd (of_decide_eq_true rfl) h, fun _ => ?_⟩
                    | refine ⟨of_decide_eq_true rfl, ?_⟩
                    | refine ⟨rfl, ?_⟩)
            try (conv => whnf)
            have hok : pOk n (σ 96) come v = true := by
              unfold pOk
              rw [Bool.and_eq_true, decide_eq_true_eq]
              exact ⟨by simpa using hb, hc⟩
            rw [← hx, show pNx n (σ 96) come (f + 1) v = some v from if_pos hok] at hK
            exact hK
    refine hG 40 _ _ _ _ _ ?_
    repeat (first
      | (conv => whnf
         try dsimp only
         try simp (decide := true) only [hn, zu_same, zu_ne1, zu_ne2, zuL_same, zuL_ne1, zuL_ne2, zrow_n1, zx0, zx1, zx2, zx3, nI_1, Nat.reduceAdd, Nat.reduceMul, Int32.reduceAdd, Int32.reduceSub, Int32.reduceMul]
         first
         | refine ⟨vp_inb rfl, ?_⟩
         | refine ⟨zi (by omega), ?_⟩
         | refine ⟨fun h => absurd h (nI_ge (by omega) (by omega)), fun _ => ?_⟩
         | refine ⟨fun _ => ?_, fun h => absurd (nI_le (by omega) (by omega)) h⟩
         | refine ⟨fun h => absurd h (nI_nlt (by omega) (by omega)), fun _ => ?_⟩
         | refine ⟨fun _ => ?_, fun h => absurd (nI_lt (by omega) (by omega)) h⟩
         | refine ⟨fun h => absurd h (nI_pos (by omega)), fun _ => ?_⟩
         | refine ⟨fun h => absurd h (of_decide_eq_false rfl), fun _ => ?_⟩
         | refine ⟨fun _ => ?_, fun h => absurd (of_decide_eq_true rfl) h⟩
         | refine ⟨fun _ => ?_, fun h => absurd h (of_decide_eq_false rfl)⟩
         | refine ⟨fun h => absurd (of_decide_eq_true rfl) h, fun _ => ?_⟩
         | refine ⟨of_decide_eq_true rfl, ?_⟩
         | refine ⟨rfl, ?_⟩)
      | (conv => whnf
         fail_if_success refine Exists.intro ?_ ?_
         simp only [hn]))
    try (conv => whnf)
    exact loop n 0 (by omega) rfl
def spX1_findReach : zSp := zDQ (X := zIn × zLo × Nat) (fun x => match x with | (σ, τ, n) => [.ref 94]) (fun x => match x with | (σ, τ, n) => (119, zSH, zRH, σ, τ)) (fun x => match x with | (σ, τ, n) => σ 86 3 = nI n ∧ n ≤ 16 ∧ ∀ v, v < n → ¬ σ 88 v < 0 → ∃ f, σ 88 v = nI f ∧ f < 60) (fun x r9 μ9 => match x with | (σ, τ, n) => r9 = none ∧ ∃ σ1 : zIn, μ9 = (119, zSH, zRH, σ1, τ) ∧ (∀ r, r ≠ 95 → r ≠ 96 → σ1 r = σ r) ∧ ∀ j, j < n → σ1 95 j = pLe (σ 88) (σ 85) j ∧ σ1 96 j = pRe n (σ 88) (σ 85) j)
abbrev rmX1_findReach : Room := ({ frames := 1, cells := 0, slots := 0, locals := 21 } : Room)
set_option maxRecDepth 100000 in
set_option maxHeartbeats 4000000 in
theorem ctX1_findReach (l : Launch) (D : va_G) (cA : Nat → ClassId) : zCt false l D cA yX1_findReach cX1_findReach 3 (none) rmX1_findReach spX1_findReach := by
  refine zct_Q (zCX1_findReach [(57, 0, 1, spX6_isInput, rmX6_isInput.cells, rmX6_isInput.slots), (53, 1, 2, spX7_isIn, rmX7_isIn.cells, rmX7_isIn.slots)]) zpX1_findReach [2, 71, 84] (by decide +kernel) zkX1_findReach (Or.inr (by decide +kernel)) trivial ⟨by decide +kernel, by decide +kernel⟩ (fun x ad => Nat.le_of_ble_eq_true rfl) ?_ ?_
  · intro p e s m args below meth c A H0 ad0 n0 Q F hml hNw hA hX
    exact ⟨zco_V hX hA F hml hNw (ctX6_isInput l D cA) ⟨⟨zlX1_findReach_57, zwX6_isInput.1.1, zwX6_isInput.1.2⟩, zwX6_isInput.2⟩ zdX6_isInput ⟨Nat.le_of_ble_eq_true rfl, Nat.le_of_ble_eq_true rfl⟩ (ci := 6) (by decide) rfl (by rintro av μ K ⟨x, rfl, rfl, -⟩; exact ⟨_, _, rfl, rfl⟩), zco_SN hX hA F hml hNw (ctX7_isIn l D cA) ⟨⟨zlX1_findReach_53, zwX7_isIn.1⟩, zwX7_isIn.2⟩ zdX7_isIn ⟨Nat.le_of_ble_eq_true rfl, Nat.le_of_ble_eq_true rfl⟩, trivial⟩
  · rintro ⟨σ, τ, n⟩ Ret hP hK Gl hG
    try dsimp only at hP hK
    show Gl 0 (zent 3 [.ref 94]) [] (0, 0) ((119, zSH, zRH, σ, τ))
    obtain ⟨hn, h16, hfo⟩ := hP
    have loop3 : ∀ (f v w : Nat) (σ1 : zIn), v + f = n → w < n → (∀ v2 σ2, (∀ r, r ≠ 95 → r ≠ 96 → σ2 r = σ r) → (∀ j, j < n → σ2 95 j = pLe (σ 88) (σ 85) j ∧ σ2 96 j = pWa n (pLe (σ 88) (σ 85)) (w + 1) j) → Gl 71 [some (.ref 94), some (.int (nI (w + 1))), v2] [] (0, 0) (119, zSH, zRH, σ2, τ)) →
        (∀ r, r ≠ 95 → r ≠ 96 → σ1 r = σ r) → (∀ j, j < n → σ1 95 j = pLe (σ 88) (σ 85) j ∧ σ1 96 j = if j < v then pSt n w (pWa n (pLe (σ 88) (σ 85)) w) j else pWa n (pLe (σ 88) (σ 85)) w j) → Gl 84 [some (.ref 94), some (.int (nI w)), some (.int (nI v))] [] (0, 0) (119, zSH, zRH, σ1, τ) := by
      intro f
      induction f with
      | zero =>
        intro v w σ1 hv hw hend hfr hI
        have h86 : σ1 86 3 = nI n := by rw [hfr 86 (by decide) (by decide)]; exact hn
        refine hG 40 _ _ _ _ _ ?_
        repeat (first
          | (conv => whnf
             try dsimp only
             try simp (decide := true) only [h86, zu_same, zu_ne1, zu_ne2, zuL_same, zuL_ne1, zuL_ne2, zrow_n1, zx0, zx1, zx2, zx3, nI_1, Nat.reduceAdd, Nat.reduceMul, Int32.reduceAdd, Int32.reduceSub, Int32.reduceMul]
             first
             | refine ⟨vp_inb rfl, ?_⟩
             | refine ⟨zi (by omega), ?_⟩
             | refine ⟨fun h => absurd h (nI_ge (by omega) (by omega)), fun _ => ?_⟩
             | refine ⟨fun _ => ?_, fun h => absurd (nI_le (by omega) (by omega)) h⟩
             | refine ⟨fun h => absurd h (nI_nlt (by omega) (by omega)), fun _ => ?_⟩
             | refine ⟨fun _ => ?_, fun h => absurd (nI_lt (by omega) (by omega)) h⟩
             | refine ⟨fun h => absurd h (nI_pos (by omega)), fun _ => ?_⟩
             | refine ⟨fun h => absurd h (of_decide_eq_false rfl), fun _ => ?_⟩
             | refine ⟨fun _ => ?_, fun h => absurd (of_decide_eq_true rfl) h⟩
             | refine ⟨fun _ => ?_, fun h => absurd h (of_decide_eq_false rfl)⟩
             | refine ⟨fun h => absurd (of_decide_eq_true rfl) h, fun _ => ?_⟩
             | refine ⟨of_decide_eq_true rfl, ?_⟩
             | refine ⟨rfl, ?_⟩)
          | (conv => whnf
             fail_if_success refine Exists.intro ?_ ?_
             simp only [h86]))
        try (conv => whnf)
        try dsimp only
        try simp (decide := true) only [zu_same, zu_ne1, zu_ne2, zuL_same, zuL_ne1, zuL_ne2, zrow_n1, zx0, zx1, zx2, zx3, nI_1, Nat.reduceAdd, Nat.reduceMul, Int32.reduceAdd, Int32.reduceSub, Int32.reduceMul]
        refine hend _ σ1 hfr (fun j hj => ⟨(hI j hj).1, ?_⟩)
        rw [(hI j hj).2, if_pos (by omega)]
        rfl
      | succ f ih =>
        intro v w σ1 hv hw hend hfr hI
        have h86 : σ1 86 3 = nI n := by rw [hfr 86 (by decide) (by decide)]; exact hn
        have hrv : σ1 96 v = pWa n (pLe (σ 88) (σ 85)) w v := by rw [(hI v (by omega)).2, if_neg (Nat.lt_irrefl v)]
        have hrw : σ1 96 w = pWa n (pLe (σ 88) (σ 85)) w w := by
          rw [(hI w hw).2]
          split
          · exact pSt_self
          · rfl
        refine hG 100 _ _ _ _ _ ?_
        repeat (first
          | (conv => whnf
             try dsimp only
             try simp (decide := true) only [h86, nI_clamp (show v < 2 ^ 31 by omega), nI_clamp (show w < 2 ^ 31 by omega), zu_same, zu_ne1, zu_ne2, zuL_same, zuL_ne1, zuL_ne2, zrow_n1, zx0, zx1, zx2, zx3, nI_1, Nat.reduceAdd, Nat.reduceMul, Int32.reduceAdd, Int32.reduceSub, Int32.reduceMul]
             first
             | refine ⟨vp_inb rfl, ?_⟩
             | refine ⟨zi (by omega), ?_⟩
             | refine ⟨fun h => absurd h (nI_ge (by omega) (by omega)), fun _ => ?_⟩
             | refine ⟨fun _ => ?_, fun h => absurd (nI_le (by omega) (by omega)) h⟩
             | refine ⟨fun h => absurd h (nI_nlt (by omega) (by omega)), fun _ => ?_⟩
             | refine ⟨fun _ => ?_, fun h => absurd (nI_lt (by omega) (by omega)) h⟩
             | refine ⟨fun h => absurd h (nI_pos (by omega)), fun _ => ?_⟩
             | refine ⟨fun h => absurd h (of_decide_eq_false rfl), fun _ => ?_⟩
             | refine ⟨fun _ => ?_, fun h => absurd (of_decide_eq_true rfl) h⟩
             | refine ⟨fun _ => ?_, fun h => absurd h (of_decide_eq_false rfl)⟩
             | refine ⟨fun h => absurd (of_decide_eq_true rfl) h, fun _ => ?_⟩
             | refine ⟨of_decide_eq_true rfl, ?_⟩
             | refine ⟨rfl, ?_⟩)
          | (conv => whnf
             fail_if_success refine Exists.intro ?_ ?_
             simp only [h86, nI_clamp (show v < 2 ^ 31 by omega), nI_clamp (show w < 2 ^ 31 by omega)]))
        try (conv => whnf)
        refine ⟨(σ1 96 v, nI w, (119, zSH, zRH, σ1, τ)), rfl, rfl, trivial, ?_⟩
        try dsimp only
        by_cases hb : bt (σ1 96 v) w = true
        · rw [if_neg (zbt_t (by omega) hb)]
          repeat (first
            | (conv => whnf
               try dsimp only
               try simp (decide := true) only [h86, nI_clamp (show v < 2 ^ 31 by omega), nI_clamp (show w < 2 ^ 31 by omega), zu_same, zu_ne1, zu_ne2, zuL_same, zuL_ne1, zuL_ne2, zrow_n1, zx0, zx1, zx2, zx3, nI_1, Nat.reduceAdd, Nat.reduceMul, Int32.reduceAdd, Int32.reduceSub, Int32.reduceMul]
               first
               | refine ⟨vp_inb rfl, ?_⟩
               | refine ⟨zi (by omega), ?_⟩
               | refine ⟨fun h => absurd h (nI_ge (by omega) (by omega)), fun _ => ?_⟩
               | refine ⟨fun _ => ?_, fun h => absurd (nI_le (by omega) (by omega)) h⟩
               | refine ⟨fun h => absurd h (nI_nlt (by omega) (by omega)), fun _ => ?_⟩
               | refine ⟨fun _ => ?_, fun h => absurd (nI_lt (by omega) (by omega)) h⟩
               | refine ⟨fun h => absurd h (nI_pos (by omega)), fun _ => ?_⟩
               | refine ⟨fun h => absurd h (of_decide_eq_false rfl), fun _ => ?_⟩
               | refine ⟨fun _ => ?_, fun h => absurd (of_decide_eq_true rfl) h⟩
               | refine ⟨fun _ => ?_, fun h => absurd h (of_decide_eq_false rfl)⟩
               | refine ⟨fun h => absurd (of_decide_eq_true rfl) h, fun _ => ?_⟩
               | refine ⟨of_decide_eq_true rfl, ?_⟩
               | refine ⟨rfl, ?_⟩)
            | (conv => whnf
               fail_if_success refine Exists.intro ?_ ?_
               simp only [h86, nI_clamp (show v < 2 ^ 31 by omega), nI_clamp (show w < 2 ^ 31 by omega)]))
          try (conv => whnf)
          try dsimp only
          try simp (decide := true) only [zu_same, zu_ne1, zu_ne2, zuL_same, zuL_ne1, zuL_ne2, zrow_n1, zx0, zx1, zx2, zx3, nI_1, Nat.reduceAdd, Nat.reduceMul, Int32.reduceAdd, Int32.reduceSub, Int32.reduceMul]
          refine ih (v + 1) w _ (by omega) hw hend (fun r h1 h2 => by rw [← hfr r h1 h2]; exact zu_row h2) (fun j hj => ⟨?_, ?_⟩)
          · rw [zu_ne1 (by decide)]
            exact (hI j hj).1
          · by_cases e : j = v
            · rw [e, zu_same, if_pos (by omega), hrv, hrw]
              unfold pSt
              rw [← hrv, if_pos ⟨by omega, hb⟩]
            · rw [zu_ne2 e, (hI j hj).2]
              by_cases e2 : j < v
              · rw [if_pos e2, if_pos (by omega)]
              · rw [if_neg e2, if_neg (by omega)]
        · rw [if_pos (zbt_f (by omega) hb)]
          repeat (first
            | (conv => whnf
               try dsimp only
               try simp (decide := true) only [h86, zu_same, zu_ne1, zu_ne2, zuL_same, zuL_ne1, zuL_ne2, zrow_n1, zx0, zx1, zx2, zx3, nI_1, Nat.reduceAdd, Nat.reduceMul, Int32.reduceAdd, Int32.reduceSub, Int32.reduceMul]
               first
               | refine ⟨vp_inb rfl, ?_⟩
               | refine ⟨zi (by omega), ?_⟩
               | refine ⟨fun h => absurd h (nI_ge (by omega) (by omega)), fun _ => ?_⟩
               | refine ⟨fun _ => ?_, fun h => absurd (nI_le (by omega) (by omega)) h⟩
               | refine ⟨fun h => absurd h (nI_nlt (by omega) (by omega)), fun _ => ?_⟩
               | refine ⟨fun _ => ?_, fun h => absurd (nI_lt (by omega) (by omega)) h⟩
               | refine ⟨fun h => absurd h (nI_pos (by omega)), fun _ => ?_⟩
               | refine ⟨fun h => absurd h (of_decide_eq_false rfl), fun _ => ?_⟩
               | refine ⟨fun _ => ?_, fun h => absurd (of_decide_eq_true rfl) h⟩
               | refine ⟨fun _ => ?_, fun h => absurd h (of_decide_eq_false rfl)⟩
               | refine ⟨fun h => absurd (of_decide_eq_true rfl) h, fun _ => ?_⟩
               | refine ⟨of_decide_eq_true rfl, ?_⟩
               | refine ⟨rfl, ?_⟩)
            | (conv => whnf
               fail_if_success refine Exists.intro ?_ ?_
               simp only [h86]))
          try (conv => whnf)
          try dsimp only
          try simp (decide := true) only [zu_same, zu_ne1, zu_ne2, zuL_same, zuL_ne1, zuL_ne2, zrow_n1, zx0, zx1, zx2, zx3, nI_1, Nat.reduceAdd, Nat.reduceMul, Int32.reduceAdd, Int32.reduceSub, Int32.reduceMul]
          refine ih (v + 1) w σ1 (by omega) hw hend hfr (fun j hj => ⟨(hI j hj).1, ?_⟩)
          by_cases e : j = v
          · rw [e, if_pos (by omega), hrv]
            unfold pSt
            rw [if_neg (fun q => hb (by rw [hrv]; exact q.2))]
          · rw [(hI j hj).2]
            by_cases e2 : j < v
            · rw [if_pos e2, if_pos (by omega)]
            · rw [if_neg e2, if_neg (by omega)]
    have loop2 : ∀ (f w : Nat) (v2 : Option Value) (σ1 : zIn), w + f = n → (∀ r, r ≠ 95 → r ≠ 96 → σ1 r = σ r) → (∀ j, j < n → σ1 95 j = pLe (σ 88) (σ 85) j ∧ σ1 96 j = pWa n (pLe (σ 88) (σ 85)) w j) → Gl 71 [some (.ref 94), some (.int (nI w)), v2] [] (0, 0) (119, zSH, zRH, σ1, τ) := by
      intro f
      induction f with
      | zero =>
        intro w v2 σ1 hw hfr hI
        have h86 : σ1 86 3 = nI n := by rw [hfr 86 (by decide) (by decide)]; exact hn
        refine hG 40 _ _ _ _ _ ?_
        repeat (first
          | (conv => whnf
             try dsimp only
             try simp (decide := true) only [h86, zu_same, zu_ne1, zu_ne2, zuL_same, zuL_ne1, zuL_ne2, zrow_n1, zx0, zx1, zx2, zx3, nI_1, Nat.reduceAdd, Nat.reduceMul, Int32.reduceAdd, Int32.reduceSub, Int32.reduceMul]
             first
             | refine ⟨vp_inb rfl, ?_⟩
             | refine ⟨zi (by omega), ?_⟩
             | refine ⟨fun h => absurd h (nI_ge (by omega) (by omega)), fun _ => ?_⟩
             | refine ⟨fun _ => ?_, fun h => absurd (nI_le (by omega) (by omega)) h⟩
             | refine ⟨fun h => absurd h (nI_nlt (by omega) (by omega)), fun _ => ?_⟩
             | refine ⟨fun _ => ?_, fun h => absurd (nI_lt (by omega) (by omega)) h⟩
             | refine ⟨fun h => absurd h (nI_pos (by omega)), fun _ => ?_⟩
             | refine ⟨fun h => absurd h (of_decide_eq_false rfl), fun _ => ?_⟩
             | refine ⟨fun _ => ?_, fun h => absurd (of_decide_eq_true rfl) h⟩
             | refine ⟨fun _ => ?_, fun h => absurd h (of_decide_eq_false rfl)⟩
             | refine ⟨fun h => absurd (of_decide_eq_true rfl) h, fun _ => ?_⟩
             | refine ⟨of_decide_eq_true rfl, ?_⟩
             | refine ⟨rfl, ?_⟩)
          | (conv => whnf
             fail_if_success refine Exists.intro ?_ ?_
             simp only [h86]))
        try (conv => whnf)
        refine hK _ _ ⟨rfl, σ1, rfl, hfr, fun j hj => ⟨(hI j hj).1, ?_⟩⟩
        rw [(hI j hj).2, show w = n by omega]
        rfl
      | succ f ih =>
        intro w v2 σ1 hw hfr hI
        have h86 : σ1 86 3 = nI n := by rw [hfr 86 (by decide) (by decide)]; exact hn
        refine hG 40 _ _ _ _ _ ?_
        repeat (first
          | (conv => whnf
             try dsimp only
             try simp (decide := true) only [h86, zu_same, zu_ne1, zu_ne2, zuL_same, zuL_ne1, zuL_ne2, zrow_n1, zx0, zx1, zx2, zx3, nI_1, Nat.reduceAdd, Nat.reduceMul, Int32.reduceAdd, Int32.reduceSub, Int32.reduceMul]
             first
             | refine ⟨vp_inb rfl, ?_⟩
             | refine ⟨zi (by omega), ?_⟩
             | refine ⟨fun h => absurd h (nI_ge (by omega) (by omega)), fun _ => ?_⟩
             | refine ⟨fun _ => ?_, fun h => absurd (nI_le (by omega) (by omega)) h⟩
             | refine ⟨fun h => absurd h (nI_nlt (by omega) (by omega)), fun _ => ?_⟩
             | refine ⟨fun _ => ?_, fun h => absurd (nI_lt (by omega) (by omega)) h⟩
             | refine ⟨fun h => absurd h (nI_pos (by omega)), fun _ => ?_⟩
             | refine ⟨fun h => absurd h (of_decide_eq_false rfl), fun _ => ?_⟩
             | refine ⟨fun _ => ?_, fun h => absurd (of_decide_eq_true rfl) h⟩
             | refine ⟨fun _ => ?_, fun h => absurd h (of_decide_eq_false rfl)⟩
             | refine ⟨fun h => absurd (of_decide_eq_true rfl) h, fun _ => ?_⟩
             | refine ⟨of_decide_eq_true rfl, ?_⟩
             | refine ⟨rfl, ?_⟩)
          | (conv => whnf
             fail_if_success refine Exists.intro ?_ ?_
             simp only [h86]))
        try (conv => whnf)
        try dsimp only
        try simp (decide := true) only [zu_same, zu_ne1, zu_ne2, zuL_same, zuL_ne1, zuL_ne2, zrow_n1, zx0, zx1, zx2, zx3, nI_1, Nat.reduceAdd, Nat.reduceMul, Int32.reduceAdd, Int32.reduceSub, Int32.reduceMul]
        exact loop3 n 0 w σ1 (by omega) (by omega) (fun v3 σ2 h1 h2 => ih (w + 1) v3 σ2 (by omega) h1 h2) hfr (fun j hj => ⟨(hI j hj).1, by rw [(hI j hj).2, if_neg (Nat.not_lt_zero j)]⟩)
    have loop1 : ∀ (f v : Nat) (σ1 : zIn), v + f = n → (∀ r, r ≠ 95 → r ≠ 96 → σ1 r = σ r) → (∀ j, j < v → σ1 95 j = pLe (σ 88) (σ 85) j ∧ σ1 96 j = pLe (σ 88) (σ 85) j) → Gl 2 [some (.ref 94), some (.int (nI v)), none] [] (0, 0) (119, zSH, zRH, σ1, τ) := by
      intro f
      induction f with
      | zero =>
        intro v σ1 hv hfr hI
        have h86 : σ1 86 3 = nI n := by rw [hfr 86 (by decide) (by decide)]; exact hn
        refine hG 40 _ _ _ _ _ ?_
        repeat (first
          | (conv => whnf
             try dsimp only
             try simp (decide := true) only [h86, zu_same, zu_ne1, zu_ne2, zuL_same, zuL_ne1, zuL_ne2, zrow_n1, zx0, zx1, zx2, zx3, nI_1, Nat.reduceAdd, Nat.reduceMul, Int32.reduceAdd, Int32.reduceSub, Int32.reduceMul]
             first
             | refine ⟨vp_inb rfl, ?_⟩
             | refine ⟨zi (by omega), ?_⟩
             | refine ⟨fun h => absurd h (nI_ge (by omega) (by omega)), fun _ => ?_⟩
             | refine ⟨fun _ => ?_, fun h => absurd (nI_le (by omega) (by omega)) h⟩
             | refine ⟨fun h => absurd h (nI_nlt (by omega) (by omega)), fun _ => ?_⟩
             | refine ⟨fun _ => ?_, fun h => absurd (nI_lt (by omega) (by omega)) h⟩
             | refine ⟨fun h => absurd h (nI_pos (by omega)), fun _ => ?_⟩
             | refine ⟨fun h => absurd h (of_decide_eq_false rfl), fun _ => ?_⟩
             | refine ⟨fun _ => ?_, fun h => absurd (of_decide_eq_true rfl) h⟩
             | refine ⟨fun _ => ?_, fun h => absurd h (of_decide_eq_false rfl)⟩
             | refine ⟨fun h => absurd (of_decide_eq_true rfl) h, fun _ => ?_⟩
             | refine ⟨of_decide_eq_true rfl, ?_⟩
             | refine ⟨rfl, ?_⟩)
          | (conv => whnf
             fail_if_success refine Exists.intro ?_ ?_
             simp only [h86]))
        try (conv => whnf)
        try dsimp only
        try simp (decide := true) only [zu_same, zu_ne1, zu_ne2, zuL_same, zuL_ne1, zuL_ne2, zrow_n1, zx0, zx1, zx2, zx3, nI_1, Nat.reduceAdd, Nat.reduceMul, Int32.reduceAdd, Int32.reduceSub, Int32.reduceMul]
        exact loop2 n 0 none σ1 (by omega) hfr (fun j hj => hI j (by omega))
      | succ f ih =>
        intro v σ1 hv hfr hI
        have h86 : σ1 86 3 = nI n := by rw [hfr 86 (by decide) (by decide)]; exact hn
        have h88 : σ1 88 = σ 88 := hfr 88 (by decide) (by decide)
        have h85 : σ1 85 = σ 85 := hfr 85 (by decide) (by decide)
        have nxt : ∀ x, x = pLe (σ 88) (σ 85) v → Gl 2 [some (.ref 94), some (.int (nI (v + 1))), none] [] (0, 0) (119, zSH, zRH, zu (zu σ1 95 v x) 96 v x, τ) := fun x hx => by
          refine ih (v + 1) _ (by omega) (fun r h1 h2 => by rw [← hfr r h1 h2, zu_row h2, zu_row h1]) (fun j hj => ?_)
          by_cases e : j = v
          · rw [e]
            refine ⟨?_, ?_⟩
            · rw [zu_ne1 (by decide), zu_same]
              exact hx
            · rw [zu_same]
              exact hx
          · refine ⟨?_, ?_⟩
            · rw [zu_ne1 (by decide), zu_ne2 e]
              exact (hI j (by omega)).1
            · rw [zu_ne2 e, zu_ne1 (by decide)]
              exact (hI j (by omega)).2
        refine hG 100 _ _ _ _ _ ?_
        repeat (first
          | (conv => whnf
             try dsimp only
             try simp (decide := true) only [h86, nI_clamp (show v < 2 ^ 31 by omega), zu_same, zu_ne1, zu_ne2, zuL_same, zuL_ne1, zuL_ne2, zrow_n1, zx0, zx1, zx2, zx3, nI_1, Nat.reduceAdd, Nat.reduceMul, Int32.reduceAdd, Int32.reduceSub, Int32.reduceMul]
             first
             | refine ⟨vp_inb rfl, ?_⟩
             | refine ⟨zi (by omega), ?_⟩
             | refine ⟨fun h => absurd h (nI_ge (by omega) (by omega)), fun _ => ?_⟩
             | refine ⟨fun _ => ?_, fun h => absurd (nI_le (by omega) (by omega)) h⟩
             | refine ⟨fun h => absurd h (nI_nlt (by omega) (by omega)), fun _ => ?_⟩
             | refine ⟨fun _ => ?_, fun h => absurd (nI_lt (by omega) (by omega)) h⟩
             | refine ⟨fun h => absurd h (nI_pos (by omega)), fun _ => ?_⟩
             | refine ⟨fun h => absurd h (of_decide_eq_false rfl), fun _ => ?_⟩
             | refine ⟨fun _ => ?_, fun h => absurd (of_decide_eq_true rfl) h⟩
             | refine ⟨fun _ => ?_, fun h => absurd h (of_decide_eq_false rfl)⟩
             | refine ⟨fun h => absurd (of_decide_eq_true rfl) h, fun _ => ?_⟩
             | refine ⟨of_decide_eq_true rfl, ?_⟩
             | refine ⟨rfl, ?_⟩)
          | (conv => whnf
             fail_if_success refine Exists.intro ?_ ?_
             simp only [h86, nI_clamp (show v < 2 ^ 31 by omega)]))
        try (conv => whnf)
        refine ⟨(σ1, τ, nI v), rfl, rfl, zi (by omega), ?_⟩
        try dsimp only
        by_cases hc : σ 88 v < 0
        · rw [if_pos (show σ1 88 (nI v).toNatClampNeg < 0 by rw [nI_clamp (by omega), h88]; exact hc)]
          repeat (first
            | (conv => whnf
               try dsimp only
               try simp (decide := true) only [h86, nI_clamp (show v < 2 ^ 31 by omega), zu_same, zu_ne1, zu_ne2, zuL_same, zuL_ne1, zuL_ne2, zrow_n1, zx0, zx1, zx2, zx3, nI_1, Nat.reduceAdd, Nat.reduceMul, Int32.reduceAdd, Int32.reduceSub, Int32.reduceMul]
               first
               | refine ⟨vp_inb rfl, ?_⟩
               | refine ⟨zi (by omega), ?_⟩
               | refine ⟨fun h => absurd h (nI_ge (by omega) (by omega)), fun _ => ?_⟩
               | refine ⟨fun _ => ?_, fun h => absurd (nI_le (by omega) (by omega)) h⟩
               | refine ⟨fun h => absurd h (nI_nlt (by omega) (by omega)), fun _ => ?_⟩
               | refine ⟨fun _ => ?_, fun h => absurd (nI_lt (by omega) (by omega)) h⟩
               | refine ⟨fun h => absurd h (nI_pos (by omega)), fun _ => ?_⟩
               | refine ⟨fun h => absurd h (of_decide_eq_false rfl), fun _ => ?_⟩
               | refine ⟨fun _ => ?_, fun h => absurd (of_decide_eq_true rfl) h⟩
               | refine ⟨fun _ => ?_, fun h => absurd h (of_decide_eq_false rfl)⟩
               | refine ⟨fun h => absurd (of_decide_eq_true rfl) h, fun _ => ?_⟩
               | refine ⟨of_decide_eq_true rfl, ?_⟩
               | refine ⟨rfl, ?_⟩)
            | (conv => whnf
               fail_if_success refine Exists.intro ?_ ?_
               simp only [h86, nI_clamp (show v < 2 ^ 31 by omega)]))
          try (conv => whnf)
          try dsimp only
          try simp (decide := true) only [zu_same, zu_ne1, zu_ne2, zuL_same, zuL_ne1, zuL_ne2, zrow_n1, zx0, zx1, zx2, zx3, nI_1, Nat.reduceAdd, Nat.reduceMul, Int32.reduceAdd, Int32.reduceSub, Int32.reduceMul]
          exact nxt 0 (by unfold pLe; rw [if_pos hc])
        · rw [if_neg (show ¬ σ1 88 (nI v).toNatClampNeg < 0 by rw [nI_clamp (by omega), h88]; exact hc)]
          obtain ⟨g, hg, hg60⟩ := hfo v (by omega) hc
          repeat (first
            | (conv => whnf
               try dsimp only
               try simp (decide := true) only [h86, h88, h85, hg, nI_clamp (show v < 2 ^ 31 by omega), nI_clamp (show g < 2 ^ 31 by omega), zu_same, zu_ne1, zu_ne2, zuL_same, zuL_ne1, zuL_ne2, zrow_n1, zx0, zx1, zx2, zx3, nI_1, Nat.reduceAdd, Nat.reduceMul, Int32.reduceAdd, Int32.reduceSub, Int32.reduceMul]
               first
               | refine ⟨vp_inb rfl, ?_⟩
               | refine ⟨zi (by omega), ?_⟩
               | refine ⟨fun h => absurd h (nI_ge (by omega) (by omega)), fun _ => ?_⟩
               | refine ⟨fun _ => ?_, fun h => absurd (nI_le (by omega) (by omega)) h⟩
               | refine ⟨fun h => absurd h (nI_nlt (by omega) (by omega)), fun _ => ?_⟩
               | refine ⟨fun _ => ?_, fun h => absurd (nI_lt (by omega) (by omega)) h⟩
               | refine ⟨fun h => absurd h (nI_pos (by omega)), fun _ => ?_⟩
               | refine ⟨fun h => absurd h (of_decide_eq_false rfl), fun _ => ?_⟩
               | refine ⟨fun _ => ?_, fun h => absurd (of_decide_eq_true rfl) h⟩
               | refine ⟨fun _ => ?_, fun h => absurd h (of_decide_eq_false rfl)⟩
               | refine ⟨fun h => absurd (of_decide_eq_true rfl) h, fun _ => ?_⟩
               | refine ⟨of_decide_eq_true rfl, ?_⟩
               | refine ⟨rfl, ?_⟩)
            | (conv => whnf
               fail_if_success refine Exists.intro ?_ ?_
               simp only [h86, h88, h85, hg, nI_clamp (show v < 2 ^ 31 by omega), nI_clamp (show g < 2 ^ 31 by omega)]))
          try (conv => whnf)
          try dsimp only
          try simp (decide := true) only [zu_same, zu_ne1, zu_ne2, zuL_same, zuL_ne1, zuL_ne2, zrow_n1, zx0, zx1, zx2, zx3, nI_1, Nat.reduceAdd, Nat.reduceMul, Int32.reduceAdd, Int32.reduceSub, Int32.reduceMul]
          exact nxt (σ 85 g) (by unfold pLe; rw [if_neg hc, hg, nI_clamp (by omega)])
    refine hG 40 _ _ _ _ _ ?_
    repeat (first
      | (conv => whnf
         try dsimp only
         try simp (decide := true) only [hn, zu_same, zu_ne1, zu_ne2, zuL_same, zuL_ne1, zuL_ne2, zrow_n1, zx0, zx1, zx2, zx3, nI_1, Nat.reduceAdd, Nat.reduceMul, Int32.reduceAdd, Int32.reduceSub, Int32.reduceMul]
         first
         | refine ⟨vp_inb rfl, ?_⟩
         | refine ⟨zi (by omega), ?_⟩
         | refine ⟨fun h => absurd h (nI_ge (by omega) (by omega)), fun _ => ?_⟩
         | refine ⟨fun _ => ?_, fun h => absurd (nI_le (by omega) (by omega)) h⟩
         | refine ⟨fun h => absurd h (nI_nlt (by omega) (by omega)), fun _ => ?_⟩
         | refine ⟨fun _ => ?_, fun h => absurd (nI_lt (by omega) (by omega)) h⟩
         | refine ⟨fun h => absurd h (nI_pos (by omega)), fun _ => ?_⟩
         | refine ⟨fun h => absurd h (of_decide_eq_false rfl), fun _ => ?_⟩
         | refine ⟨fun _ => ?_, fun h => absurd (of_decide_eq_true rfl) h⟩
         | refine ⟨fun _ => ?_, fun h => absurd h (of_decide_eq_false rfl)⟩
         | refine ⟨fun h => absurd (of_decide_eq_true rfl) h, fun _ => ?_⟩
         | refine ⟨of_decide_eq_true rfl, ?_⟩
         | refine ⟨rfl, ?_⟩)
      | (conv => whnf
         fail_if_success refine Exists.intro ?_ ?_
         simp only [hn]))
    try (conv => whnf)
    exact loop1 n 0 σ (by omega) (fun _ _ _ => rfl) (fun j hj => absurd hj (Nat.not_lt_zero j))

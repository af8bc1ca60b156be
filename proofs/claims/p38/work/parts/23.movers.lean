/-! ===== what moves what; what the tables add ===== -/
def pNm2 (σ : zIn) (n i v : Nat) : Int32 := if v < n ∧ ¬ fSh (σ 111 v) = fSh (σ 107 v) then σ 112 v ||| zone i else σ 112 v
def spX7_noteMoved : zSp := zD (X := zIn × zLo × Nat × Nat) (fun x => match x with | (σ, τ, n, i) => [.ref 0, .int (nI i)]) (fun x => match x with | (σ, τ, n, i) => (119, zSH, zRH, σ, τ)) (fun x => match x with | (σ, τ, n, i) => σ 86 3 = nI n ∧ n ≤ 16) (fun x => match x with | (σ, τ, n, i) => none) (fun x => match x with | (σ, τ, n, i) => (119, zSH, zRH, zrow σ 112 (pNm2 σ n i), τ))
abbrev rmX7_noteMoved : Room := ({ frames := 1, cells := 0, slots := 0, locals := 20 } : Room)
set_option maxRecDepth 100000 in
set_option maxHeartbeats 4000000 in
theorem ctX7_noteMoved (l : Launch) (D : va_G) (cA : Nat → ClassId) : zCt false l D cA yX7_noteMoved cX7_noteMoved 3 (none) rmX7_noteMoved spX7_noteMoved := by
  refine zct_D (zCX7_noteMoved [(193, 1, 1, spX7_shown, rmX7_shown.cells, rmX7_shown.slots)]) zpX7_noteMoved [2] (by decide +kernel) zkX7_noteMoved (Or.inr (by decide +kernel)) trivial ⟨by decide +kernel, by decide +kernel⟩ (fun x ad => Nat.le_of_ble_eq_true rfl) ?_ ?_
  · intro p e s m args below meth c A H0 ad0 n0 Q F hml hNw hA hX
    exact ⟨zco_S hX hA F hml hNw (ctX7_shown l D cA) ⟨⟨zlX7_noteMoved_193, zwX7_shown.1⟩, zwX7_shown.2⟩ zdX7_shown ⟨Nat.le_of_ble_eq_true rfl, Nat.le_of_ble_eq_true rfl⟩, trivial⟩
  · rintro ⟨σ, τ, n, i⟩ Ret hP hK Gl hG
    try dsimp only at hP hK
    show Gl 0 (zent 3 [.ref 0, .int (nI i)]) [] (0, 0) ((119, zSH, zRH, σ, τ))
    obtain ⟨hn, h16⟩ := hP
    have loop : ∀ (f v : Nat), v + f = n → Gl 2 [some (.ref 0), some (.int (nI i)), some (.int (nI v))] [] (0, 0) (119, zSH, zRH, zrow σ 112 (pNm2 σ v i), τ) := by
      intro f
      induction f with
      | zero =>
        intro v hv
        rw [show v = n by omega]
        refine hG 40 _ _ _ _ _ ?_
        repeat (first
          | (conv => whnf
             try dsimp only
             try simp (decide := true) only [hn, zu_same, zu_ne1, zu_ne2, zu_row, zuL_same, zuL_ne1, zuL_ne2, zrow_n1, zx0, zx1, zx2, zx3, nI_1, Nat.reduceAdd, Nat.reduceMul, Int32.reduceAdd, Int32.reduceSub, Int32.reduceMul]
             first
             | refine ⟨vp_inb (by decide), ?_⟩
             | refine ⟨by with_reducible exact zi (by omega), ?_⟩
             | refine ⟨fun h => absurd h (by with_reducible exact nI_ge (by omega) (by omega)), fun _ => ?_⟩
             | refine ⟨fun _ => ?_, fun h => absurd (by with_reducible exact nI_le (by omega) (by omega)) h⟩
             | refine ⟨fun h => absurd h (by with_reducible exact nI_nlt (by omega) (by omega)), fun _ => ?_⟩
             | refine ⟨fun _ => ?_, fun h => absurd (by with_reducible exact nI_lt (by omega) (by omega)) h⟩
             | refine ⟨fun h => absurd h (by with_reducible exact nI_pos (by omega)), fun _ => ?_⟩
             | refine ⟨fun _ => ?_, fun h => absurd (by with_reducible exact nI_0le (by omega)) h⟩
             | refine ⟨fun h => absurd h (by decide), fun _ => ?_⟩
             | refine ⟨fun _ => ?_, fun h => absurd (by decide) h⟩
             | refine ⟨fun _ => ?_, fun h => absurd h (by decide)⟩
             | refine ⟨fun h => absurd (by decide) h, fun _ => ?_⟩
             | refine ⟨by decide, ?_⟩
             | refine ⟨rfl, ?_⟩)
          | (conv => whnf
             fail_if_success refine Exists.intro ?_ ?_
             simp only [hn]))
        try (conv => whnf)
        exact hK
      | succ f ih =>
        intro v hv
        have h9 := ih (v + 1) (by omega)
        have hv2 : pNm2 σ v i v = σ 112 v := if_neg (fun q => Nat.lt_irrefl v q.1)
        refine hG 100 _ _ _ _ _ ?_
        repeat (first
          | (conv => whnf
             try dsimp only
             try simp (decide := true) only [hn, nI_clamp (show v < 2 ^ 31 by omega), zu_same, zu_ne1, zu_ne2, zu_row, zuL_same, zuL_ne1, zuL_ne2, zrow_n1, zx0, zx1, zx2, zx3, nI_1, Nat.reduceAdd, Nat.reduceMul, Int32.reduceAdd, Int32.reduceSub, Int32.reduceMul]
             first
             | refine ⟨vp_inb (by decide), ?_⟩
             | refine ⟨by with_reducible exact zi (by omega), ?_⟩
             | refine ⟨fun h => absurd h (by with_reducible exact nI_ge (by omega) (by omega)), fun _ => ?_⟩
             | refine ⟨fun _ => ?_, fun h => absurd (by with_reducible exact nI_le (by omega) (by omega)) h⟩
             | refine ⟨fun h => absurd h (by with_reducible exact nI_nlt (by omega) (by omega)), fun _ => ?_⟩
             | refine ⟨fun _ => ?_, fun h => absurd (by with_reducible exact nI_lt (by omega) (by omega)) h⟩
             | refine ⟨fun h => absurd h (by with_reducible exact nI_pos (by omega)), fun _ => ?_⟩
             | refine ⟨fun _ => ?_, fun h => absurd (by with_reducible exact nI_0le (by omega)) h⟩
             | refine ⟨fun h => absurd h (by decide), fun _ => ?_⟩
             | refine ⟨fun _ => ?_, fun h => absurd (by decide) h⟩
             | refine ⟨fun _ => ?_, fun h => absurd h (by decide)⟩
             | refine ⟨fun h => absurd (by decide) h, fun _ => ?_⟩
             | refine ⟨by decide, ?_⟩
             | refine ⟨rfl, ?_⟩)
          | (conv => whnf
             fail_if_success refine Exists.intro ?_ ?_
             simp only [hn, nI_clamp (show v < 2 ^ 31 by omega)]))
        try (conv => whnf)
        refine ⟨(σ 111 v, _), rfl, rfl, trivial, ?_⟩
        try dsimp only [cond_true, cond_false]
        repeat (first
          | (conv => whnf
             try dsimp only
             try simp (decide := true) only [hn, nI_clamp (show v < 2 ^ 31 by omega), zu_same, zu_ne1, zu_ne2, zu_row, zuL_same, zuL_ne1, zuL_ne2, zrow_n1, zx0, zx1, zx2, zx3, nI_1, Nat.reduceAdd, Nat.reduceMul, Int32.reduceAdd, Int32.reduceSub, Int32.reduceMul]
             first
             | refine ⟨vp_inb (by decide), ?_⟩
             | refine ⟨by with_reducible exact zi (by omega), ?_⟩
             | refine ⟨fun h => absurd h (by with_reducible exact nI_ge (by omega) (by omega)), fun _ => ?_⟩
             | refine ⟨fun _ => ?_, fun h => absurd (by with_reducible exact nI_le (by omega) (by omega)) h⟩
             | refine ⟨fun h => absurd h (by with_reducible exact nI_nlt (by omega) (by omega)), fun _ => ?_⟩
             | refine ⟨fun _ => ?_, fun h => absurd (by with_reducible exact nI_lt (by omega) (by omega)) h⟩
             | refine ⟨fun h => absurd h (by with_reducible exact nI_pos (by omega)), fun _ => ?_⟩
             | refine ⟨fun _ => ?_, fun h => absurd (by with_reducible exact nI_0le (by omega)) h⟩
             | refine ⟨fun h => absurd h (by decide), fun _ => ?_⟩
             | refine ⟨fun _ => ?_, fun h => absurd (by decide) h⟩
             | refine ⟨fun _ => ?_, fun h => absurd h (by decide)⟩
             | refine ⟨fun h => absurd (by decide) h, fun _ => ?_⟩
             | refine ⟨by decide, ?_⟩
             | refine ⟨rfl, ?_⟩)
          | (conv => whnf
             fail_if_success refine Exists.intro ?_ ?_
             simp only [hn, nI_clamp (show v < 2 ^ 31 by omega)]))
        try (conv => whnf)
        refine ⟨(σ 107 v, _), rfl, rfl, trivial, ?_⟩
        try dsimp only [cond_true, cond_false]
        repeat (first
          | (conv => whnf
             try dsimp only
             try simp (decide := true) only [hn, nI_clamp (show v < 2 ^ 31 by omega), zu_same, zu_ne1, zu_ne2, zu_row, zuL_same, zuL_ne1, zuL_ne2, zrow_n1, zx0, zx1, zx2, zx3, nI_1, Nat.reduceAdd, Nat.reduceMul, Int32.reduceAdd, Int32.reduceSub, Int32.reduceMul]
             first
             | refine ⟨vp_inb (by decide), ?_⟩
             | refine ⟨by with_reducible exact zi (by omega), ?_⟩
             | refine ⟨fun h => absurd h (by with_reducible exact nI_ge (by omega) (by omega)), fun _ => ?_⟩
             | refine ⟨fun _ => ?_, fun h => absurd (by with_reducible exact nI_le (by omega) (by omega)) h⟩
             | refine ⟨fun h => absurd h (by with_reducible exact nI_nlt (by omega) (by omega)), fun _ => ?_⟩
             | refine ⟨fun _ => ?_, fun h => absurd (by with_reducible exact nI_lt (by omega) (by omega)) h⟩
             | refine ⟨fun h => absurd h (by with_reducible exact nI_pos (by omega)), fun _ => ?_⟩
             | refine ⟨fun _ => ?_, fun h => absurd (by with_reducible exact nI_0le (by omega)) h⟩
             | refine ⟨fun h => absurd h (by decide), fun _ => ?_⟩
             | refine ⟨fun _ => ?_, fun h => absurd (by decide) h⟩
             | refine ⟨fun _ => ?_, fun h => absurd h (by decide)⟩
             | refine ⟨fun h => absurd (by decide) h, fun _ => ?_⟩
             | refine ⟨by decide, ?_⟩
             | refine ⟨rfl, ?_⟩)
          | (conv => whnf
             fail_if_success refine Exists.intro ?_ ?_
             simp only [hn, nI_clamp (show v < 2 ^ 31 by omega)]))
        try (conv => whnf)
        refine ⟨fun h => ?_, fun h => ?_⟩
        · have e : pNm2 σ (v + 1) i = pNm2 σ v i := by
            funext u
            unfold pNm2
            have h' : fSh (σ 111 v) = fSh (σ 107 v) := h
            by_cases hu : u = v
            · rw [hu, if_neg (fun q => q.2 h'), if_neg (fun q => q.2 h')]
            · have e2 : (u < v + 1 ∧ ¬ fSh (σ 111 u) = fSh (σ 107 u)) ↔ (u < v ∧ ¬ fSh (σ 111 u) = fSh (σ 107 u)) := ⟨fun q => ⟨by omega, q.2⟩, fun q => ⟨by omega, q.2⟩⟩
              by_cases hc : u < v ∧ ¬ fSh (σ 111 u) = fSh (σ 107 u)
              · rw [if_pos hc, if_pos (e2.mpr hc)]
              · rw [if_neg hc, if_neg (fun q => hc (e2.mp q))]
          rw [e] at h9
          repeat (first
            | (conv => whnf
               try dsimp only
               try simp (decide := true) only [hn, zu_same, zu_ne1, zu_ne2, zu_row, zuL_same, zuL_ne1, zuL_ne2, zrow_n1, zx0, zx1, zx2, zx3, nI_1, Nat.reduceAdd, Nat.reduceMul, Int32.reduceAdd, Int32.reduceSub, Int32.reduceMul]
               first
               | refine ⟨vp_inb (by decide), ?_⟩
               | refine ⟨by with_reducible exact zi (by omega), ?_⟩
               | refine ⟨fun h => absurd h (by with_reducible exact nI_ge (by omega) (by omega)), fun _ => ?_⟩
               | refine ⟨fun _ => ?_, fun h => absurd (by with_reducible exact nI_le (by omega) (by omega)) h⟩
               | refine ⟨fun h => absurd h (by with_reducible exact nI_nlt (by omega) (by omega)), fun _ => ?_⟩
               | refine ⟨fun _ => ?_, fun h => absurd (by with_reducible exact nI_lt (by omega) (by omega)) h⟩
               | refine ⟨fun h => absurd h (by with_reducible exact nI_pos (by omega)), fun _ => ?_⟩
               | refine ⟨fun _ => ?_, fun h => absurd (by with_reducible exact nI_0le (by omega)) h⟩
               | refine ⟨fun h => absurd h (by decide), fun _ => ?_⟩
               | refine ⟨fun _ => ?_, fun h => absurd (by decide) h⟩
               | refine ⟨fun _ => ?_, fun h => absurd h (by decide)⟩
               | refine ⟨fun h => absurd (by decide) h, fun _ => ?_⟩
               | refine ⟨by decide, ?_⟩
               | refine ⟨rfl, ?_⟩)
            | (conv => whnf
               fail_if_success refine Exists.intro ?_ ?_
               simp only [hn]))
          try (conv => whnf)
          try dsimp only
          try simp (decide := true) only [zu_same, zu_ne1, zu_ne2, zu_row, zuL_same, zuL_ne1, zuL_ne2, zrow_n1, zx0, zx1, zx2, zx3, nI_1, Nat.reduceAdd, Nat.reduceMul, Int32.reduceAdd, Int32.reduceSub, Int32.reduceMul]
          exact h9
        · have e : zu (zrow σ 112 (pNm2 σ v i)) 112 v (σ 112 v ||| zone i) = zrow σ 112 (pNm2 σ (v + 1) i) := by
            have h' : ¬ fSh (σ 111 v) = fSh (σ 107 v) := h
            rw [zu_zrow]
            refine congrArg (zrow σ 112) (funext fun u => ?_)
            by_cases hu : u = v
            · rw [if_pos hu, hu]
              exact (if_pos ⟨Nat.lt_succ_self v, h'⟩).symm
            · rw [if_neg hu]
              unfold pNm2
              have e2 : (u < v + 1 ∧ ¬ fSh (σ 111 u) = fSh (σ 107 u)) ↔ (u < v ∧ ¬ fSh (σ 111 u) = fSh (σ 107 u)) := ⟨fun q => ⟨by omega, q.2⟩, fun q => ⟨by omega, q.2⟩⟩
              by_cases hc : u < v ∧ ¬ fSh (σ 111 u) = fSh (σ 107 u)
              · rw [if_pos hc, if_pos (e2.mpr hc)]
              · rw [if_neg hc, if_neg (fun q => hc (e2.mp q))]
          repeat (first
            | (conv => whnf
               try dsimp only
               try simp (decide := true) only [hn, zrow_self, hv2, nI_clamp (show v < 2 ^ 31 by omega), zu_same, zu_ne1, zu_ne2, zu_row, zuL_same, zuL_ne1, zuL_ne2, zrow_n1, zx0, zx1, zx2, zx3, nI_1, Nat.reduceAdd, Nat.reduceMul, Int32.reduceAdd, Int32.reduceSub, Int32.reduceMul]
               first
               | refine ⟨vp_inb (by decide), ?_⟩
               | refine ⟨by with_reducible exact zi (by omega), ?_⟩
               | refine ⟨fun h => absurd h (by with_reducible exact nI_ge (by omega) (by omega)), fun _ => ?_⟩
               | refine ⟨fun _ => ?_, fun h => absurd (by with_reducible exact nI_le (by omega) (by omega)) h⟩
               | refine ⟨fun h => absurd h (by with_reducible exact nI_nlt (by omega) (by omega)), fun _ => ?_⟩
               | refine ⟨fun _ => ?_, fun h => absurd (by with_reducible exact nI_lt (by omega) (by omega)) h⟩
               | refine ⟨fun h => absurd h (by with_reducible exact nI_pos (by omega)), fun _ => ?_⟩
               | refine ⟨fun _ => ?_, fun h => absurd (by with_reducible exact nI_0le (by omega)) h⟩
               | refine ⟨fun h => absurd h (by decide), fun _ => ?_⟩
               | refine ⟨fun _ => ?_, fun h => absurd (by decide) h⟩
               | refine ⟨fun _ => ?_, fun h => absurd h (by decide)⟩
               | refine ⟨fun h => absurd (by decide) h, fun _ => ?_⟩
               | refine ⟨by decide, ?_⟩
               | refine ⟨rfl, ?_⟩)
            | (conv => whnf
               fail_if_success refine Exists.intro ?_ ?_
               simp only [hn, zrow_self, hv2, nI_clamp (show v < 2 ^ 31 by omega)]))
          try (conv => whnf)
          try dsimp only
          try simp (decide := true) only [zu_same, zu_ne1, zu_ne2, zu_row, zuL_same, zuL_ne1, zuL_ne2, zrow_n1, zx0, zx1, zx2, zx3, nI_1, Nat.reduceAdd, Nat.reduceMul, Int32.reduceAdd, Int32.reduceSub, Int32.reduceMul]
          rw [show (1 : Int32) <<< (nI i &&& 31) = zone i from rfl, e]
          exact h9
    have h0 := loop n 0 (by omega)
    rw [zrow_id (f := pNm2 σ 0 i) (funext fun u => if_neg (fun q => Nat.not_lt_zero u q.1))] at h0
    refine hG 40 _ _ _ _ _ ?_
    repeat (conv => whnf
            try dsimp only
            try simp (decide := true) only [zu_same, zu_ne1, zu_ne2, zu_row, zuL_same, zuL_ne1, zuL_ne2, zrow_n1, zx0, zx1, zx2, zx3, nI_1, Nat.reduceAdd, Nat.reduceMul, Int32.reduceAdd, Int32.reduceSub, Int32.reduceMul]
            first
            | refine ⟨vp_inb (by decide), ?_⟩
            | refine ⟨by with_reducible exact zi (by omega), ?_⟩
            | refine ⟨fun h => absurd h (by with_reducible exact nI_ge (by omega) (by omega)), fun _ => ?_⟩
            | refine ⟨fun _ => ?_, fun h => absurd (by with_reducible exact nI_le (by omega) (by omega)) h⟩
            | refine ⟨fun h => absurd h (by with_reducible exact nI_nlt (by omega) (by omega)), fun _ => ?_⟩
            | refine ⟨fun _ => ?_, fun h => absurd (by with_reducible exact nI_lt (by omega) (by omega)) h⟩
            | refine ⟨fun h => absurd h (by with_reducible exact nI_pos (by omega)), fun _ => ?_⟩
            | refine ⟨fun _ => ?_, fun h => absurd (by with_reducible exact nI_0le (by omega)) h⟩
            | refine ⟨fun h => absurd h (by decide), fun _ => ?_⟩
            | refine ⟨fun _ => ?_, fun h => absurd (by decide) h⟩
            | refine ⟨fun _ => ?_, fun h => absurd h (by decide)⟩
            | refine ⟨fun h => absurd (by decide) h, fun _ => ?_⟩
            | refine ⟨by decide, ?_⟩
            | refine ⟨rfl, ?_⟩)
    try (conv => whnf)
    exact h0
theorem bt_m1' {m : Int32} : m &&& -1 = m := bt_ext fun i hi => by rw [bt_and, bt_m1 hi, Bool.and_true]
def spX7_findMovers : zSp := zDQ (X := zIn × zLo × Nat × Nat × Nat) (fun x => match x with | (σ, τ, n, pc, un) => [.ref 0]) (fun x => match x with | (σ, τ, n, pc, un) => (119, zSH, zRH, σ, τ)) (fun x => match x with | (σ, τ, n, pc, un) => cI σ τ n pc un ∧ cFl σ n ∧ σ 0 13 = 1 ∧ σ 0 14 = 1) (fun x r9 μ9 => match x with | (σ, τ, n, pc, un) => r9 = none ∧ ∃ σ1 : zIn, μ9 = (119, zSH, zRH, σ1, τ) ∧ cFl σ1 n ∧ cI σ1 τ n pc un ∧ (∀ r, r ≠ 0 → r ≠ 101 → r < 107 ∨ 112 < r → σ1 r = σ r) ∧ (∀ j, j ≠ 15 → σ1 0 j = σ 0 j) ∧ σ1 0 15 = 1 ∧ (σ 0 15 = 1 → σ1 = σ))
abbrev rmX7_findMovers : Room := ({ frames := 6, cells := 0, slots := 0, locals := 152 } : Room)
set_option maxRecDepth 100000 in
set_option maxHeartbeats 4000000 in
theorem ctX7_findMovers (l : Launch) (D : va_G) (cA : Nat → ClassId) : zCt false l D cA yX7_findMovers cX7_findMovers 5 (none) rmX7_findMovers spX7_findMovers := by
  refine zct_Q (zCX7_findMovers [(244, 0, 1, spX6_isInput, rmX6_isInput.cells, rmX6_isInput.slots), (298, 0, 1, spX1_above, rmX1_above.cells, rmX1_above.slots), (211, 0, 0, spX7_resetTrial, rmX7_resetTrial.cells, rmX7_resetTrial.slots), (219, 1, 1, spX7_kept, rmX7_kept.cells, rmX7_kept.slots), (250, 0, 3, spX4_solve, rmX4_solve.cells, rmX4_solve.slots), (235, 1, 5, spCopy, 0, 0), (303, 0, 1, spX7_noteMoved, rmX7_noteMoved.cells, rmX7_noteMoved.slots)]) zpX7_findMovers [10, 36] (by decide +kernel) zkX7_findMovers (Or.inr (by decide +kernel)) trivial ⟨by decide +kernel, by decide +kernel⟩ (fun x ad => Nat.le_of_ble_eq_true rfl) ?_ ?_
  · intro p e s m args below meth c A H0 ad0 n0 Q F hml hNw hA hX
    exact ⟨zco_V hX hA F hml hNw (ctX6_isInput l D cA) ⟨⟨zlX7_findMovers_244, zwX6_isInput.1.1, zwX6_isInput.1.2⟩, zwX6_isInput.2⟩ zdX6_isInput ⟨Nat.le_of_ble_eq_true rfl, Nat.le_of_ble_eq_true rfl⟩ (ci := 6) (by decide) rfl (by rintro av μ K ⟨x, rfl, rfl, -⟩; exact ⟨_, _, rfl, rfl⟩), zco_V hX hA F hml hNw (ctX1_above l D cA) ⟨⟨zlX7_findMovers_298, zwX1_above.1.1, zwX1_above.1.2⟩, zwX1_above.2⟩ zdX1_above ⟨Nat.le_of_ble_eq_true rfl, Nat.le_of_ble_eq_true rfl⟩ (ci := 1) (by decide) rfl (by rintro av μ K ⟨x, rfl, rfl, -⟩; exact ⟨_, _, rfl, rfl⟩), zco_V hX hA F hml hNw (ctX7_resetTrial l D cA) ⟨⟨zlX7_findMovers_211, zwX7_resetTrial.1.1, zwX7_resetTrial.1.2⟩, zwX7_resetTrial.2⟩ zdX7_resetTrial ⟨Nat.le_of_ble_eq_true rfl, Nat.le_of_ble_eq_true rfl⟩ (ci := 7) (by decide) rfl (by rintro av μ K ⟨x, rfl, rfl, -⟩; exact ⟨_, _, rfl, rfl⟩), zco_S hX hA F hml hNw (ctX7_kept l D cA) ⟨⟨zlX7_findMovers_219, zwX7_kept.1⟩, zwX7_kept.2⟩ zdX7_kept ⟨Nat.le_of_ble_eq_true rfl, Nat.le_of_ble_eq_true rfl⟩, zco_V hX hA F hml hNw (ctX4_solve l D cA) ⟨⟨zlX7_findMovers_250, zwX4_solve.1.1, zwX4_solve.1.2⟩, zwX4_solve.2⟩ zdX4_solve ⟨Nat.le_of_ble_eq_true rfl, Nat.le_of_ble_eq_true rfl⟩ (ci := 4) (by decide) rfl (by rintro av μ K ⟨x, rfl, rfl, -⟩; exact ⟨_, _, rfl, rfl⟩), zco_copy F hml ⟨zlX7_findMovers_235, zlib_copy⟩ ⟨Nat.le_of_ble_eq_true rfl, Nat.le_of_ble_eq_true rfl⟩, zco_V hX hA F hml hNw (ctX7_noteMoved l D cA) ⟨⟨zlX7_findMovers_303, zwX7_noteMoved.1.1, zwX7_noteMoved.1.2⟩, zwX7_noteMoved.2⟩ zdX7_noteMoved ⟨Nat.le_of_ble_eq_true rfl, Nat.le_of_ble_eq_true rfl⟩ (ci := 7) (by decide) rfl (by rintro av μ K ⟨x, rfl, rfl, -⟩; exact ⟨_, _, rfl, rfl⟩), trivial⟩
  · rintro ⟨σ, τ, n, pc, un⟩ Ret hP hK Gl hG
    try dsimp only at hP hK
    show Gl 0 (zent 5 [.ref 0]) [] (0, 0) ((119, zSH, zRH, σ, τ))
    obtain ⟨hI, hF, h13, h14⟩ := hP
    have hn := hI.1.1
    have h16 := hI.1.2.1
    have hor : cOr σ n := (hF.1.resolve_left (by rw [h13]; decide)).2.1
    have hso : cSo σ n := (hF.2.1.resolve_left (by rw [h14]; decide)).2.2
    have hft : pFt σ n := (hF.1.resolve_left (by rw [h13]; decide)).2.2
    rcases hF.2.2 with h15 | h15
    · have hne : ¬ σ 0 15 = 1 := by rw [h15]; decide
      have fin : ∀ (σ1 : zIn) (l2 l3 l4 : Option Value), (∀ r, r ≠ 101 → r < 107 ∨ 112 < r → σ1 r = σ r) → (∀ v, v < n → ∀ j, bt (σ1 112 v) j = true ↔ j < n ∧ cMv σ n v j) → Gl 36 [some (.ref 0), some (.int (nI n)), l2, l3, l4] [] (0, 0) (119, zSH, zRH, σ1, τ) := by
        intro σ1 l2 l3 l4 hfr hM
        have h86 : σ1 86 3 = nI n := by rw [hfr 86 (by decide) (by decide)]; exact hn
        refine hG 40 _ _ _ _ _ ?_
        repeat (first
          | (conv => whnf
             try dsimp only
             try simp (decide := true) only [h86, zu_same, zu_ne1, zu_ne2, zu_row, zuL_same, zuL_ne1, zuL_ne2, zrow_n1, zx0, zx1, zx2, zx3, nI_1, Nat.reduceAdd, Nat.reduceMul, Int32.reduceAdd, Int32.reduceSub, Int32.reduceMul]
             first
             | refine ⟨vp_inb (by decide), ?_⟩
             | refine ⟨by with_reducible exact zi (by omega), ?_⟩
             | refine ⟨fun h => absurd h (by with_reducible exact nI_ge (by omega) (by omega)), fun _ => ?_⟩
             | refine ⟨fun _ => ?_, fun h => absurd (by with_reducible exact nI_le (by omega) (by omega)) h⟩
             | refine ⟨fun h => absurd h (by with_reducible exact nI_nlt (by omega) (by omega)), fun _ => ?_⟩
             | refine ⟨fun _ => ?_, fun h => absurd (by with_reducible exact nI_lt (by omega) (by omega)) h⟩
             | refine ⟨fun h => absurd h (by with_reducible exact nI_pos (by omega)), fun _ => ?_⟩
             | refine ⟨fun _ => ?_, fun h => absurd (by with_reducible exact nI_0le (by omega)) h⟩
             | refine ⟨fun h => absurd h (by decide), fun _ => ?_⟩
             | refine ⟨fun _ => ?_, fun h => absurd (by decide) h⟩
             | refine ⟨fun _ => ?_, fun h => absurd h (by decide)⟩
             | refine ⟨fun h => absurd (by decide) h, fun _ => ?_⟩
             | refine ⟨by decide, ?_⟩
             | refine ⟨rfl, ?_⟩)
          | (conv => whnf
             fail_if_success refine Exists.intro ?_ ?_
             simp only [h86]))
        try (conv => whnf)
        have g : ∀ r, r ≠ 0 → r < 101 → zu σ1 0 15 1 r = σ r := fun r h0 h => by rw [zu_row h0]; exact hfr r (by omega) (by omega)
        have g0 : ∀ j, j ≠ 15 → zu σ1 0 15 1 0 j = σ 0 j := fun j hj => by rw [zu_ne2 hj, hfr 0 (by decide) (by decide)]
        have gs : ∀ r, r ≠ 0 → r ≠ 101 → r < 107 ∨ 112 < r → zu σ1 0 15 1 r = σ r := fun r h0 h1 h2 => by rw [zu_row h0]; exact hfr r h1 h2
        refine hK _ _ ⟨rfl, _, rfl, ⟨Or.inr ⟨?_, ?_, ?_⟩, Or.inr ⟨?_, ?_, ?_⟩, Or.inr ⟨zu_same, ?_, ?_⟩⟩, ?_, gs, g0, zu_same, fun q => absurd q hne⟩
        · exact (g0 13 (by decide)).trans h13
        · exact cOr_cg hor (fun r h0 h => g r h0 (by omega))
        · exact pFt_cg hft (fun r h0 h => g r h0 (by omega))
        · exact (g0 14 (by decide)).trans h14
        · exact (g0 13 (by decide)).trans h13
        · exact cSo_cg hso g (gs 103 (by decide) (by decide) (by decide)) (gs 104 (by decide) (by decide) (by decide)) (gs 105 (by decide) (by decide) (by decide))
        · exact (g0 14 (by decide)).trans h14
        · intro v hv j
          rw [cMv_cg g, zu_row (by decide)]
          exact hM v hv j
        · exact cI_cg hI (fun r h0 h => g r h0 (by omega)) (g 100 (by decide) (by decide)) (by rw [gs 103 (by decide) (by decide) (by decide)]; exact hI.2.2.2.2.2.1)
      have loop2 : ∀ (f i : Nat) (σ1 : zIn) (l2 l3 l4 : Option Value), i + f = n → (∀ r, r ≠ 101 → r < 107 ∨ 112 < r → σ1 r = σ r) → (∀ v, v < n → ∀ j, bt (σ1 112 v) j = true ↔ j < i ∧ cMv σ n v j) → Gl 36 [some (.ref 0), some (.int (nI i)), l2, l3, l4] [] (0, 0) (119, zSH, zRH, σ1, τ) := by
        intro f
        induction f with
        | zero =>
          intro i σ1 l2 l3 l4 hi hfr hM
          have hin : i = n := by omega
          rw [hin] at hM ⊢
          exact fin σ1 l2 l3 l4 hfr hM
        | succ f ih =>
          intro i σ1 l2 l3 l4 hi hfr hM
          have hin : i < n := by omega
          have h86 : σ1 86 3 = nI n := by rw [hfr 86 (by decide) (by decide)]; exact hn
          have h88 : σ1 88 = σ 88 := hfr 88 (by decide) (by decide)
          have h89 : σ1 89 = σ 89 := hfr 89 (by decide) (by decide)
          have h96 : σ1 96 = σ 96 := hfr 96 (by decide) (by decide)
          refine hG 100 _ _ _ _ _ ?_
          repeat (first
            | (conv => whnf
               try dsimp only
               try simp (decide := true) only [h86, zu_same, zu_ne1, zu_ne2, zu_row, zuL_same, zuL_ne1, zuL_ne2, zrow_n1, zx0, zx1, zx2, zx3, nI_1, Nat.reduceAdd, Nat.reduceMul, Int32.reduceAdd, Int32.reduceSub, Int32.reduceMul]
               first
               | refine ⟨vp_inb (by decide), ?_⟩
               | refine ⟨by with_reducible exact zi (by omega), ?_⟩
               | refine ⟨fun h => absurd h (by with_reducible exact nI_ge (by omega) (by omega)), fun _ => ?_⟩
               | refine ⟨fun _ => ?_, fun h => absurd (by with_reducible exact nI_le (by omega) (by omega)) h⟩
               | refine ⟨fun h => absurd h (by with_reducible exact nI_nlt (by omega) (by omega)), fun _ => ?_⟩
               | refine ⟨fun _ => ?_, fun h => absurd (by with_reducible exact nI_lt (by omega) (by omega)) h⟩
               | refine ⟨fun h => absurd h (by with_reducible exact nI_pos (by omega)), fun _ => ?_⟩
               | refine ⟨fun _ => ?_, fun h => absurd (by with_reducible exact nI_0le (by omega)) h⟩
               | refine ⟨fun h => absurd h (by decide), fun _ => ?_⟩
               | refine ⟨fun _ => ?_, fun h => absurd (by decide) h⟩
               | refine ⟨fun _ => ?_, fun h => absurd h (by decide)⟩
               | refine ⟨fun h => absurd (by decide) h, fun _ => ?_⟩
               | refine ⟨by decide, ?_⟩
               | refine ⟨rfl, ?_⟩)
            | (conv => whnf
               fail_if_success refine Exists.intro ?_ ?_
               simp only [h86]))
          try (conv => whnf)
          refine ⟨(σ1, τ, nI i), rfl, rfl, zi (by omega), ?_⟩
          try dsimp only [cond_true, cond_false]
          by_cases hc : σ 88 i < 0
          · rw [if_pos (show σ1 88 (nI i).toNatClampNeg < 0 by rw [nI_clamp (by omega), h88]; exact hc)]
            repeat (first
              | (conv => whnf
                 try dsimp only
                 try simp (decide := true) only [h86, h89, nI_clamp (show i < 2 ^ 31 by omega), zu_same, zu_ne1, zu_ne2, zu_row, zuL_same, zuL_ne1, zuL_ne2, zrow_n1, zx0, zx1, zx2, zx3, nI_1, Nat.reduceAdd, Nat.reduceMul, Int32.reduceAdd, Int32.reduceSub, Int32.reduceMul]
                 first
                 | refine ⟨vp_inb (by decide), ?_⟩
                 | refine ⟨by with_reducible exact zi (by omega), ?_⟩
                 | refine ⟨fun h => absurd h (by with_reducible exact nI_ge (by omega) (by omega)), fun _ => ?_⟩
                 | refine ⟨fun _ => ?_, fun h => absurd (by with_reducible exact nI_le (by omega) (by omega)) h⟩
                 | refine ⟨fun h => absurd h (by with_reducible exact nI_nlt (by omega) (by omega)), fun _ => ?_⟩
                 | refine ⟨fun _ => ?_, fun h => absurd (by with_reducible exact nI_lt (by omega) (by omega)) h⟩
                 | refine ⟨fun h => absurd h (by with_reducible exact nI_pos (by omega)), fun _ => ?_⟩
                 | refine ⟨fun _ => ?_, fun h => absurd (by with_reducible exact nI_0le (by omega)) h⟩
                 | refine ⟨fun h => absurd h (by decide), fun _ => ?_⟩
                 | refine ⟨fun _ => ?_, fun h => absurd (by decide) h⟩
                 | refine ⟨fun _ => ?_, fun h => absurd h (by decide)⟩
                 | refine ⟨fun h => absurd (by decide) h, fun _ => ?_⟩
                 | refine ⟨by decide, ?_⟩
                 | refine ⟨rfl, ?_⟩)
              | (conv => whnf
                 fail_if_success refine Exists.intro ?_ ?_
                 simp only [h86, h89, nI_clamp (show i < 2 ^ 31 by omega)]))
            try (conv => whnf)
            refine ⟨(σ1, τ, n, i), rfl, rfl, ⟨h86, h16, by omega⟩, ?_⟩
            try dsimp only [cond_true, cond_false]
            rw [h96]
            repeat (conv => whnf
                    try dsimp only
                    try simp (decide := true) only [zu_same, zu_ne1, zu_ne2, zu_row, zuL_same, zuL_ne1, zuL_ne2, zrow_n1, zx0, zx1, zx2, zx3, nI_1, Nat.reduceAdd, Nat.reduceMul, Int32.reduceAdd, Int32.reduceSub, Int32.reduceMul]
                    first
                    | refine ⟨vp_inb (by decide), ?_⟩
                    | refine ⟨by with_reducible exact zi (by omega), ?_⟩
                    | refine ⟨fun h => absurd h (by with_reducible exact nI_ge (by omega) (by omega)), fun _ => ?_⟩
                    | refine ⟨fun _ => ?_, fun h => absurd (by with_reducible exact nI_le (by omega) (by omega)) h⟩
                    | refine ⟨fun h => absurd h (by with_reducible exact nI_nlt (by omega) (by omega)), fun _ => ?_⟩
                    | refine ⟨fun _ => ?_, fun h => absurd (by with_reducible exact nI_lt (by omega) (by omega)) h⟩
                    | refine ⟨fun h => absurd h (by with_reducible exact nI_pos (by omega)), fun _ => ?_⟩
                    | refine ⟨fun _ => ?_, fun h => absurd (by with_reducible exact nI_0le (by omega)) h⟩
                    | refine ⟨fun h => absurd h (by decide), fun _ => ?_⟩
                    | refine ⟨fun _ => ?_, fun h => absurd (by decide) h⟩
                    | refine ⟨fun _ => ?_, fun h => absurd h (by decide)⟩
                    | refine ⟨fun h => absurd (by decide) h, fun _ => ?_⟩
                    | refine ⟨by decide, ?_⟩
                    | refine ⟨rfl, ?_⟩)
            try (conv => whnf)
            refine ⟨(σ1, τ), rfl, rfl, trivial, ?_⟩
            try dsimp only [cond_true, cond_false]
            rintro _ _ ⟨rfl, σ2, rfl, f2, hj2⟩
            repeat (first
              | (conv => whnf
                 try dsimp only
                 try simp (decide := true) only [nI_clamp (show i < 2 ^ 31 by omega), zu_same, zu_ne1, zu_ne2, zu_row, zuL_same, zuL_ne1, zuL_ne2, zrow_n1, zx0, zx1, zx2, zx3, nI_1, Nat.reduceAdd, Nat.reduceMul, Int32.reduceAdd, Int32.reduceSub, Int32.reduceMul]
                 first
                 | refine ⟨vp_inb (by decide), ?_⟩
                 | refine ⟨by with_reducible exact zi (by omega), ?_⟩
                 | refine ⟨fun h => absurd h (by with_reducible exact nI_ge (by omega) (by omega)), fun _ => ?_⟩
                 | refine ⟨fun _ => ?_, fun h => absurd (by with_reducible exact nI_le (by omega) (by omega)) h⟩
                 | refine ⟨fun h => absurd h (by with_reducible exact nI_nlt (by omega) (by omega)), fun _ => ?_⟩
                 | refine ⟨fun _ => ?_, fun h => absurd (by with_reducible exact nI_lt (by omega) (by omega)) h⟩
                 | refine ⟨fun h => absurd h (by with_reducible exact nI_pos (by omega)), fun _ => ?_⟩
                 | refine ⟨fun _ => ?_, fun h => absurd (by with_reducible exact nI_0le (by omega)) h⟩
                 | refine ⟨fun h => absurd h (by decide), fun _ => ?_⟩
                 | refine ⟨fun _ => ?_, fun h => absurd (by decide) h⟩
                 | refine ⟨fun _ => ?_, fun h => absurd h (by decide)⟩
                 | refine ⟨fun h => absurd (by decide) h, fun _ => ?_⟩
                 | refine ⟨by decide, ?_⟩
                 | refine ⟨rfl, ?_⟩)
              | (conv => whnf
                 fail_if_success refine Exists.intro ?_ ?_
                 simp only [nI_clamp (show i < 2 ^ 31 by omega)]))
            try (conv => whnf)
            refine ⟨(_, _), rfl, rfl, trivial, ?_⟩
            try dsimp only [cond_true, cond_false]
            repeat (first
              | (conv => whnf
                 try dsimp only
                 try simp (decide := true) only [nI_clamp (show i < 2 ^ 31 by omega), zu_same, zu_ne1, zu_ne2, zu_row, zuL_same, zuL_ne1, zuL_ne2, zrow_n1, zx0, zx1, zx2, zx3, nI_1, Nat.reduceAdd, Nat.reduceMul, Int32.reduceAdd, Int32.reduceSub, Int32.reduceMul]
                 first
                 | refine ⟨vp_inb (by decide), ?_⟩
                 | refine ⟨by with_reducible exact zi (by omega), ?_⟩
                 | refine ⟨fun h => absurd h (by with_reducible exact nI_ge (by omega) (by omega)), fun _ => ?_⟩
                 | refine ⟨fun _ => ?_, fun h => absurd (by with_reducible exact nI_le (by omega) (by omega)) h⟩
                 | refine ⟨fun h => absurd h (by with_reducible exact nI_nlt (by omega) (by omega)), fun _ => ?_⟩
                 | refine ⟨fun _ => ?_, fun h => absurd (by with_reducible exact nI_lt (by omega) (by omega)) h⟩
                 | refine ⟨fun h => absurd h (by with_reducible exact nI_pos (by omega)), fun _ => ?_⟩
                 | refine ⟨fun _ => ?_, fun h => absurd (by with_reducible exact nI_0le (by omega)) h⟩
                 | refine ⟨fun h => absurd h (by decide), fun _ => ?_⟩
                 | refine ⟨fun _ => ?_, fun h => absurd (by decide) h⟩
                 | refine ⟨fun _ => ?_, fun h => absurd h (by decide)⟩
                 | refine ⟨fun h => absurd (by decide) h, fun _ => ?_⟩
                 | refine ⟨by decide, ?_⟩
                 | refine ⟨rfl, ?_⟩)
              | (conv => whnf
                 fail_if_success refine Exists.intro ?_ ?_
                 simp only [nI_clamp (show i < 2 ^ 31 by omega)]))
            try (conv => whnf)
            have hR : ∀ j, j < n → σ 96 j = pRe n (σ 88) (σ 85) j := fun j hj => (hor.1 j hj).2
            have eA : pAb (σ 96) i n = pAb (pRe n (σ 88) (σ 85)) i n := pAb_congr hR n (Nat.le_refl n)
            have g2 : ∀ r, r ≠ 101 → r < 107 ∨ 112 < r → σ2 r = σ r := fun r h1 h2 => (f2 r (by omega) (by omega)).trans (hfr r h1 h2)
            have gA : ∀ x, ∀ r, r < 101 → zu σ2 110 i x r = σ r := fun x r h => by rw [zu_row (by omega)]; exact g2 r (by omega) (by omega)
            have k2 : ∀ u, u < n → σ2 107 u = cF σ n (σ 89) u := fun u hu => by
              rw [(hj2 u (by omega)).2, hfr 103 (by decide) (by decide)]
              exact hso.1 u hu
            have s2 : ∀ j, j < n → σ2 110 j = σ 89 j := fun j hj => by rw [(hj2 j (by omega)).1, h89]
            have kb2 : ∀ x, ∀ u, u < n → kb (zu σ2 110 i x 107 u) := fun x u hu => by
              rw [zu_ne1 (by decide), (hj2 u (by omega)).2, hfr 103 (by decide) (by decide)]
              exact hI.2.2.2.2.2.1 u (by omega)
            refine ⟨(false, zu σ2 110 i (cUp σ i), τ, n, pc, pAb (σ 96) i n), rfl, rfl, ⟨cTu_cg (gA _) hI.1, kb2 _, (by rw [zMG_cg (gA _), gA _ 85 (by decide)]; exact hI.2.1), cOr_cg hor (fun r _ h => gA _ r (by omega)), (by rw [gA _ 87 (by decide), gA _ 16 (by decide)]; exact cI_nz hI)⟩, ?_⟩
            try dsimp only [cond_true, cond_false]
            rw [gA _ 88 (by decide), gA _ 85 (by decide), zMG_cg (gA _), zu_row (show (107 : Nat) ≠ 110 by decide), zu_row_eq]
            rintro _ _ ⟨rfl, σ3, rfl, f3, hsw3, hkb3, -⟩
            have v3 : ∀ u, u < n → σ3 107 u = cF σ n (sAt (σ 89) i (cUp σ i)) u := fun u hu => by
              rw [hsw3]
              exact cTry hI hin hu (fun w hw h1 _ => by rw [eA]; exact h1) (fun j hj _ => s2 j hj) (fun w hw _ _ => k2 w hw) u hu ((pBe_iff (by omega)).mpr (Or.inr rfl))
            repeat (conv => whnf
                    try dsimp only
                    try simp (decide := true) only [zu_same, zu_ne1, zu_ne2, zu_row, zuL_same, zuL_ne1, zuL_ne2, zrow_n1, zx0, zx1, zx2, zx3, nI_1, Nat.reduceAdd, Nat.reduceMul, Int32.reduceAdd, Int32.reduceSub, Int32.reduceMul]
                    first
                    | refine ⟨vp_inb (by decide), ?_⟩
                    | refine ⟨by with_reducible exact zi (by omega), ?_⟩
                    | refine ⟨fun h => absurd h (by with_reducible exact nI_ge (by omega) (by omega)), fun _ => ?_⟩
                    | refine ⟨fun _ => ?_, fun h => absurd (by with_reducible exact nI_le (by omega) (by omega)) h⟩
                    | refine ⟨fun h => absurd h (by with_reducible exact nI_nlt (by omega) (by omega)), fun _ => ?_⟩
                    | refine ⟨fun _ => ?_, fun h => absurd (by with_reducible exact nI_lt (by omega) (by omega)) h⟩
                    | refine ⟨fun h => absurd h (by with_reducible exact nI_pos (by omega)), fun _ => ?_⟩
                    | refine ⟨fun _ => ?_, fun h => absurd (by with_reducible exact nI_0le (by omega)) h⟩
                    | refine ⟨fun h => absurd h (by decide), fun _ => ?_⟩
                    | refine ⟨fun _ => ?_, fun h => absurd (by decide) h⟩
                    | refine ⟨fun _ => ?_, fun h => absurd h (by decide)⟩
                    | refine ⟨fun h => absurd (by decide) h, fun _ => ?_⟩
                    | refine ⟨by decide, ?_⟩
                    | refine ⟨rfl, ?_⟩)
            try (conv => whnf)
            refine ⟨_, _, _, _, _, _, _, rfl, rfl, rfl, ⟨by decide, by decide, by decide, by decide, by decide⟩, ?_⟩
            repeat (first
              | (conv => whnf
                 try dsimp only
                 try simp (decide := true) only [nI_clamp (show i < 2 ^ 31 by omega), zu_same, zu_ne1, zu_ne2, zu_row, zuL_same, zuL_ne1, zuL_ne2, zrow_n1, zx0, zx1, zx2, zx3, nI_1, Nat.reduceAdd, Nat.reduceMul, Int32.reduceAdd, Int32.reduceSub, Int32.reduceMul]
                 first
                 | refine ⟨vp_inb (by decide), ?_⟩
                 | refine ⟨by with_reducible exact zi (by omega), ?_⟩
                 | refine ⟨fun h => absurd h (by with_reducible exact nI_ge (by omega) (by omega)), fun _ => ?_⟩
                 | refine ⟨fun _ => ?_, fun h => absurd (by with_reducible exact nI_le (by omega) (by omega)) h⟩
                 | refine ⟨fun h => absurd h (by with_reducible exact nI_nlt (by omega) (by omega)), fun _ => ?_⟩
                 | refine ⟨fun _ => ?_, fun h => absurd (by with_reducible exact nI_lt (by omega) (by omega)) h⟩
                 | refine ⟨fun h => absurd h (by with_reducible exact nI_pos (by omega)), fun _ => ?_⟩
                 | refine ⟨fun _ => ?_, fun h => absurd (by with_reducible exact nI_0le (by omega)) h⟩
                 | refine ⟨fun h => absurd h (by decide), fun _ => ?_⟩
                 | refine ⟨fun _ => ?_, fun h => absurd (by decide) h⟩
                 | refine ⟨fun _ => ?_, fun h => absurd h (by decide)⟩
                 | refine ⟨fun h => absurd (by decide) h, fun _ => ?_⟩
                 | refine ⟨by decide, ?_⟩
                 | refine ⟨rfl, ?_⟩)
              | (conv => whnf
                 fail_if_success refine Exists.intro ?_ ?_
                 simp only [nI_clamp (show i < 2 ^ 31 by omega)]))
            try (conv => whnf)
            refine ⟨(_, _), rfl, rfl, trivial, ?_⟩
            try dsimp only [cond_true, cond_false]
            repeat (first
              | (conv => whnf
                 try dsimp only
                 try simp (decide := true) only [nI_clamp (show i < 2 ^ 31 by omega), zu_same, zu_ne1, zu_ne2, zu_row, zuL_same, zuL_ne1, zuL_ne2, zrow_n1, zx0, zx1, zx2, zx3, nI_1, Nat.reduceAdd, Nat.reduceMul, Int32.reduceAdd, Int32.reduceSub, Int32.reduceMul]
                 first
                 | refine ⟨vp_inb (by decide), ?_⟩
                 | refine ⟨by with_reducible exact zi (by omega), ?_⟩
                 | refine ⟨fun h => absurd h (by with_reducible exact nI_ge (by omega) (by omega)), fun _ => ?_⟩
                 | refine ⟨fun _ => ?_, fun h => absurd (by with_reducible exact nI_le (by omega) (by omega)) h⟩
                 | refine ⟨fun h => absurd h (by with_reducible exact nI_nlt (by omega) (by omega)), fun _ => ?_⟩
                 | refine ⟨fun _ => ?_, fun h => absurd (by with_reducible exact nI_lt (by omega) (by omega)) h⟩
                 | refine ⟨fun h => absurd h (by with_reducible exact nI_pos (by omega)), fun _ => ?_⟩
                 | refine ⟨fun _ => ?_, fun h => absurd (by with_reducible exact nI_0le (by omega)) h⟩
                 | refine ⟨fun h => absurd h (by decide), fun _ => ?_⟩
                 | refine ⟨fun _ => ?_, fun h => absurd (by decide) h⟩
                 | refine ⟨fun _ => ?_, fun h => absurd h (by decide)⟩
                 | refine ⟨fun h => absurd (by decide) h, fun _ => ?_⟩
                 | refine ⟨by decide, ?_⟩
                 | refine ⟨rfl, ?_⟩)
              | (conv => whnf
                 fail_if_success refine Exists.intro ?_ ?_
                 simp only [nI_clamp (show i < 2 ^ 31 by omega)]))
            try (conv => whnf)
            have w4 : ∀ u, u < 16 → va_cpy (σ3 107) (σ3 111) 0 0 (Int32.toNatClampNeg 16) u = σ3 107 u := fun u hu => by
              show (if 0 ≤ u ∧ u < 0 + 16 then σ3 107 (0 + (u - 0)) else _) = _
              rw [if_pos ⟨Nat.zero_le u, by omega⟩, Nat.zero_add, Nat.sub_zero]
            generalize va_cpy (σ3 107) (σ3 111) 0 0 (Int32.toNatClampNeg 16) = Y4 at w4 ⊢
            have f3' : ∀ r, r ≠ 101 → r < 107 ∨ 112 < r → σ3 r = σ r := fun r h1 h2 => by rw [f3 r h1 (by omega) (by omega) (by omega), zu_row (by omega)]; exact g2 r h1 h2
            have gB : ∀ x, ∀ r, r < 101 → zu (zrow σ3 111 Y4) 110 i x r = σ r := fun x r h => by rw [zu_row (by omega), zrow_ne (by omega)]; exact f3' r (by omega) (by omega)
            have r107 : ∀ x, zu (zrow σ3 111 Y4) 110 i x 107 = σ3 107 := fun x => by rw [zu_row (by decide), zrow_ne (by decide)]
            have r110 : ∀ j, zrow σ3 111 Y4 110 j = if j = i then cUp σ i else σ2 110 j := fun j => by
              rw [zrow_n1 (by decide), f3 110 (by decide) (by decide) (by decide) (by decide), zu_row_eq]
            refine ⟨(false, zu (zrow σ3 111 Y4) 110 i (cDn σ i), τ, n, pc, pAb (σ 96) i n), rfl, rfl, ⟨cTu_cg (gB _) hI.1, (by (try dsimp only [cond_true, cond_false]); rw [r107]; exact hkb3), (by rw [zMG_cg (gB _), gB _ 85 (by decide)]; exact hI.2.1), cOr_cg hor (fun r _ h => gB _ r (by omega)), (by rw [gB _ 87 (by decide), gB _ 16 (by decide)]; exact cI_nz hI)⟩, ?_⟩
            try dsimp only [cond_true, cond_false]
            rw [gB _ 88 (by decide), gB _ 85 (by decide), zMG_cg (gB _), r107, zu_row_eq]
            rintro _ _ ⟨rfl, σ6, rfl, f6, hsw6, hkb6, -⟩
            have v6 : ∀ u, u < n → σ6 107 u = cF σ n (sAt (σ 89) i (cDn σ i)) u := fun u hu => by
              rw [hsw6]
              refine cTry hI hin hu (fun w hw h1 _ => by rw [eA]; exact h1) (fun j hj hji => by rw [r110, if_neg hji]; exact s2 j hj) (fun w hw _ hna => ?_) u hu ((pBe_iff (by omega)).mpr (Or.inr rfl))
              rw [v3 w hw]
              exact pF_na hI.2.1 hin hw (fun j hj hji => if_neg hji) hna
            have f6' : ∀ r, r ≠ 101 → r < 107 ∨ 112 < r → σ6 r = σ r := fun r h1 h2 => by rw [f6 r h1 (by omega) (by omega) (by omega), zu_row (by omega), zrow_ne (by omega)]; exact f3' r h1 h2
            have e112 : σ6 112 = σ1 112 := by rw [f6 112 (by decide) (by decide) (by decide) (by decide), zu_row (by decide), zrow_ne (by decide), f3 112 (by decide) (by decide) (by decide) (by decide), zu_row (by decide), f2 112 (by decide) (by decide)]
            have v111 : ∀ u, u < n → σ6 111 u = cF σ n (sAt (σ 89) i (cUp σ i)) u := fun u hu => by
              rw [f6 111 (by decide) (by decide) (by decide) (by decide), zu_row (by decide), zrow_self, w4 u (by omega)]
              exact v3 u hu
            repeat (conv => whnf
                    try dsimp only
                    try simp (decide := true) only [zu_same, zu_ne1, zu_ne2, zu_row, zuL_same, zuL_ne1, zuL_ne2, zrow_n1, zx0, zx1, zx2, zx3, nI_1, Nat.reduceAdd, Nat.reduceMul, Int32.reduceAdd, Int32.reduceSub, Int32.reduceMul]
                    first
                    | refine ⟨vp_inb (by decide), ?_⟩
                    | refine ⟨by with_reducible exact zi (by omega), ?_⟩
                    | refine ⟨fun h => absurd h (by with_reducible exact nI_ge (by omega) (by omega)), fun _ => ?_⟩
                    | refine ⟨fun _ => ?_, fun h => absurd (by with_reducible exact nI_le (by omega) (by omega)) h⟩
                    | refine ⟨fun h => absurd h (by with_reducible exact nI_nlt (by omega) (by omega)), fun _ => ?_⟩
                    | refine ⟨fun _ => ?_, fun h => absurd (by with_reducible exact nI_lt (by omega) (by omega)) h⟩
                    | refine ⟨fun h => absurd h (by with_reducible exact nI_pos (by omega)), fun _ => ?_⟩
                    | refine ⟨fun _ => ?_, fun h => absurd (by with_reducible exact nI_0le (by omega)) h⟩
                    | refine ⟨fun h => absurd h (by decide), fun _ => ?_⟩
                    | refine ⟨fun _ => ?_, fun h => absurd (by decide) h⟩
                    | refine ⟨fun _ => ?_, fun h => absurd h (by decide)⟩
                    | refine ⟨fun h => absurd (by decide) h, fun _ => ?_⟩
                    | refine ⟨by decide, ?_⟩
                    | refine ⟨rfl, ?_⟩)
            try (conv => whnf)
            refine ⟨(σ6, τ, n, i), rfl, rfl, ⟨(by rw [f6' 86 (by decide) (by decide)]; exact hn), h16⟩, ?_⟩
            try dsimp only [cond_true, cond_false]
            repeat (conv => whnf
                    try dsimp only
                    try simp (decide := true) only [zu_same, zu_ne1, zu_ne2, zu_row, zuL_same, zuL_ne1, zuL_ne2, zrow_n1, zx0, zx1, zx2, zx3, nI_1, Nat.reduceAdd, Nat.reduceMul, Int32.reduceAdd, Int32.reduceSub, Int32.reduceMul]
                    first
                    | refine ⟨vp_inb (by decide), ?_⟩
                    | refine ⟨by with_reducible exact zi (by omega), ?_⟩
                    | refine ⟨fun h => absurd h (by with_reducible exact nI_ge (by omega) (by omega)), fun _ => ?_⟩
                    | refine ⟨fun _ => ?_, fun h => absurd (by with_reducible exact nI_le (by omega) (by omega)) h⟩
                    | refine ⟨fun h => absurd h (by with_reducible exact nI_nlt (by omega) (by omega)), fun _ => ?_⟩
                    | refine ⟨fun _ => ?_, fun h => absurd (by with_reducible exact nI_lt (by omega) (by omega)) h⟩
                    | refine ⟨fun h => absurd h (by with_reducible exact nI_pos (by omega)), fun _ => ?_⟩
                    | refine ⟨fun _ => ?_, fun h => absurd (by with_reducible exact nI_0le (by omega)) h⟩
                    | refine ⟨fun h => absurd h (by decide), fun _ => ?_⟩
                    | refine ⟨fun _ => ?_, fun h => absurd (by decide) h⟩
                    | refine ⟨fun _ => ?_, fun h => absurd h (by decide)⟩
                    | refine ⟨fun h => absurd (by decide) h, fun _ => ?_⟩
                    | refine ⟨by decide, ?_⟩
                    | refine ⟨rfl, ?_⟩)
            try (conv => whnf)
            try dsimp only
            try simp (decide := true) only [zu_same, zu_ne1, zu_ne2, zu_row, zuL_same, zuL_ne1, zuL_ne2, zrow_n1, zx0, zx1, zx2, zx3, nI_1, Nat.reduceAdd, Nat.reduceMul, Int32.reduceAdd, Int32.reduceSub, Int32.reduceMul]
            refine ih (i + 1) _ _ _ _ (by omega) (fun r h1 h2 => by rw [zrow_ne (by omega)]; exact f6' r h1 h2) (fun v hv j => ?_)
            rw [zrow_self]
            unfold pNm2
            rw [e112, v111 v hv, v6 v hv]
            have hM' := hM v hv j
            by_cases hs : fSh (cF σ n (sAt (σ 89) i (cUp σ i)) v) = fSh (cF σ n (sAt (σ 89) i (cDn σ i)) v)
            · rw [if_neg (fun q => q.2 hs), hM']
              exact ⟨fun q => ⟨by omega, q.2⟩, fun q => ⟨by
                have : j ≠ i := fun e => by
                  rw [e] at q
                  exact q.2.2 hs
                omega, q.2⟩⟩
            · rw [if_pos ⟨hv, hs⟩, bt_or, bt_one (by omega), Bool.or_eq_true, decide_eq_true_eq, hM']
              constructor
              · rintro (q | q)
                · exact ⟨by omega, q.2⟩
                · rw [q]
                  exact ⟨by omega, hc, hs⟩
              · intro q
                by_cases e : j = i
                · exact Or.inr e
                · exact Or.inl ⟨by omega, q.2⟩
          · rw [if_neg (show ¬ σ1 88 (nI i).toNatClampNeg < 0 by rw [nI_clamp (by omega), h88]; exact hc)]
            repeat (first
              | (conv => whnf
                 try dsimp only
                 try simp (decide := true) only [h86, zu_same, zu_ne1, zu_ne2, zu_row, zuL_same, zuL_ne1, zuL_ne2, zrow_n1, zx0, zx1, zx2, zx3, nI_1, Nat.reduceAdd, Nat.reduceMul, Int32.reduceAdd, Int32.reduceSub, Int32.reduceMul]
                 first
                 | refine ⟨vp_inb (by decide), ?_⟩
                 | refine ⟨by with_reducible exact zi (by omega), ?_⟩
                 | refine ⟨fun h => absurd h (by with_reducible exact nI_ge (by omega) (by omega)), fun _ => ?_⟩
                 | refine ⟨fun _ => ?_, fun h => absurd (by with_reducible exact nI_le (by omega) (by omega)) h⟩
                 | refine ⟨fun h => absurd h (by with_reducible exact nI_nlt (by omega) (by omega)), fun _ => ?_⟩
                 | refine ⟨fun _ => ?_, fun h => absurd (by with_reducible exact nI_lt (by omega) (by omega)) h⟩
                 | refine ⟨fun h => absurd h (by with_reducible exact nI_pos (by omega)), fun _ => ?_⟩
                 | refine ⟨fun _ => ?_, fun h => absurd (by with_reducible exact nI_0le (by omega)) h⟩
                 | refine ⟨fun h => absurd h (by decide), fun _ => ?_⟩
                 | refine ⟨fun _ => ?_, fun h => absurd (by decide) h⟩
                 | refine ⟨fun _ => ?_, fun h => absurd h (by decide)⟩
                 | refine ⟨fun h => absurd (by decide) h, fun _ => ?_⟩
                 | refine ⟨by decide, ?_⟩
                 | refine ⟨rfl, ?_⟩)
              | (conv => whnf
                 fail_if_success refine Exists.intro ?_ ?_
                 simp only [h86]))
            try (conv => whnf)
            try dsimp only
            try simp (decide := true) only [zu_same, zu_ne1, zu_ne2, zu_row, zuL_same, zuL_ne1, zuL_ne2, zrow_n1, zx0, zx1, zx2, zx3, nI_1, Nat.reduceAdd, Nat.reduceMul, Int32.reduceAdd, Int32.reduceSub, Int32.reduceMul]
            refine ih (i + 1) σ1 _ _ _ (by omega) hfr (fun v hv j => (hM v hv j).trans ⟨fun q => ⟨by omega, q.2⟩, fun q => ⟨?_, q.2⟩⟩)
            have : j ≠ i := fun e => hc (by rw [← e]; exact q.2.1)
            omega
      have loop1 : ∀ (f v : Nat) (σ1 : zIn), v + f = n → (∀ r, r ≠ 112 → σ1 r = σ r) → (∀ u, u < v → σ1 112 u = 0) → Gl 10 [some (.ref 0), some (.int (nI v)), none, none, none] [] (0, 0) (119, zSH, zRH, σ1, τ) := by
        intro f
        induction f with
        | zero =>
          intro v σ1 hv hfr hz
          have h86 : σ1 86 3 = nI n := by rw [hfr 86 (by decide)]; exact hn
          rw [show v = n by omega] at hz ⊢
          refine hG 40 _ _ _ _ _ ?_
          repeat (first
            | (conv => whnf
               try dsimp only
               try simp (decide := true) only [h86, zu_same, zu_ne1, zu_ne2, zu_row, zuL_same, zuL_ne1, zuL_ne2, zrow_n1, zx0, zx1, zx2, zx3, nI_1, Nat.reduceAdd, Nat.reduceMul, Int32.reduceAdd, Int32.reduceSub, Int32.reduceMul]
               first
               | refine ⟨vp_inb (by decide), ?_⟩
               | refine ⟨by with_reducible exact zi (by omega), ?_⟩
               | refine ⟨fun h => absurd h (by with_reducible exact nI_ge (by omega) (by omega)), fun _ => ?_⟩
               | refine ⟨fun _ => ?_, fun h => absurd (by with_reducible exact nI_le (by omega) (by omega)) h⟩
               | refine ⟨fun h => absurd h (by with_reducible exact nI_nlt (by omega) (by omega)), fun _ => ?_⟩
               | refine ⟨fun _ => ?_, fun h => absurd (by with_reducible exact nI_lt (by omega) (by omega)) h⟩
               | refine ⟨fun h => absurd h (by with_reducible exact nI_pos (by omega)), fun _ => ?_⟩
               | refine ⟨fun _ => ?_, fun h => absurd (by with_reducible exact nI_0le (by omega)) h⟩
               | refine ⟨fun h => absurd h (by decide), fun _ => ?_⟩
               | refine ⟨fun _ => ?_, fun h => absurd (by decide) h⟩
               | refine ⟨fun _ => ?_, fun h => absurd h (by decide)⟩
               | refine ⟨fun h => absurd (by decide) h, fun _ => ?_⟩
               | refine ⟨by decide, ?_⟩
               | refine ⟨rfl, ?_⟩)
            | (conv => whnf
               fail_if_success refine Exists.intro ?_ ?_
               simp only [h86]))
          try (conv => whnf)
          try dsimp only
          try simp (decide := true) only [zu_same, zu_ne1, zu_ne2, zu_row, zuL_same, zuL_ne1, zuL_ne2, zrow_n1, zx0, zx1, zx2, zx3, nI_1, Nat.reduceAdd, Nat.reduceMul, Int32.reduceAdd, Int32.reduceSub, Int32.reduceMul]
          refine loop2 n 0 σ1 none none none (by omega) (fun r h1 h2 => hfr r (by omega)) (fun v hv j => ?_)
          rw [hz v hv, bt_zero]
          exact ⟨fun q => (by cases q), fun q => absurd q.1 (Nat.not_lt_zero j)⟩
        | succ f ih =>
          intro v σ1 hv hfr hz
          have h86 : σ1 86 3 = nI n := by rw [hfr 86 (by decide)]; exact hn
          refine hG 40 _ _ _ _ _ ?_
          repeat (first
            | (conv => whnf
               try dsimp only
               try simp (decide := true) only [h86, nI_clamp (show v < 2 ^ 31 by omega), zu_same, zu_ne1, zu_ne2, zu_row, zuL_same, zuL_ne1, zuL_ne2, zrow_n1, zx0, zx1, zx2, zx3, nI_1, Nat.reduceAdd, Nat.reduceMul, Int32.reduceAdd, Int32.reduceSub, Int32.reduceMul]
               first
               | refine ⟨vp_inb (by decide), ?_⟩
               | refine ⟨by with_reducible exact zi (by omega), ?_⟩
               | refine ⟨fun h => absurd h (by with_reducible exact nI_ge (by omega) (by omega)), fun _ => ?_⟩
               | refine ⟨fun _ => ?_, fun h => absurd (by with_reducible exact nI_le (by omega) (by omega)) h⟩
               | refine ⟨fun h => absurd h (by with_reducible exact nI_nlt (by omega) (by omega)), fun _ => ?_⟩
               | refine ⟨fun _ => ?_, fun h => absurd (by with_reducible exact nI_lt (by omega) (by omega)) h⟩
               | refine ⟨fun h => absurd h (by with_reducible exact nI_pos (by omega)), fun _ => ?_⟩
               | refine ⟨fun _ => ?_, fun h => absurd (by with_reducible exact nI_0le (by omega)) h⟩
               | refine ⟨fun h => absurd h (by decide), fun _ => ?_⟩
               | refine ⟨fun _ => ?_, fun h => absurd (by decide) h⟩
               | refine ⟨fun _ => ?_, fun h => absurd h (by decide)⟩
               | refine ⟨fun h => absurd (by decide) h, fun _ => ?_⟩
               | refine ⟨by decide, ?_⟩
               | refine ⟨rfl, ?_⟩)
            | (conv => whnf
               fail_if_success refine Exists.intro ?_ ?_
               simp only [h86, nI_clamp (show v < 2 ^ 31 by omega)]))
          try (conv => whnf)
          try dsimp only
          try simp (decide := true) only [zu_same, zu_ne1, zu_ne2, zu_row, zuL_same, zuL_ne1, zuL_ne2, zrow_n1, zx0, zx1, zx2, zx3, nI_1, Nat.reduceAdd, Nat.reduceMul, Int32.reduceAdd, Int32.reduceSub, Int32.reduceMul]
          refine ih (v + 1) _ (by omega) (fun r h => by rw [zu_row h]; exact hfr r h) (fun u hu => ?_)
          by_cases e : u = v
          · rw [e]
            exact zu_same
          · rw [zu_ne2 e]
            exact hz u (by omega)
      refine hG 40 _ _ _ _ _ ?_
      repeat (first
        | (conv => whnf
           try dsimp only
           try simp (decide := true) only [h15, zu_same, zu_ne1, zu_ne2, zu_row, zuL_same, zuL_ne1, zuL_ne2, zrow_n1, zx0, zx1, zx2, zx3, nI_1, Nat.reduceAdd, Nat.reduceMul, Int32.reduceAdd, Int32.reduceSub, Int32.reduceMul]
           first
           | refine ⟨vp_inb (by decide), ?_⟩
           | refine ⟨by with_reducible exact zi (by omega), ?_⟩
           | refine ⟨fun h => absurd h (by with_reducible exact nI_ge (by omega) (by omega)), fun _ => ?_⟩
           | refine ⟨fun _ => ?_, fun h => absurd (by with_reducible exact nI_le (by omega) (by omega)) h⟩
           | refine ⟨fun h => absurd h (by with_reducible exact nI_nlt (by omega) (by omega)), fun _ => ?_⟩
           | refine ⟨fun _ => ?_, fun h => absurd (by with_reducible exact nI_lt (by omega) (by omega)) h⟩
           | refine ⟨fun h => absurd h (by with_reducible exact nI_pos (by omega)), fun _ => ?_⟩
           | refine ⟨fun _ => ?_, fun h => absurd (by with_reducible exact nI_0le (by omega)) h⟩
           | refine ⟨fun h => absurd h (by decide), fun _ => ?_⟩
           | refine ⟨fun _ => ?_, fun h => absurd (by decide) h⟩
           | refine ⟨fun _ => ?_, fun h => absurd h (by decide)⟩
           | refine ⟨fun h => absurd (by decide) h, fun _ => ?_⟩
           | refine ⟨by decide, ?_⟩
           | refine ⟨rfl, ?_⟩)
        | (conv => whnf
           fail_if_success refine Exists.intro ?_ ?_
           simp only [h15]))
      try (conv => whnf)
      exact loop1 n 0 σ (by omega) (fun _ _ => rfl) (fun u hu => absurd hu (Nat.not_lt_zero u))
    · refine hG 40 _ _ _ _ _ ?_
      repeat (first
        | (conv => whnf
           try dsimp only
           try simp (decide := true) only [h15.1, zu_same, zu_ne1, zu_ne2, zu_row, zuL_same, zuL_ne1, zuL_ne2, zrow_n1, zx0, zx1, zx2, zx3, nI_1, Nat.reduceAdd, Nat.reduceMul, Int32.reduceAdd, Int32.reduceSub, Int32.reduceMul]
           first
           | refine ⟨vp_inb (by decide), ?_⟩
           | refine ⟨by with_reducible exact zi (by omega), ?_⟩
           | refine ⟨fun h => absurd h (by with_reducible exact nI_ge (by omega) (by omega)), fun _ => ?_⟩
           | refine ⟨fun _ => ?_, fun h => absurd (by with_reducible exact nI_le (by omega) (by omega)) h⟩
           | refine ⟨fun h => absurd h (by with_reducible exact nI_nlt (by omega) (by omega)), fun _ => ?_⟩
           | refine ⟨fun _ => ?_, fun h => absurd (by with_reducible exact nI_lt (by omega) (by omega)) h⟩
           | refine ⟨fun h => absurd h (by with_reducible exact nI_pos (by omega)), fun _ => ?_⟩
           | refine ⟨fun _ => ?_, fun h => absurd (by with_reducible exact nI_0le (by omega)) h⟩
           | refine ⟨fun h => absurd h (by decide), fun _ => ?_⟩
           | refine ⟨fun _ => ?_, fun h => absurd (by decide) h⟩
           | refine ⟨fun _ => ?_, fun h => absurd h (by decide)⟩
           | refine ⟨fun h => absurd (by decide) h, fun _ => ?_⟩
           | refine ⟨by decide, ?_⟩
           | refine ⟨rfl, ?_⟩)
        | (conv => whnf
           fail_if_success refine Exists.intro ?_ ?_
           simp only [h15.1]))
      try (conv => whnf)
      exact hK _ _ ⟨rfl, σ, rfl, hF, hI, fun _ _ _ _ => rfl, fun _ _ => rfl, h15.1, fun _ => rfl⟩
def pTc (σ : zIn) (k w : Nat) : Int32 := if w = 0 then σ 97 k else if w = 1 then (if σ 99 k = 0 then 0 else 1) else if w = 2 then σ 104 k else (if σ 105 k = 0 then 0 else 1)
def spX7_toldOfCircle : zSp := zD (X := zIn × zLo × Nat × Nat) (fun x => match x with | (σ, τ, k, w) => [.ref 0, .int (nI k), .int (nI w)]) (fun x => match x with | (σ, τ, k, w) => (119, zSH, zRH, σ, τ)) (fun x => match x with | (σ, τ, k, w) => k < 16 ∧ w < 4) (fun x => match x with | (σ, τ, k, w) => some (.int (pTc σ k w))) (fun x => match x with | (σ, τ, k, w) => (119, zSH, zRH, σ, τ))
abbrev rmX7_toldOfCircle : Room := ({ frames := 0, cells := 0, slots := 0, locals := 0 } : Room)
set_option maxRecDepth 100000 in
set_option maxHeartbeats 4000000 in
theorem ctX7_toldOfCircle (l : Launch) (D : va_G) (cA : Nat → ClassId) : zCt false l D cA yX7_toldOfCircle cX7_toldOfCircle 3 (some .int) rmX7_toldOfCircle spX7_toldOfCircle := by
  refine zct_D (zCX7_toldOfCircle []) zpX7_toldOfCircle [] (by decide +kernel) zkX7_toldOfCircle (Or.inr (by decide +kernel)) trivial ⟨by decide +kernel, by decide +kernel⟩ (fun x ad => Nat.le_of_ble_eq_true rfl) ?_ ?_
  · intro p e s m args below meth c A H0 ad0 n0 Q F hml hNw hA hX
    exact trivial
  · rintro ⟨σ, τ, k, w⟩ Ret hP hK Gl hG
    try dsimp only at hP hK
    show Gl 0 (zent 3 [.ref 0, .int (nI k), .int (nI w)]) [] (0, 0) ((119, zSH, zRH, σ, τ))
    obtain ⟨hk, hw⟩ := hP
    rcases (show w = 0 ∨ w = 1 ∨ w = 2 ∨ w = 3 by omega) with rfl | rfl | rfl | rfl
    · rw [show pTc σ k 0 = σ 97 k from rfl] at hK
      refine hG 100 _ _ _ _ _ ?_
      repeat (conv => whnf
              try dsimp only
              try simp (decide := true) only [zu_same, zu_ne1, zu_ne2, zu_row, zuL_same, zuL_ne1, zuL_ne2, zrow_n1, zx0, zx1, zx2, zx3, nI_1, Nat.reduceAdd, Nat.reduceMul, Int32.reduceAdd, Int32.reduceSub, Int32.reduceMul]
              first
              | refine ⟨vp_inb (by decide), ?_⟩
              | refine ⟨by with_reducible exact zi (by omega), ?_⟩
              | refine ⟨fun h => absurd h (by with_reducible exact nI_ge (by omega) (by omega)), fun _ => ?_⟩
              | refine ⟨fun _ => ?_, fun h => absurd (by with_reducible exact nI_le (by omega) (by omega)) h⟩
              | refine ⟨fun h => absurd h (by with_reducible exact nI_nlt (by omega) (by omega)), fun _ => ?_⟩
              | refine ⟨fun _ => ?_, fun h => absurd (by with_reducible exact nI_lt (by omega) (by omega)) h⟩
              | refine ⟨fun h => absurd h (by with_reducible exact nI_pos (by omega)), fun _ => ?_⟩
              | refine ⟨fun _ => ?_, fun h => absurd (by with_reducible exact nI_0le (by omega)) h⟩
              | refine ⟨fun h => absurd h (by decide), fun _ => ?_⟩
              | refine ⟨fun _ => ?_, fun h => absurd (by decide) h⟩
              | refine ⟨fun _ => ?_, fun h => absurd h (by decide)⟩
              | refine ⟨fun h => absurd (by decide) h, fun _ => ?_⟩
              | refine ⟨by decide, ?_⟩
              | refine ⟨rfl, ?_⟩)
      try (conv => whnf)
      refine ⟨fun w => absurd w (by decide), zsw_one _ _ 0 28 rfl rfl ?_⟩
      repeat (first
        | (conv => whnf
           try dsimp only
           try simp (decide := true) only [nI_clamp (show k < 2 ^ 31 by omega), zu_same, zu_ne1, zu_ne2, zu_row, zuL_same, zuL_ne1, zuL_ne2, zrow_n1, zx0, zx1, zx2, zx3, nI_1, Nat.reduceAdd, Nat.reduceMul, Int32.reduceAdd, Int32.reduceSub, Int32.reduceMul]
           first
           | refine ⟨vp_inb (by decide), ?_⟩
           | refine ⟨by with_reducible exact zi (by omega), ?_⟩
           | refine ⟨fun h => absurd h (by with_reducible exact nI_ge (by omega) (by omega)), fun _ => ?_⟩
           | refine ⟨fun _ => ?_, fun h => absurd (by with_reducible exact nI_le (by omega) (by omega)) h⟩
           | refine ⟨fun h => absurd h (by with_reducible exact nI_nlt (by omega) (by omega)), fun _ => ?_⟩
           | refine ⟨fun _ => ?_, fun h => absurd (by with_reducible exact nI_lt (by omega) (by omega)) h⟩
           | refine ⟨fun h => absurd h (by with_reducible exact nI_pos (by omega)), fun _ => ?_⟩
           | refine ⟨fun _ => ?_, fun h => absurd (by with_reducible exact nI_0le (by omega)) h⟩
           | refine ⟨fun h => absurd h (by decide), fun _ => ?_⟩
           | refine ⟨fun _ => ?_, fun h => absurd (by decide) h⟩
           | refine ⟨fun _ => ?_, fun h => absurd h (by decide)⟩
           | refine ⟨fun h => absurd (by decide) h, fun _ => ?_⟩
           | refine ⟨by decide, ?_⟩
           | refine ⟨rfl, ?_⟩)
        | (conv => whnf
           fail_if_success refine Exists.intro ?_ ?_
           simp only [nI_clamp (show k < 2 ^ 31 by omega)]))
      try (conv => whnf)
      exact hK
    · rw [show pTc σ k 1 = if σ 99 k = 0 then 0 else 1 from rfl] at hK
      refine hG 100 _ _ _ _ _ ?_
      repeat (conv => whnf
              try dsimp only
              try simp (decide := true) only [zu_same, zu_ne1, zu_ne2, zu_row, zuL_same, zuL_ne1, zuL_ne2, zrow_n1, zx0, zx1, zx2, zx3, nI_1, Nat.reduceAdd, Nat.reduceMul, Int32.reduceAdd, Int32.reduceSub, Int32.reduceMul]
              first
              | refine ⟨vp_inb (by decide), ?_⟩
              | refine ⟨by with_reducible exact zi (by omega), ?_⟩
              | refine ⟨fun h => absurd h (by with_reducible exact nI_ge (by omega) (by omega)), fun _ => ?_⟩
              | refine ⟨fun _ => ?_, fun h => absurd (by with_reducible exact nI_le (by omega) (by omega)) h⟩
              | refine ⟨fun h => absurd h (by with_reducible exact nI_nlt (by omega) (by omega)), fun _ => ?_⟩
              | refine ⟨fun _ => ?_, fun h => absurd (by with_reducible exact nI_lt (by omega) (by omega)) h⟩
              | refine ⟨fun h => absurd h (by with_reducible exact nI_pos (by omega)), fun _ => ?_⟩
              | refine ⟨fun _ => ?_, fun h => absurd (by with_reducible exact nI_0le (by omega)) h⟩
              | refine ⟨fun h => absurd h (by decide), fun _ => ?_⟩
              | refine ⟨fun _ => ?_, fun h => absurd (by decide) h⟩
              | refine ⟨fun _ => ?_, fun h => absurd h (by decide)⟩
              | refine ⟨fun h => absurd (by decide) h, fun _ => ?_⟩
              | refine ⟨by decide, ?_⟩
              | refine ⟨rfl, ?_⟩)
      try (conv => whnf)
      refine ⟨fun w => absurd w (by decide), zsw_one _ _ 1 38 rfl rfl ?_⟩
      repeat (first
        | (conv => whnf
           try dsimp only
           try simp (decide := true) only [nI_clamp (show k < 2 ^ 31 by omega), zu_same, zu_ne1, zu_ne2, zu_row, zuL_same, zuL_ne1, zuL_ne2, zrow_n1, zx0, zx1, zx2, zx3, nI_1, Nat.reduceAdd, Nat.reduceMul, Int32.reduceAdd, Int32.reduceSub, Int32.reduceMul]
           first
           | refine ⟨vp_inb (by decide), ?_⟩
           | refine ⟨by with_reducible exact zi (by omega), ?_⟩
           | refine ⟨fun h => absurd h (by with_reducible exact nI_ge (by omega) (by omega)), fun _ => ?_⟩
           | refine ⟨fun _ => ?_, fun h => absurd (by with_reducible exact nI_le (by omega) (by omega)) h⟩
           | refine ⟨fun h => absurd h (by with_reducible exact nI_nlt (by omega) (by omega)), fun _ => ?_⟩
           | refine ⟨fun _ => ?_, fun h => absurd (by with_reducible exact nI_lt (by omega) (by omega)) h⟩
           | refine ⟨fun h => absurd h (by with_reducible exact nI_pos (by omega)), fun _ => ?_⟩
           | refine ⟨fun _ => ?_, fun h => absurd (by with_reducible exact nI_0le (by omega)) h⟩
           | refine ⟨fun h => absurd h (by decide), fun _ => ?_⟩
           | refine ⟨fun _ => ?_, fun h => absurd (by decide) h⟩
           | refine ⟨fun _ => ?_, fun h => absurd h (by decide)⟩
           | refine ⟨fun h => absurd (by decide) h, fun _ => ?_⟩
           | refine ⟨by decide, ?_⟩
           | refine ⟨rfl, ?_⟩)
        | (conv => whnf
           fail_if_success refine Exists.intro ?_ ?_
           simp only [nI_clamp (show k < 2 ^ 31 by omega)]))
      try (conv => whnf)
      refine ⟨fun h => ?_, fun h => ?_⟩
      · rw [if_pos h] at hK
        repeat (conv => whnf
                try dsimp only
                try simp (decide := true) only [zu_same, zu_ne1, zu_ne2, zu_row, zuL_same, zuL_ne1, zuL_ne2, zrow_n1, zx0, zx1, zx2, zx3, nI_1, Nat.reduceAdd, Nat.reduceMul, Int32.reduceAdd, Int32.reduceSub, Int32.reduceMul]
                first
                | refine ⟨vp_inb (by decide), ?_⟩
                | refine ⟨by with_reducible exact zi (by omega), ?_⟩
                | refine ⟨fun h => absurd h (by with_reducible exact nI_ge (by omega) (by omega)), fun _ => ?_⟩
                | refine ⟨fun _ => ?_, fun h => absurd (by with_reducible exact nI_le (by omega) (by omega)) h⟩
                | refine ⟨fun h => absurd h (by with_reducible exact nI_nlt (by omega) (by omega)), fun _ => ?_⟩
                | refine ⟨fun _ => ?_, fun h => absurd (by with_reducible exact nI_lt (by omega) (by omega)) h⟩
                | refine ⟨fun h => absurd h (by with_reducible exact nI_pos (by omega)), fun _ => ?_⟩
                | refine ⟨fun _ => ?_, fun h => absurd (by with_reducible exact nI_0le (by omega)) h⟩
                | refine ⟨fun h => absurd h (by decide), fun _ => ?_⟩
                | refine ⟨fun _ => ?_, fun h => absurd (by decide) h⟩
                | refine ⟨fun _ => ?_, fun h => absurd h (by decide)⟩
                | refine ⟨fun h => absurd (by decide) h, fun _ => ?_⟩
                | refine ⟨by decide, ?_⟩
                | refine ⟨rfl, ?_⟩)
        try (conv => whnf)
        exact hK
      · rw [if_neg h] at hK
        repeat (conv => whnf
                try dsimp only
                try simp (decide := true) only [zu_same, zu_ne1, zu_ne2, zu_row, zuL_same, zuL_ne1, zuL_ne2, zrow_n1, zx0, zx1, zx2, zx3, nI_1, Nat.reduceAdd, Nat.reduceMul, Int32.reduceAdd, Int32.reduceSub, Int32.reduceMul]
                first
                | refine ⟨vp_inb (by decide), ?_⟩
                | refine ⟨by with_reducible exact zi (by omega), ?_⟩
                | refine ⟨fun h => absurd h (by with_reducible exact nI_ge (by omega) (by omega)), fun _ => ?_⟩
                | refine ⟨fun _ => ?_, fun h => absurd (by with_reducible exact nI_le (by omega) (by omega)) h⟩
                | refine ⟨fun h => absurd h (by with_reducible exact nI_nlt (by omega) (by omega)), fun _ => ?_⟩
                | refine ⟨fun _ => ?_, fun h => absurd (by with_reducible exact nI_lt (by omega) (by omega)) h⟩
                | refine ⟨fun h => absurd h (by with_reducible exact nI_pos (by omega)), fun _ => ?_⟩
                | refine ⟨fun _ => ?_, fun h => absurd (by with_reducible exact nI_0le (by omega)) h⟩
                | refine ⟨fun h => absurd h (by decide), fun _ => ?_⟩
                | refine ⟨fun _ => ?_, fun h => absurd (by decide) h⟩
                | refine ⟨fun _ => ?_, fun h => absurd h (by decide)⟩
                | refine ⟨fun h => absurd (by decide) h, fun _ => ?_⟩
                | refine ⟨by decide, ?_⟩
                | refine ⟨rfl, ?_⟩)
        try (conv => whnf)
        exact hK
    · rw [show pTc σ k 2 = σ 104 k from rfl] at hK
      refine hG 100 _ _ _ _ _ ?_
      repeat (conv => whnf
              try dsimp only
              try simp (decide := true) only [zu_same, zu_ne1, zu_ne2, zu_row, zuL_same, zuL_ne1, zuL_ne2, zrow_n1, zx0, zx1, zx2, zx3, nI_1, Nat.reduceAdd, Nat.reduceMul, Int32.reduceAdd, Int32.reduceSub, Int32.reduceMul]
              first
              | refine ⟨vp_inb (by decide), ?_⟩
              | refine ⟨by with_reducible exact zi (by omega), ?_⟩
              | refine ⟨fun h => absurd h (by with_reducible exact nI_ge (by omega) (by omega)), fun _ => ?_⟩
              | refine ⟨fun _ => ?_, fun h => absurd (by with_reducible exact nI_le (by omega) (by omega)) h⟩
              | refine ⟨fun h => absurd h (by with_reducible exact nI_nlt (by omega) (by omega)), fun _ => ?_⟩
              | refine ⟨fun _ => ?_, fun h => absurd (by with_reducible exact nI_lt (by omega) (by omega)) h⟩
              | refine ⟨fun h => absurd h (by with_reducible exact nI_pos (by omega)), fun _ => ?_⟩
              | refine ⟨fun _ => ?_, fun h => absurd (by with_reducible exact nI_0le (by omega)) h⟩
              | refine ⟨fun h => absurd h (by decide), fun _ => ?_⟩
              | refine ⟨fun _ => ?_, fun h => absurd (by decide) h⟩
              | refine ⟨fun _ => ?_, fun h => absurd h (by decide)⟩
              | refine ⟨fun h => absurd (by decide) h, fun _ => ?_⟩
              | refine ⟨by decide, ?_⟩
              | refine ⟨rfl, ?_⟩)
      try (conv => whnf)
      refine ⟨fun w => absurd w (by decide), zsw_one _ _ 2 56 rfl rfl ?_⟩
      repeat (first
        | (conv => whnf
           try dsimp only
           try simp (decide := true) only [nI_clamp (show k < 2 ^ 31 by omega), zu_same, zu_ne1, zu_ne2, zu_row, zuL_same, zuL_ne1, zuL_ne2, zrow_n1, zx0, zx1, zx2, zx3, nI_1, Nat.reduceAdd, Nat.reduceMul, Int32.reduceAdd, Int32.reduceSub, Int32.reduceMul]
           first
           | refine ⟨vp_inb (by decide), ?_⟩
           | refine ⟨by with_reducible exact zi (by omega), ?_⟩
           | refine ⟨fun h => absurd h (by with_reducible exact nI_ge (by omega) (by omega)), fun _ => ?_⟩
           | refine ⟨fun _ => ?_, fun h => absurd (by with_reducible exact nI_le (by omega) (by omega)) h⟩
           | refine ⟨fun h => absurd h (by with_reducible exact nI_nlt (by omega) (by omega)), fun _ => ?_⟩
           | refine ⟨fun _ => ?_, fun h => absurd (by with_reducible exact nI_lt (by omega) (by omega)) h⟩
           | refine ⟨fun h => absurd h (by with_reducible exact nI_pos (by omega)), fun _ => ?_⟩
           | refine ⟨fun _ => ?_, fun h => absurd (by with_reducible exact nI_0le (by omega)) h⟩
           | refine ⟨fun h => absurd h (by decide), fun _ => ?_⟩
           | refine ⟨fun _ => ?_, fun h => absurd (by decide) h⟩
           | refine ⟨fun _ => ?_, fun h => absurd h (by decide)⟩
           | refine ⟨fun h => absurd (by decide) h, fun _ => ?_⟩
           | refine ⟨by decide, ?_⟩
           | refine ⟨rfl, ?_⟩)
        | (conv => whnf
           fail_if_success refine Exists.intro ?_ ?_
           simp only [nI_clamp (show k < 2 ^ 31 by omega)]))
      try (conv => whnf)
      exact hK
    · rw [show pTc σ k 3 = if σ 105 k = 0 then 0 else 1 from rfl] at hK
      refine hG 100 _ _ _ _ _ ?_
      repeat (conv => whnf
              try dsimp only
              try simp (decide := true) only [zu_same, zu_ne1, zu_ne2, zu_row, zuL_same, zuL_ne1, zuL_ne2, zrow_n1, zx0, zx1, zx2, zx3, nI_1, Nat.reduceAdd, Nat.reduceMul, Int32.reduceAdd, Int32.reduceSub, Int32.reduceMul]
              first
              | refine ⟨vp_inb (by decide), ?_⟩
              | refine ⟨by with_reducible exact zi (by omega), ?_⟩
              | refine ⟨fun h => absurd h (by with_reducible exact nI_ge (by omega) (by omega)), fun _ => ?_⟩
              | refine ⟨fun _ => ?_, fun h => absurd (by with_reducible exact nI_le (by omega) (by omega)) h⟩
              | refine ⟨fun h => absurd h (by with_reducible exact nI_nlt (by omega) (by omega)), fun _ => ?_⟩
              | refine ⟨fun _ => ?_, fun h => absurd (by with_reducible exact nI_lt (by omega) (by omega)) h⟩
              | refine ⟨fun h => absurd h (by with_reducible exact nI_pos (by omega)), fun _ => ?_⟩
              | refine ⟨fun _ => ?_, fun h => absurd (by with_reducible exact nI_0le (by omega)) h⟩
              | refine ⟨fun h => absurd h (by decide), fun _ => ?_⟩
              | refine ⟨fun _ => ?_, fun h => absurd (by decide) h⟩
              | refine ⟨fun _ => ?_, fun h => absurd h (by decide)⟩
              | refine ⟨fun h => absurd (by decide) h, fun _ => ?_⟩
              | refine ⟨by decide, ?_⟩
              | refine ⟨rfl, ?_⟩)
      try (conv => whnf)
      refine ⟨fun _ => ?_, zsw_no _ _ (by decide)⟩
      repeat (first
        | (conv => whnf
           try dsimp only
           try simp (decide := true) only [nI_clamp (show k < 2 ^ 31 by omega), zu_same, zu_ne1, zu_ne2, zu_row, zuL_same, zuL_ne1, zuL_ne2, zrow_n1, zx0, zx1, zx2, zx3, nI_1, Nat.reduceAdd, Nat.reduceMul, Int32.reduceAdd, Int32.reduceSub, Int32.reduceMul]
           first
           | refine ⟨vp_inb (by decide), ?_⟩
           | refine ⟨by with_reducible exact zi (by omega), ?_⟩
           | refine ⟨fun h => absurd h (by with_reducible exact nI_ge (by omega) (by omega)), fun _ => ?_⟩
           | refine ⟨fun _ => ?_, fun h => absurd (by with_reducible exact nI_le (by omega) (by omega)) h⟩
           | refine ⟨fun h => absurd h (by with_reducible exact nI_nlt (by omega) (by omega)), fun _ => ?_⟩
           | refine ⟨fun _ => ?_, fun h => absurd (by with_reducible exact nI_lt (by omega) (by omega)) h⟩
           | refine ⟨fun h => absurd h (by with_reducible exact nI_pos (by omega)), fun _ => ?_⟩
           | refine ⟨fun _ => ?_, fun h => absurd (by with_reducible exact nI_0le (by omega)) h⟩
           | refine ⟨fun h => absurd h (by decide), fun _ => ?_⟩
           | refine ⟨fun _ => ?_, fun h => absurd (by decide) h⟩
           | refine ⟨fun _ => ?_, fun h => absurd h (by decide)⟩
           | refine ⟨fun h => absurd (by decide) h, fun _ => ?_⟩
           | refine ⟨by decide, ?_⟩
           | refine ⟨rfl, ?_⟩)
        | (conv => whnf
           fail_if_success refine Exists.intro ?_ ?_
           simp only [nI_clamp (show k < 2 ^ 31 by omega)]))
      try (conv => whnf)
      refine ⟨fun h => ?_, fun h => ?_⟩
      · rw [if_pos h] at hK
        repeat (conv => whnf
                try dsimp only
                try simp (decide := true) only [zu_same, zu_ne1, zu_ne2, zu_row, zuL_same, zuL_ne1, zuL_ne2, zrow_n1, zx0, zx1, zx2, zx3, nI_1, Nat.reduceAdd, Nat.reduceMul, Int32.reduceAdd, Int32.reduceSub, Int32.reduceMul]
                first
                | refine ⟨vp_inb (by decide), ?_⟩
                | refine ⟨by with_reducible exact zi (by omega), ?_⟩
                | refine ⟨fun h => absurd h (by with_reducible exact nI_ge (by omega) (by omega)), fun _ => ?_⟩
                | refine ⟨fun _ => ?_, fun h => absurd (by with_reducible exact nI_le (by omega) (by omega)) h⟩
                | refine ⟨fun h => absurd h (by with_reducible exact nI_nlt (by omega) (by omega)), fun _ => ?_⟩
                | refine ⟨fun _ => ?_, fun h => absurd (by with_reducible exact nI_lt (by omega) (by omega)) h⟩
                | refine ⟨fun h => absurd h (by with_reducible exact nI_pos (by omega)), fun _ => ?_⟩
                | refine ⟨fun _ => ?_, fun h => absurd (by with_reducible exact nI_0le (by omega)) h⟩
                | refine ⟨fun h => absurd h (by decide), fun _ => ?_⟩
                | refine ⟨fun _ => ?_, fun h => absurd (by decide) h⟩
                | refine ⟨fun _ => ?_, fun h => absurd h (by decide)⟩
                | refine ⟨fun h => absurd (by decide) h, fun _ => ?_⟩
                | refine ⟨by decide, ?_⟩
                | refine ⟨rfl, ?_⟩)
        try (conv => whnf)
        exact hK
      · rw [if_neg h] at hK
        repeat (conv => whnf
                try dsimp only
                try simp (decide := true) only [zu_same, zu_ne1, zu_ne2, zu_row, zuL_same, zuL_ne1, zuL_ne2, zrow_n1, zx0, zx1, zx2, zx3, nI_1, Nat.reduceAdd, Nat.reduceMul, Int32.reduceAdd, Int32.reduceSub, Int32.reduceMul]
                first
                | refine ⟨vp_inb (by decide), ?_⟩
                | refine ⟨by with_reducible exact zi (by omega), ?_⟩
                | refine ⟨fun h => absurd h (by with_reducible exact nI_ge (by omega) (by omega)), fun _ => ?_⟩
                | refine ⟨fun _ => ?_, fun h => absurd (by with_reducible exact nI_le (by omega) (by omega)) h⟩
                | refine ⟨fun h => absurd h (by with_reducible exact nI_nlt (by omega) (by omega)), fun _ => ?_⟩
                | refine ⟨fun _ => ?_, fun h => absurd (by with_reducible exact nI_lt (by omega) (by omega)) h⟩
                | refine ⟨fun h => absurd h (by with_reducible exact nI_pos (by omega)), fun _ => ?_⟩
                | refine ⟨fun _ => ?_, fun h => absurd (by with_reducible exact nI_0le (by omega)) h⟩
                | refine ⟨fun h => absurd h (by decide), fun _ => ?_⟩
                | refine ⟨fun _ => ?_, fun h => absurd (by decide) h⟩
                | refine ⟨fun _ => ?_, fun h => absurd h (by decide)⟩
                | refine ⟨fun h => absurd (by decide) h, fun _ => ?_⟩
                | refine ⟨by decide, ?_⟩
                | refine ⟨rfl, ?_⟩)
        try (conv => whnf)
        exact hK
def spX5_add : zSp := zDQ (X := zIn × zLo × Nat × Int32 × Int32 × Int32 × Int32 × Int32 × Int32) (fun x => match x with | (σ, τ, un, a, b, c, d, p, q) => [.ref 1, .int a, .int b, .int c, .int d, .int p, .int q]) (fun x => match x with | (σ, τ, un, a, b, c, d, p, q) => (119, zSH, zRH, σ, τ)) (fun x => match x with | (σ, τ, un, a, b, c, d, p, q) => σ 1 3 = nI un ∧ un < 12) (fun x r9 μ9 => match x with | (σ, τ, un, a, b, c, d, p, q) => r9 = some (.int (nI un)) ∧ ∃ σ1 : zIn, μ9 = (119, zSH, zRH, σ1, τ) ∧ (∀ r, r ≠ 1 → r < 3 ∨ 16 < r → σ1 r = σ r) ∧ σ1 1 3 = nI (un + 1) ∧ (∀ u, u ≠ un → σ1 15 u = σ 15 u ∧ σ1 16 u = σ 16 u) ∧ σ1 15 un = p ∧ σ1 16 un = q)
abbrev rmX5_add : Room := ({ frames := 0, cells := 0, slots := 0, locals := 0 } : Room)
set_option maxRecDepth 100000 in
set_option maxHeartbeats 4000000 in
theorem ctX5_add (l : Launch) (D : va_G) (cA : Nat → ClassId) : zCt false l D cA yX5_add cX5_add 7 (some .int) rmX5_add spX5_add := by
  refine zct_Q (zCX5_add []) zpX5_add [] (by decide +kernel) zkX5_add (Or.inr (by decide +kernel)) trivial ⟨by decide +kernel, by decide +kernel⟩ (fun x ad => Nat.le_of_ble_eq_true rfl) ?_ ?_
  · intro p e s m args below meth c A H0 ad0 n0 Q F hml hNw hA hX
    exact trivial
  · rintro ⟨σ, τ, un, a, b, c, d, p, q⟩ Ret hP hK Gl hG
    try dsimp only at hP hK
    show Gl 0 (zent 7 [.ref 1, .int a, .int b, .int c, .int d, .int p, .int q]) [] (0, 0) ((119, zSH, zRH, σ, τ))
    obtain ⟨hn, h12⟩ := hP
    have r1 := zRH_ue un h12
    have s1 := zSH_ue un h12
    have n1 : (3 + un = 1) = False := eq_false (by omega)
    refine hG 100 _ _ _ _ _ ?_
    repeat (first
      | (conv => whnf
         try dsimp only
         try simp (decide := true) only [hn, r1, s1, zu_row (show (1 : Nat) ≠ 3 + un by omega), nI_clamp (show un < 2 ^ 31 by omega), zu_same, zu_ne1, zu_ne2, zu_row, zuL_same, zuL_ne1, zuL_ne2, zrow_n1, zx0, zx1, zx2, zx3, nI_1, Nat.reduceAdd, Nat.reduceMul, Int32.reduceAdd, Int32.reduceSub, Int32.reduceMul]
         first
         | refine ⟨vp_inb (by decide), ?_⟩
         | refine ⟨by with_reducible exact zi (by omega), ?_⟩
         | refine ⟨fun h => absurd h (by with_reducible exact nI_ge (by omega) (by omega)), fun _ => ?_⟩
         | refine ⟨fun _ => ?_, fun h => absurd (by with_reducible exact nI_le (by omega) (by omega)) h⟩
         | refine ⟨fun h => absurd h (by with_reducible exact nI_nlt (by omega) (by omega)), fun _ => ?_⟩
         | refine ⟨fun _ => ?_, fun h => absurd (by with_reducible exact nI_lt (by omega) (by omega)) h⟩
         | refine ⟨fun h => absurd h (by with_reducible exact nI_pos (by omega)), fun _ => ?_⟩
         | refine ⟨fun _ => ?_, fun h => absurd (by with_reducible exact nI_0le (by omega)) h⟩
         | refine ⟨fun h => absurd h (by decide), fun _ => ?_⟩
         | refine ⟨fun _ => ?_, fun h => absurd (by decide) h⟩
         | refine ⟨fun _ => ?_, fun h => absurd h (by decide)⟩
         | refine ⟨fun h => absurd (by decide) h, fun _ => ?_⟩
         | refine ⟨by decide, ?_⟩
         | refine ⟨rfl, ?_⟩)
      | (conv => whnf
         fail_if_success refine Exists.intro ?_ ?_
         simp only [hn, r1, s1, zu_row (show (1 : Nat) ≠ 3 + un by omega), nI_clamp (show un < 2 ^ 31 by omega)]))
    try (conv => whnf)
    simp (decide := true) only [zu_row (show (1 : Nat) ≠ 3 + un by omega), zu_same, zu_ne1, hn, nI_1, nI_pred]
    refine hK _ _ ⟨rfl, _, rfl, fun r h1 h2 => ?_, ?_, fun u hu => ⟨?_, ?_⟩, ?_, ?_⟩
    · rw [zu_row (by omega), zu_row (by omega), zu_row (by omega), zu_row (by omega), zu_row (by omega), zu_row (by omega), zu_row (by omega)]
    all_goals
      first
      | simp (decide := true) only [zu_row (show (1 : Nat) ≠ 3 + un by omega), zu_row (show (15 : Nat) ≠ 3 + un by omega), zu_row (show (16 : Nat) ≠ 3 + un by omega), zu_same, zu_ne1, zu_ne2, hn, nI_1, ne_eq, hu, not_false_eq_true]
      | simp (decide := true) only [zu_row (show (1 : Nat) ≠ 3 + un by omega), zu_row (show (15 : Nat) ≠ 3 + un by omega), zu_row (show (16 : Nat) ≠ 3 + un by omega), zu_same, zu_ne1, zu_ne2, hn, nI_1]
def spX6_add : zSp := zD (X := zIn × zLo × Nat × Int32) (fun x => match x with | (σ, τ, n, u) => [.ref 86, .int u]) (fun x => match x with | (σ, τ, n, u) => (119, zSH, zRH, σ, τ)) (fun x => match x with | (σ, τ, n, u) => σ 86 3 = nI n ∧ n < 16) (fun x => match x with | (σ, τ, n, u) => some (.int (nI n))) (fun x => match x with | (σ, τ, n, u) => (119, zSH, zRH, zu (zu (zu (zu σ 87 n u) 88 n (-1)) 89 n 0) 86 3 (nI (n + 1)), τ))
abbrev rmX6_add : Room := ({ frames := 0, cells := 0, slots := 0, locals := 0 } : Room)
set_option maxRecDepth 100000 in
set_option maxHeartbeats 4000000 in
theorem ctX6_add (l : Launch) (D : va_G) (cA : Nat → ClassId) : zCt false l D cA yX6_add cX6_add 2 (some .int) rmX6_add spX6_add := by
  refine zct_D (zCX6_add []) zpX6_add [] (by decide +kernel) zkX6_add (Or.inr (by decide +kernel)) trivial ⟨by decide +kernel, by decide +kernel⟩ (fun x ad => Nat.le_of_ble_eq_true rfl) ?_ ?_
  · intro p e s m args below meth c A H0 ad0 n0 Q F hml hNw hA hX
    exact trivial
  · rintro ⟨σ, τ, n, u⟩ Ret hP hK Gl hG
    try dsimp only at hP hK
    show Gl 0 (zent 2 [.ref 86, .int u]) [] (0, 0) ((119, zSH, zRH, σ, τ))
    obtain ⟨hn, h16⟩ := hP
    refine hG 100 _ _ _ _ _ ?_
    repeat (first
      | (conv => whnf
         try dsimp only
         try simp (decide := true) only [hn, nI_clamp (show n < 2 ^ 31 by omega), zu_same, zu_ne1, zu_ne2, zu_row, zuL_same, zuL_ne1, zuL_ne2, zrow_n1, zx0, zx1, zx2, zx3, nI_1, Nat.reduceAdd, Nat.reduceMul, Int32.reduceAdd, Int32.reduceSub, Int32.reduceMul]
         first
         | refine ⟨vp_inb (by decide), ?_⟩
         | refine ⟨by with_reducible exact zi (by omega), ?_⟩
         | refine ⟨fun h => absurd h (by with_reducible exact nI_ge (by omega) (by omega)), fun _ => ?_⟩
         | refine ⟨fun _ => ?_, fun h => absurd (by with_reducible exact nI_le (by omega) (by omega)) h⟩
         | refine ⟨fun h => absurd h (by with_reducible exact nI_nlt (by omega) (by omega)), fun _ => ?_⟩
         | refine ⟨fun _ => ?_, fun h => absurd (by with_reducible exact nI_lt (by omega) (by omega)) h⟩
         | refine ⟨fun h => absurd h (by with_reducible exact nI_pos (by omega)), fun _ => ?_⟩
         | refine ⟨fun _ => ?_, fun h => absurd (by with_reducible exact nI_0le (by omega)) h⟩
         | refine ⟨fun h => absurd h (by decide), fun _ => ?_⟩
         | refine ⟨fun _ => ?_, fun h => absurd (by decide) h⟩
         | refine ⟨fun _ => ?_, fun h => absurd h (by decide)⟩
         | refine ⟨fun h => absurd (by decide) h, fun _ => ?_⟩
         | refine ⟨by decide, ?_⟩
         | refine ⟨rfl, ?_⟩)
      | (conv => whnf
         fail_if_success refine Exists.intro ?_ ?_
         simp only [hn, nI_clamp (show n < 2 ^ 31 by omega)]))
    try (conv => whnf)
    simp (decide := true) only [zu_same, zu_ne1, hn, nI_1, nI_pred]
    exact hK

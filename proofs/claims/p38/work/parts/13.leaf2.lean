/-! ===== solving: the leaves ===== -/
theorem nI_m1 (k : Nat) : nI k + -1 = nI k - 1 := (Int32.sub_eq_add_neg (nI k) 1).symm
theorem zset_row {σ : zIn} {r n v : Nat} {m x : Int32} (h : bt m v = true) : zu (zrow σ r (fun u => if u < v ∧ bt m u = true then x else σ r u)) r v x = zrow σ r (fun u => if u < v + 1 ∧ bt m u = true then x else σ r u) := by
  funext r' j
  by_cases hr : r' = r
  · rw [hr]
    by_cases hj : j = v
    · rw [hj, zu_self, zrow_self, if_pos ⟨Nat.lt_succ_self v, h⟩]
    · rw [zu_ne2 hj, zrow_self, zrow_self]
      have e : (j < v ∧ bt m j = true) ↔ (j < v + 1 ∧ bt m j = true) := ⟨fun q => ⟨by omega, q.2⟩, fun q => ⟨by omega, q.2⟩⟩
      by_cases hc : j < v ∧ bt m j = true
      · rw [if_pos hc, if_pos (e.mp hc)]
      · rw [if_neg hc, if_neg (fun q => hc (e.mpr q))]
  · rw [zu_ne1 hr, zrow_n1 hr, zrow_n1 hr]
theorem zset_row0 {σ : zIn} {r v : Nat} {m x : Int32} (h : ¬ bt m v = true) : zrow σ r (fun u => if u < v ∧ bt m u = true then x else σ r u) = zrow σ r (fun u => if u < v + 1 ∧ bt m u = true then x else σ r u) := by
  refine congrArg (zrow σ r) (funext fun j => ?_)
  by_cases hj : j = v
  · rw [hj, if_neg (fun q => h q.2), if_neg (fun q => h q.2)]
  · have e : (j < v ∧ bt m j = true) ↔ (j < v + 1 ∧ bt m j = true) := ⟨fun q => ⟨by omega, q.2⟩, fun q => ⟨by omega, q.2⟩⟩
    by_cases hc : j < v ∧ bt m j = true
    · rw [if_pos hc, if_pos (e.mp hc)]
    · rw [if_neg hc, if_neg (fun q => hc (e.mpr q))]
theorem zrow_id {σ : zIn} {r : Nat} {f : Nat → Int32} (h : f = σ r) : zrow σ r f = σ := by
  funext r'
  unfold zrow
  split
  · rename_i e
    rw [e, h]
  · rfl
def spX4_setAll : zSp := zD (X := Bool × zIn × zLo × Nat × Int32 × Int32) (fun x => match x with | (b, σ, τ, n, m, y) => [.ref 100, .int m, .int y, .ref (cond b 103 107)]) (fun x => match x with | (b, σ, τ, n, m, y) => (119, zSH, zRH, σ, τ)) (fun x => match x with | (b, σ, τ, n, m, y) => σ 86 3 = nI n ∧ n ≤ 16) (fun x => match x with | (b, σ, τ, n, m, y) => none) (fun x => match x with | (b, σ, τ, n, m, y) => (119, zSH, zRH, zrow σ (cond b 103 107) (pSet n m y (σ (cond b 103 107))), τ))
abbrev rmX4_setAll : Room := ({ frames := 1, cells := 0, slots := 0, locals := 21 } : Room)
set_option maxRecDepth 100000 in
set_option maxHeartbeats 4000000 in
theorem ctX4_setAll (l : Launch) (D : va_G) (cA : Nat → ClassId) : zCt false l D cA yX4_setAll cX4_setAll 5 (none) rmX4_setAll spX4_setAll := by
  refine zct_D (zCX4_setAll [(86, 1, 2, spX7_isIn, rmX7_isIn.cells, rmX7_isIn.slots)]) zpX4_setAll [3] (by decide +kernel) zkX4_setAll (Or.inr (by decide +kernel)) trivial ⟨by decide +kernel, by decide +kernel⟩ (fun x ad => Nat.le_of_ble_eq_true rfl) ?_ ?_
  · intro p e s m args below meth c A H0 ad0 n0 Q F hml hNw hA hX
    exact ⟨zco_SN hX hA F hml hNw (ctX7_isIn l D cA) ⟨⟨zlX4_setAll_86, zwX7_isIn.1⟩, zwX7_isIn.2⟩ zdX7_isIn ⟨Nat.le_of_ble_eq_true rfl, Nat.le_of_ble_eq_true rfl⟩, trivial⟩
  · rintro ⟨b, σ, τ, n, m, y⟩ Ret hP hK Gl hG
    try dsimp only at hP hK
    show Gl 0 (zent 5 [.ref 100, .int m, .int y, .ref (cond b 103 107)]) [] (0, 0) ((119, zSH, zRH, σ, τ))
    obtain ⟨hn, h16⟩ := hP
    cases b
    · skip
      have loop : ∀ (f v : Nat), v + f = n → Gl 3 [some (.ref 100), some (.int m), some (.int y), some (.ref 107), some (.int (nI v))] [] (0, 0) (119, zSH, zRH, zrow σ 107 (fun u => if u < v ∧ bt m u = true then y else σ 107 u), τ) := by
        intro f
        induction f with
        | zero =>
          intro v hv
          have hvn : v = n := by omega
          rw [hvn]
          refine hG 40 _ _ _ _ _ ?_
          repeat (first
            | (conv => whnf
               try dsimp only
               try simp (decide := true) only [hn, zu_same, zu_ne1, zu_ne2, zu_row, zuL_same, zuL_ne1, zuL_ne2, zrow_n1, zx0, zx1, zx2, zx3, nI_1, Nat.reduceAdd, Nat.reduceMul, Int32.reduceAdd, Int32.reduceSub, Int32.reduceMul]
               first
               | refine ⟨vp_inb (by decide), ?_⟩
               | refine ⟨by with_reducible exact zi (by omega), ?_⟩
               | refine ⟨fun h => absurd h (by with_reducible exact nI_ge (by omega) (by omega)), fun _ => ?_⟩
               | refine ⟨fun _ => ?_, fun h => absurd (by with_reducible exact nI_le (by omega) (by omega)) h⟩
               | refine ⟨fun h => absurd h (by with_reducible exact nI_nlt (by omega) (by omega)), fun _ => ?_⟩
               | refine ⟨fun _ => ?_, fun h => absurd (by with_reducible exact nI_lt (by omega) (by omega)) h⟩
               | refine ⟨fun h => absurd h (by with_reducible exact nI_pos (by omega)), fun _ => ?_⟩
               | refine ⟨fun _ => ?_, fun h => absurd (by with_reducible exact nI_0le (by omega)) h⟩
               | refine ⟨fun h => absurd h (by decide), fun _ => ?_⟩
               | refine ⟨fun _ => ?_, fun h => absurd (by decide) h⟩
               | refine ⟨fun _ => ?_, fun h => absurd h (by decide)⟩
               | refine ⟨fun h => absurd (by decide) h, fun _ => ?_⟩
               | refine ⟨by decide, ?_⟩
               | refine ⟨rfl, ?_⟩)
            | (conv => whnf
               fail_if_success refine Exists.intro ?_ ?_
               simp only [hn]))
          try (conv => whnf)
          exact hK
        | succ f ih =>
          intro v hv
          have h9 := ih (v + 1) (by omega)
          refine hG 100 _ _ _ _ _ ?_
          repeat (first
            | (conv => whnf
               try dsimp only
               try simp (decide := true) only [hn, nI_clamp (show v < 2 ^ 31 by omega), zu_same, zu_ne1, zu_ne2, zu_row, zuL_same, zuL_ne1, zuL_ne2, zrow_n1, zx0, zx1, zx2, zx3, nI_1, Nat.reduceAdd, Nat.reduceMul, Int32.reduceAdd, Int32.reduceSub, Int32.reduceMul]
               first
               | refine ⟨vp_inb (by decide), ?_⟩
               | refine ⟨by with_reducible exact zi (by omega), ?_⟩
               | refine ⟨fun h => absurd h (by with_reducible exact nI_ge (by omega) (by omega)), fun _ => ?_⟩
               | refine ⟨fun _ => ?_, fun h => absurd (by with_reducible exact nI_le (by omega) (by omega)) h⟩
               | refine ⟨fun h => absurd h (by with_reducible exact nI_nlt (by omega) (by omega)), fun _ => ?_⟩
               | refine ⟨fun _ => ?_, fun h => absurd (by with_reducible exact nI_lt (by omega) (by omega)) h⟩
               | refine ⟨fun h => absurd h (by with_reducible exact nI_pos (by omega)), fun _ => ?_⟩
               | refine ⟨fun _ => ?_, fun h => absurd (by with_reducible exact nI_0le (by omega)) h⟩
               | refine ⟨fun h => absurd h (by decide), fun _ => ?_⟩
               | refine ⟨fun _ => ?_, fun h => absurd (by decide) h⟩
               | refine ⟨fun _ => ?_, fun h => absurd h (by decide)⟩
               | refine ⟨fun h => absurd (by decide) h, fun _ => ?_⟩
               | refine ⟨by decide, ?_⟩
               | refine ⟨rfl, ?_⟩)
            | (conv => whnf
               fail_if_success refine Exists.intro ?_ ?_
               simp only [hn, nI_clamp (show v < 2 ^ 31 by omega)]))
          try (conv => whnf)
          refine ⟨(m, nI v, (119, zSH, zRH, zrow σ 107 (fun u => if u < v ∧ bt m u = true then y else σ 107 u), τ)), rfl, rfl, trivial, ?_⟩
          try dsimp only
          by_cases hb : bt m v = true
          · rw [if_neg (zbt_t (by omega) hb)]
            rw [← zset_row (n := n) hb] at h9
            repeat (first
              | (conv => whnf
                 try dsimp only
                 try simp (decide := true) only [hn, nI_clamp (show v < 2 ^ 31 by omega), zu_same, zu_ne1, zu_ne2, zu_row, zuL_same, zuL_ne1, zuL_ne2, zrow_n1, zx0, zx1, zx2, zx3, nI_1, Nat.reduceAdd, Nat.reduceMul, Int32.reduceAdd, Int32.reduceSub, Int32.reduceMul]
                 first
                 | refine ⟨vp_inb (by decide), ?_⟩
                 | refine ⟨by with_reducible exact zi (by omega), ?_⟩
                 | refine ⟨fun h => absurd h (by with_reducible exact nI_ge (by omega) (by omega)), fun _ => ?_⟩
                 | refine ⟨fun _ => ?_, fun h => absurd (by with_reducible exact nI_le (by omega) (by omega)) h⟩
                 | refine ⟨fun h => absurd h (by with_reducible exact nI_nlt (by omega) (by omega)), fun _ => ?_⟩
                 | refine ⟨fun _ => ?_, fun h => absurd (by with_reducible exact nI_lt (by omega) (by omega)) h⟩
                 | refine ⟨fun h => absurd h (by with_reducible exact nI_pos (by omega)), fun _ => ?_⟩
                 | refine ⟨fun _ => ?_, fun h => absurd (by with_reducible exact nI_0le (by omega)) h⟩
                 | refine ⟨fun h => absurd h (by decide), fun _ => ?_⟩
                 | refine ⟨fun _ => ?_, fun h => absurd (by decide) h⟩
                 | refine ⟨fun _ => ?_, fun h => absurd h (by decide)⟩
                 | refine ⟨fun h => absurd (by decide) h, fun _ => ?_⟩
                 | refine ⟨by decide, ?_⟩
                 | refine ⟨rfl, ?_⟩)
              | (conv => whnf
                 fail_if_success refine Exists.intro ?_ ?_
                 simp only [hn, nI_clamp (show v < 2 ^ 31 by omega)]))
            try (conv => whnf)
            try dsimp only
            try simp (decide := true) only [zu_same, zu_ne1, zu_ne2, zu_row, zuL_same, zuL_ne1, zuL_ne2, zrow_n1, zx0, zx1, zx2, zx3, nI_1, Nat.reduceAdd, Nat.reduceMul, Int32.reduceAdd, Int32.reduceSub, Int32.reduceMul]
            exact h9
          · rw [if_pos (zbt_f (by omega) hb)]
            rw [← zset_row0 hb] at h9
            repeat (first
              | (conv => whnf
                 try dsimp only
                 try simp (decide := true) only [hn, zu_same, zu_ne1, zu_ne2, zu_row, zuL_same, zuL_ne1, zuL_ne2, zrow_n1, zx0, zx1, zx2, zx3, nI_1, Nat.reduceAdd, Nat.reduceMul, Int32.reduceAdd, Int32.reduceSub, Int32.reduceMul]
                 first
                 | refine ⟨vp_inb (by decide), ?_⟩
                 | refine ⟨by with_reducible exact zi (by omega), ?_⟩
                 | refine ⟨fun h => absurd h (by with_reducible exact nI_ge (by omega) (by omega)), fun _ => ?_⟩
                 | refine ⟨fun _ => ?_, fun h => absurd (by with_reducible exact nI_le (by omega) (by omega)) h⟩
                 | refine ⟨fun h => absurd h (by with_reducible exact nI_nlt (by omega) (by omega)), fun _ => ?_⟩
                 | refine ⟨fun _ => ?_, fun h => absurd (by with_reducible exact nI_lt (by omega) (by omega)) h⟩
                 | refine ⟨fun h => absurd h (by with_reducible exact nI_pos (by omega)), fun _ => ?_⟩
                 | refine ⟨fun _ => ?_, fun h => absurd (by with_reducible exact nI_0le (by omega)) h⟩
                 | refine ⟨fun h => absurd h (by decide), fun _ => ?_⟩
                 | refine ⟨fun _ => ?_, fun h => absurd (by decide) h⟩
                 | refine ⟨fun _ => ?_, fun h => absurd h (by decide)⟩
                 | refine ⟨fun h => absurd (by decide) h, fun _ => ?_⟩
                 | refine ⟨by decide, ?_⟩
                 | refine ⟨rfl, ?_⟩)
              | (conv => whnf
                 fail_if_success refine Exists.intro ?_ ?_
                 simp only [hn]))
            try (conv => whnf)
            try dsimp only
            try simp (decide := true) only [zu_same, zu_ne1, zu_ne2, zu_row, zuL_same, zuL_ne1, zuL_ne2, zrow_n1, zx0, zx1, zx2, zx3, nI_1, Nat.reduceAdd, Nat.reduceMul, Int32.reduceAdd, Int32.reduceSub, Int32.reduceMul]
            exact h9
      have h0 := loop n 0 (by omega)
      rw [zrow_id (f := fun u => if u < 0 ∧ bt m u = true then y else σ 107 u) (funext fun u => if_neg (fun q => Nat.not_lt_zero u q.1))] at h0
      refine hG 40 _ _ _ _ _ ?_
      repeat (first
        | (conv => whnf
           try dsimp only
           try simp (decide := true) only [hn, zu_same, zu_ne1, zu_ne2, zu_row, zuL_same, zuL_ne1, zuL_ne2, zrow_n1, zx0, zx1, zx2, zx3, nI_1, Nat.reduceAdd, Nat.reduceMul, Int32.reduceAdd, Int32.reduceSub, Int32.reduceMul]
           first
           | refine ⟨vp_inb (by decide), ?_⟩
           | refine ⟨by with_reducible exact zi (by omega), ?_⟩
           | refine ⟨fun h => absurd h (by with_reducible exact nI_ge (by omega) (by omega)), fun _ => ?_⟩
           | refine ⟨fun _ => ?_, fun h => absurd (by with_reducible exact nI_le (by omega) (by omega)) h⟩
           | refine ⟨fun h => absurd h (by with_reducible exact nI_nlt (by omega) (by omega)), fun _ => ?_⟩
           | refine ⟨fun _ => ?_, fun h => absurd (by with_reducible exact nI_lt (by omega) (by omega)) h⟩
           | refine ⟨fun h => absurd h (by with_reducible exact nI_pos (by omega)), fun _ => ?_⟩
           | refine ⟨fun _ => ?_, fun h => absurd (by with_reducible exact nI_0le (by omega)) h⟩
           | refine ⟨fun h => absurd h (by decide), fun _ => ?_⟩
           | refine ⟨fun _ => ?_, fun h => absurd (by decide) h⟩
           | refine ⟨fun _ => ?_, fun h => absurd h (by decide)⟩
           | refine ⟨fun h => absurd (by decide) h, fun _ => ?_⟩
           | refine ⟨by decide, ?_⟩
           | refine ⟨rfl, ?_⟩)
        | (conv => whnf
           fail_if_success refine Exists.intro ?_ ?_
           simp only [hn]))
      try (conv => whnf)
      exact h0
    · skip
      have loop : ∀ (f v : Nat), v + f = n → Gl 3 [some (.ref 100), some (.int m), some (.int y), some (.ref 103), some (.int (nI v))] [] (0, 0) (119, zSH, zRH, zrow σ 103 (fun u => if u < v ∧ bt m u = true then y else σ 103 u), τ) := by
        intro f
        induction f with
        | zero =>
          intro v hv
          have hvn : v = n := by omega
          rw [hvn]
          refine hG 40 _ _ _ _ _ ?_
          repeat (first
            | (conv => whnf
               try dsimp only
               try simp (decide := true) only [hn, zu_same, zu_ne1, zu_ne2, zu_row, zuL_same, zuL_ne1, zuL_ne2, zrow_n1, zx0, zx1, zx2, zx3, nI_1, Nat.reduceAdd, Nat.reduceMul, Int32.reduceAdd, Int32.reduceSub, Int32.reduceMul]
               first
               | refine ⟨vp_inb (by decide), ?_⟩
               | refine ⟨by with_reducible exact zi (by omega), ?_⟩
               | refine ⟨fun h => absurd h (by with_reducible exact nI_ge (by omega) (by omega)), fun _ => ?_⟩
               | refine ⟨fun _ => ?_, fun h => absurd (by with_reducible exact nI_le (by omega) (by omega)) h⟩
               | refine ⟨fun h => absurd h (by with_reducible exact nI_nlt (by omega) (by omega)), fun _ => ?_⟩
               | refine ⟨fun _ => ?_, fun h => absurd (by with_reducible exact nI_lt (by omega) (by omega)) h⟩
               | refine ⟨fun h => absurd h (by with_reducible exact nI_pos (by omega)), fun _ => ?_⟩
               | refine ⟨fun _ => ?_, fun h => absurd (by with_reducible exact nI_0le (by omega)) h⟩
               | refine ⟨fun h => absurd h (by decide), fun _ => ?_⟩
               | refine ⟨fun _ => ?_, fun h => absurd (by decide) h⟩
               | refine ⟨fun _ => ?_, fun h => absurd h (by decide)⟩
               | refine ⟨fun h => absurd (by decide) h, fun _ => ?_⟩
               | refine ⟨by decide, ?_⟩
               | refine ⟨rfl, ?_⟩)
            | (conv => whnf
               fail_if_success refine Exists.intro ?_ ?_
               simp only [hn]))
          try (conv => whnf)
          exact hK
        | succ f ih =>
          intro v hv
          have h9 := ih (v + 1) (by omega)
          refine hG 100 _ _ _ _ _ ?_
          repeat (first
            | (conv => whnf
               try dsimp only
               try simp (decide := true) only [hn, nI_clamp (show v < 2 ^ 31 by omega), zu_same, zu_ne1, zu_ne2, zu_row, zuL_same, zuL_ne1, zuL_ne2, zrow_n1, zx0, zx1, zx2, zx3, nI_1, Nat.reduceAdd, Nat.reduceMul, Int32.reduceAdd, Int32.reduceSub, Int32.reduceMul]
               first
               | refine ⟨vp_inb (by decide), ?_⟩
               | refine ⟨by with_reducible exact zi (by omega), ?_⟩
               | refine ⟨fun h => absurd h (by with_reducible exact nI_ge (by omega) (by omega)), fun _ => ?_⟩
               | refine ⟨fun _ => ?_, fun h => absurd (by with_reducible exact nI_le (by omega) (by omega)) h⟩
               | refine ⟨fun h => absurd h (by with_reducible exact nI_nlt (by omega) (by omega)), fun _ => ?_⟩
               | refine ⟨fun _ => ?_, fun h => absurd (by with_reducible exact nI_lt (by omega) (by omega)) h⟩
               | refine ⟨fun h => absurd h (by with_reducible exact nI_pos (by omega)), fun _ => ?_⟩
               | refine ⟨fun _ => ?_, fun h => absurd (by with_reducible exact nI_0le (by omega)) h⟩
               | refine ⟨fun h => absurd h (by decide), fun _ => ?_⟩
               | refine ⟨fun _ => ?_, fun h => absurd (by decide) h⟩
               | refine ⟨fun _ => ?_, fun h => absurd h (by decide)⟩
               | refine ⟨fun h => absurd (by decide) h, fun _ => ?_⟩
               | refine ⟨by decide, ?_⟩
               | refine ⟨rfl, ?_⟩)
            | (conv => whnf
               fail_if_success refine Exists.intro ?_ ?_
               simp only [hn, nI_clamp (show v < 2 ^ 31 by omega)]))
          try (conv => whnf)
          refine ⟨(m, nI v, (119, zSH, zRH, zrow σ 103 (fun u => if u < v ∧ bt m u = true then y else σ 103 u), τ)), rfl, rfl, trivial, ?_⟩
          try dsimp only
          by_cases hb : bt m v = true
          · rw [if_neg (zbt_t (by omega) hb)]
            rw [← zset_row (n := n) hb] at h9
            repeat (first
              | (conv => whnf
                 try dsimp only
                 try simp (decide := true) only [hn, nI_clamp (show v < 2 ^ 31 by omega), zu_same, zu_ne1, zu_ne2, zu_row, zuL_same, zuL_ne1, zuL_ne2, zrow_n1, zx0, zx1, zx2, zx3, nI_1, Nat.reduceAdd, Nat.reduceMul, Int32.reduceAdd, Int32.reduceSub, Int32.reduceMul]
                 first
                 | refine ⟨vp_inb (by decide), ?_⟩
                 | refine ⟨by with_reducible exact zi (by omega), ?_⟩
                 | refine ⟨fun h => absurd h (by with_reducible exact nI_ge (by omega) (by omega)), fun _ => ?_⟩
                 | refine ⟨fun _ => ?_, fun h => absurd (by with_reducible exact nI_le (by omega) (by omega)) h⟩
                 | refine ⟨fun h => absurd h (by with_reducible exact nI_nlt (by omega) (by omega)), fun _ => ?_⟩
                 | refine ⟨fun _ => ?_, fun h => absurd (by with_reducible exact nI_lt (by omega) (by omega)) h⟩
                 | refine ⟨fun h => absurd h (by with_reducible exact nI_pos (by omega)), fun _ => ?_⟩
                 | refine ⟨fun _ => ?_, fun h => absurd (by with_reducible exact nI_0le (by omega)) h⟩
                 | refine ⟨fun h => absurd h (by decide), fun _ => ?_⟩
                 | refine ⟨fun _ => ?_, fun h => absurd (by decide) h⟩
                 | refine ⟨fun _ => ?_, fun h => absurd h (by decide)⟩
                 | refine ⟨fun h => absurd (by decide) h, fun _ => ?_⟩
                 | refine ⟨by decide, ?_⟩
                 | refine ⟨rfl, ?_⟩)
              | (conv => whnf
                 fail_if_success refine Exists.intro ?_ ?_
                 simp only [hn, nI_clamp (show v < 2 ^ 31 by omega)]))
            try (conv => whnf)
            try dsimp only
            try simp (decide := true) only [zu_same, zu_ne1, zu_ne2, zu_row, zuL_same, zuL_ne1, zuL_ne2, zrow_n1, zx0, zx1, zx2, zx3, nI_1, Nat.reduceAdd, Nat.reduceMul, Int32.reduceAdd, Int32.reduceSub, Int32.reduceMul]
            exact h9
          · rw [if_pos (zbt_f (by omega) hb)]
            rw [← zset_row0 hb] at h9
            repeat (first
              | (conv => whnf
                 try dsimp only
                 try simp (decide := true) only [hn, zu_same, zu_ne1, zu_ne2, zu_row, zuL_same, zuL_ne1, zuL_ne2, zrow_n1, zx0, zx1, zx2, zx3, nI_1, Nat.reduceAdd, Nat.reduceMul, Int32.reduceAdd, Int32.reduceSub, Int32.reduceMul]
                 first
                 | refine ⟨vp_inb (by decide), ?_⟩
                 | refine ⟨by with_reducible exact zi (by omega), ?_⟩
                 | refine ⟨fun h => absurd h (by with_reducible exact nI_ge (by omega) (by omega)), fun _ => ?_⟩
                 | refine ⟨fun _ => ?_, fun h => absurd (by with_reducible exact nI_le (by omega) (by omega)) h⟩
                 | refine ⟨fun h => absurd h (by with_reducible exact nI_nlt (by omega) (by omega)), fun _ => ?_⟩
                 | refine ⟨fun _ => ?_, fun h => absurd (by with_reducible exact nI_lt (by omega) (by omega)) h⟩
                 | refine ⟨fun h => absurd h (by with_reducible exact nI_pos (by omega)), fun _ => ?_⟩
                 | refine ⟨fun _ => ?_, fun h => absurd (by with_reducible exact nI_0le (by omega)) h⟩
                 | refine ⟨fun h => absurd h (by decide), fun _ => ?_⟩
                 | refine ⟨fun _ => ?_, fun h => absurd (by decide) h⟩
                 | refine ⟨fun _ => ?_, fun h => absurd h (by decide)⟩
                 | refine ⟨fun h => absurd (by decide) h, fun _ => ?_⟩
                 | refine ⟨by decide, ?_⟩
                 | refine ⟨rfl, ?_⟩)
              | (conv => whnf
                 fail_if_success refine Exists.intro ?_ ?_
                 simp only [hn]))
            try (conv => whnf)
            try dsimp only
            try simp (decide := true) only [zu_same, zu_ne1, zu_ne2, zu_row, zuL_same, zuL_ne1, zuL_ne2, zrow_n1, zx0, zx1, zx2, zx3, nI_1, Nat.reduceAdd, Nat.reduceMul, Int32.reduceAdd, Int32.reduceSub, Int32.reduceMul]
            exact h9
      have h0 := loop n 0 (by omega)
      rw [zrow_id (f := fun u => if u < 0 ∧ bt m u = true then y else σ 103 u) (funext fun u => if_neg (fun q => Nat.not_lt_zero u q.1))] at h0
      refine hG 40 _ _ _ _ _ ?_
      repeat (first
        | (conv => whnf
           try dsimp only
           try simp (decide := true) only [hn, zu_same, zu_ne1, zu_ne2, zu_row, zuL_same, zuL_ne1, zuL_ne2, zrow_n1, zx0, zx1, zx2, zx3, nI_1, Nat.reduceAdd, Nat.reduceMul, Int32.reduceAdd, Int32.reduceSub, Int32.reduceMul]
           first
           | refine ⟨vp_inb (by decide), ?_⟩
           | refine ⟨by with_reducible exact zi (by omega), ?_⟩
           | refine ⟨fun h => absurd h (by with_reducible exact nI_ge (by omega) (by omega)), fun _ => ?_⟩
           | refine ⟨fun _ => ?_, fun h => absurd (by with_reducible exact nI_le (by omega) (by omega)) h⟩
           | refine ⟨fun h => absurd h (by with_reducible exact nI_nlt (by omega) (by omega)), fun _ => ?_⟩
           | refine ⟨fun _ => ?_, fun h => absurd (by with_reducible exact nI_lt (by omega) (by omega)) h⟩
           | refine ⟨fun h => absurd h (by with_reducible exact nI_pos (by omega)), fun _ => ?_⟩
           | refine ⟨fun _ => ?_, fun h => absurd (by with_reducible exact nI_0le (by omega)) h⟩
           | refine ⟨fun h => absurd h (by decide), fun _ => ?_⟩
           | refine ⟨fun _ => ?_, fun h => absurd (by decide) h⟩
           | refine ⟨fun _ => ?_, fun h => absurd h (by decide)⟩
           | refine ⟨fun h => absurd (by decide) h, fun _ => ?_⟩
           | refine ⟨by decide, ?_⟩
           | refine ⟨rfl, ?_⟩)
        | (conv => whnf
           fail_if_success refine Exists.intro ?_ ?_
           simp only [hn]))
      try (conv => whnf)
      exact h0
def spX4_rootOf : zSp := zD (X := Int64 × zM) (fun x => match x with | (y, μ) => [.long y]) (fun x => match x with | (y, μ) => μ) (fun x => match x with | (y, μ) => True) (fun x => match x with | (y, μ) => some (.int (zroot (y * 1000) 20 0).toInt32)) (fun x => match x with | (y, μ) => μ)
abbrev rmX4_rootOf : Room := ({ frames := 0, cells := 0, slots := 0, locals := 0 } : Room)
set_option maxRecDepth 100000 in
set_option maxHeartbeats 4000000 in
theorem ctX4_rootOf (l : Launch) (D : va_G) (cA : Nat → ClassId) : zCt false l D cA yX4_rootOf cX4_rootOf 7 (some .int) rmX4_rootOf spX4_rootOf := by
  refine zct_D (zCX4_rootOf []) zpX4_rootOf [6] (by decide +kernel) zkX4_rootOf (Or.inr (by decide +kernel)) trivial ⟨by decide +kernel, by decide +kernel⟩ (fun x ad => Nat.le_of_ble_eq_true rfl) ?_ ?_
  · intro p e s m args below meth c A H0 ad0 n0 Q F hml hNw hA hX
    exact trivial
  · rintro ⟨y, μ⟩ Ret hP hK Gl hG
    try dsimp only at hP hK
    show Gl 0 (zent 7 [.long y]) [] (0, 0) (μ)
    have loop : ∀ (r : Nat) (f : Int64) (l5 : Option Value), r ≤ 20 → zroot (y * 1000) r f = zroot (y * 1000) 20 0 → Gl 6 [some (.long y), none, some (.long f), none, some (.int (nI r - 1)), l5, none] [] (0, 0) μ := by
      intro r
      induction r with
      | zero =>
        intro f l5 _ hx
        rw [← hx] at hK
        refine hG 40 _ _ _ _ _ ?_
        conv => whnf
        refine ⟨fun _ => ?_, fun h => absurd (by decide) h⟩
        conv => whnf
        exact hK
      | succ r ih =>
        intro f l5 hr hx
        rw [nI_pred]
        refine hG 40 _ _ _ _ _ ?_
        conv => whnf
        refine ⟨fun h => absurd h (nI_pos (by omega)), fun _ => ?_⟩
        conv => whnf
        refine ⟨fun h => ?_, fun h => ?_⟩
        · conv => whnf
          rw [nI_m1]
          refine ih f _ (by omega) ?_
          rw [← hx]
          show _ = (if (f + zrb r) * (f + zrb r) ≤ y * 1000 then _ else _)
          rw [if_neg (fun q => by
            have h7 := (lg_cmp_gt _ _).mp h
            exact absurd (Int64.le_iff_toInt_le.mp q) (by have := Int64.lt_iff_toInt_lt.mp h7; exact Int.not_le.mpr this))]
        · conv => whnf
          rw [nI_m1]
          refine ih _ _ (by omega) ?_
          rw [← hx]
          show _ = (if (f + zrb r) * (f + zrb r) ≤ y * 1000 then _ else _)
          exact (if_pos (show (f + zrb r) * (f + zrb r) ≤ y * 1000 from Int64.not_lt.mp (fun q => h ((lg_cmp_gt _ _).mpr q)))).symm
    refine hG 40 _ _ _ _ _ ?_
    conv => whnf
    exact loop 20 0 none (Nat.le_refl 20) rfl

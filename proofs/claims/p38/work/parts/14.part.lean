/-! ===== solving: parts, one turn ===== -/
theorem zsw_one {x : Int} {K : Nat → Prop} : ∀ (l : List Nat) (lo : Int) (j t : Nat), l[j]? = some t → x = lo + (j : Int) → K t → zsw x lo l K
  | [], _, _, _, _, _, _ => trivial
  | t0 :: l, lo, 0, t, h, hx, hk => by
    have e : t0 = t := by simpa using h
    subst e
    have rest : ∀ (l : List Nat) (lo' : Int), x < lo' → zsw x lo' l K := by
      intro l
      induction l with
      | nil => intro _ _; trivial
      | cons t2 l ih => intro lo' h'; exact ⟨fun q => absurd q (by omega), ih (lo' + 1) (by omega)⟩
    exact ⟨fun _ => hk, rest l (lo + 1) (by omega)⟩
  | t0 :: l, lo, j + 1, t, h, hx, hk => ⟨fun q => absurd q (by omega), zsw_one l (lo + 1) j t (by simpa using h) (by rw [hx]; omega) hk⟩
theorem zsw_no {x : Int} {K : Nat → Prop} : ∀ (l : List Nat) (lo : Int), lo + (l.length : Int) ≤ x → zsw x lo l K
  | [], _, _ => trivial
  | t :: l, lo, h => ⟨fun q => absurd q (by simp only [List.length_cons] at h; omega), zsw_no l (lo + 1) (by simp only [List.length_cons] at h; omega)⟩
theorem zl_ne0 {y : Int32} (h : ¬ y = 0) : ¬ y.toInt64 = 0 := fun q => h (Int32.toInt_inj.mp (by
  have := congrArg Int64.toInt q
  rw [Int32.toInt_toInt64] at this
  exact this))
/-- a part as the tables of parts hold it -/
def pPk (σ : zIn) (k : Nat) : Prop := ∃ c, σ 18 k = nI c ∧ (c = 0 ∨ (c = 1 ∧ ∃ v, σ 19 k = nI v ∧ v < 16) ∨ (2 ≤ c ∧ c ≤ 9 ∧ ∃ i j l, σ 19 k = nI i ∧ σ 20 k = nI j ∧ σ 21 k = nI l ∧ i < 60 ∧ j < 60 ∧ l < 60))
abbrev zPT (σ : zIn) : zPt := (σ 18, σ 19, σ 20, σ 21)
def spX4_reckonPart : zSp := zD (X := Bool × zIn × zLo × Nat) (fun x => match x with | (b, σ, τ, k) => [.ref 100, .int (nI k), .ref (cond b 103 107)]) (fun x => match x with | (b, σ, τ, k) => (119, zSH, zRH, σ, τ)) (fun x => match x with | (b, σ, τ, k) => k < 60 ∧ pPk σ k) (fun x => match x with | (b, σ, τ, k) => some (.int (pRp (zPT σ) (σ (cond b 103 107)) (σ 101) k))) (fun x => match x with | (b, σ, τ, k) => (119, zSH, zRH, σ, τ))
abbrev rmX4_reckonPart : Room := ({ frames := 1, cells := 0, slots := 0, locals := 26 } : Room)
set_option maxRecDepth 100000 in
set_option maxHeartbeats 4000000 in
theorem ctX4_reckonPart (l : Launch) (D : va_G) (cA : Nat → ClassId) : zCt false l D cA yX4_reckonPart cX4_reckonPart 6 (some .int) rmX4_reckonPart spX4_reckonPart := by
  refine zct_D (zCX4_reckonPart [(146, 1, 1, spX4_rootOf, rmX4_rootOf.cells, rmX4_rootOf.slots), (156, 1, 1, spX7_kept, rmX7_kept.cells, rmX7_kept.slots), (161, 1, 2, spMin, 0, 0), (124, 1, 2, spMax, 0, 0)]) zpX4_reckonPart [] (by decide +kernel) zkX4_reckonPart (Or.inr (by decide +kernel)) trivial ⟨by decide +kernel, by decide +kernel⟩ (fun x ad => Nat.le_of_ble_eq_true rfl) ?_ ?_
  · intro p e s m args below meth c A H0 ad0 n0 Q F hml hNw hA hX
    exact ⟨zco_S hX hA F hml hNw (ctX4_rootOf l D cA) ⟨⟨zlX4_reckonPart_146, zwX4_rootOf.1⟩, zwX4_rootOf.2⟩ zdX4_rootOf ⟨Nat.le_of_ble_eq_true rfl, Nat.le_of_ble_eq_true rfl⟩, zco_SN hX hA F hml hNw (ctX7_kept l D cA) ⟨⟨zlX4_reckonPart_156, zwX7_kept.1⟩, zwX7_kept.2⟩ zdX7_kept ⟨Nat.le_of_ble_eq_true rfl, Nat.le_of_ble_eq_true rfl⟩, zco_min F hml ⟨zlX4_reckonPart_161, zlib_min⟩ ⟨Nat.le_of_ble_eq_true rfl, Nat.le_of_ble_eq_true rfl⟩, zco_max F hml ⟨zlX4_reckonPart_124, zlib_max⟩ ⟨Nat.le_of_ble_eq_true rfl, Nat.le_of_ble_eq_true rfl⟩, trivial⟩
  · rintro ⟨b, σ, τ, k⟩ Ret hP hK Gl hG
    try dsimp only at hP hK
    show Gl 0 (zent 6 [.ref 100, .int (nI k), .ref (cond b 103 107)]) [] (0, 0) ((119, zSH, zRH, σ, τ))
    obtain ⟨hk, hP⟩ := hP
    cases b
    · try dsimp only [cond_true, cond_false] at *
      have hpr : pRp (zPT σ) (σ 107) (σ 101) k = pRp (zPT σ) (σ 107) (σ 101) k := rfl
      obtain ⟨c, hc, h | ⟨h, v, h19, hv⟩ | ⟨hc2, hc9, i, j, q, h19, h20, h21, hi, hj, hq⟩⟩ := hP
      · subst h
        rw [show pRp (zPT σ) (σ 107) (σ 101) k = σ 19 k from if_pos hc] at hK
        refine hG 100 _ _ _ _ _ ?_
        repeat (first
          | (conv => whnf
             try dsimp only
             try simp (decide := true) only [nI_clamp (show k < 2 ^ 31 by omega), hc, zu_same, zu_ne1, zu_ne2, zu_row, zuL_same, zuL_ne1, zuL_ne2, zrow_n1, zx0, zx1, zx2, zx3, nI_1, Nat.reduceAdd, Nat.reduceMul, Int32.reduceAdd, Int32.reduceSub, Int32.reduceMul]
             first
             | refine ⟨vp_inb (by decide), ?_⟩
             | refine ⟨by with_reducible exact zi (by omega), ?_⟩
             | refine ⟨fun h => absurd h (by with_reducible exact nI_ge (by omega) (by omega)), fun _ => ?_⟩
             | refine ⟨fun _ => ?_, fun h => absurd (by with_reducible exact nI_le (by omega) (by omega)) h⟩
             | refine ⟨fun h => absurd h (by with_reducible exact nI_nlt (by omega) (by omega)), fun _ => ?_⟩
             | refine ⟨fun _ => ?_, fun h => absurd (by with_reducible exact nI_lt (by omega) (by omega)) h⟩
             | refine ⟨fun h => absurd h (by with_reducible exact nI_pos (by omega)), fun _ => ?_⟩
             | refine ⟨fun _ => ?_, fun h => absurd (by with_reducible exact nI_0le (by omega)) h⟩
             | refine ⟨fun h => absurd h (by decide), fun _ => ?_⟩
             | refine ⟨fun _ => ?_, fun h => absurd (by decide) h⟩
             | refine ⟨fun _ => ?_, fun h => absurd h (by decide)⟩
             | refine ⟨fun h => absurd (by decide) h, fun _ => ?_⟩
             | refine ⟨by decide, ?_⟩
             | refine ⟨rfl, ?_⟩)
          | (conv => whnf
             fail_if_success refine Exists.intro ?_ ?_
             simp only [nI_clamp (show k < 2 ^ 31 by omega), hc]))
        try (conv => whnf)
        exact hK
      · subst h
        rw [show pRp (zPT σ) (σ 107) (σ 101) k = σ 107 v by
          show (if σ 18 k = 0 then _ else if σ 18 k = 1 then σ 107 (σ 19 k).toNatClampNeg else _) = _
          rw [hc, if_neg (by decide), if_pos (show nI 1 = 1 from rfl), h19, nI_clamp (by omega)]] at hK
        refine hG 100 _ _ _ _ _ ?_
        repeat (first
          | (conv => whnf
             try dsimp only
             try simp (decide := true) only [nI_clamp (show k < 2 ^ 31 by omega), hc, h19, nI_clamp (show v < 2 ^ 31 by omega), zu_same, zu_ne1, zu_ne2, zu_row, zuL_same, zuL_ne1, zuL_ne2, zrow_n1, zx0, zx1, zx2, zx3, nI_1, Nat.reduceAdd, Nat.reduceMul, Int32.reduceAdd, Int32.reduceSub, Int32.reduceMul]
             first
             | refine ⟨vp_inb (by decide), ?_⟩
             | refine ⟨by with_reducible exact zi (by omega), ?_⟩
             | refine ⟨fun h => absurd h (by with_reducible exact nI_ge (by omega) (by omega)), fun _ => ?_⟩
             | refine ⟨fun _ => ?_, fun h => absurd (by with_reducible exact nI_le (by omega) (by omega)) h⟩
             | refine ⟨fun h => absurd h (by with_reducible exact nI_nlt (by omega) (by omega)), fun _ => ?_⟩
             | refine ⟨fun _ => ?_, fun h => absurd (by with_reducible exact nI_lt (by omega) (by omega)) h⟩
             | refine ⟨fun h => absurd h (by with_reducible exact nI_pos (by omega)), fun _ => ?_⟩
             | refine ⟨fun _ => ?_, fun h => absurd (by with_reducible exact nI_0le (by omega)) h⟩
             | refine ⟨fun h => absurd h (by decide), fun _ => ?_⟩
             | refine ⟨fun _ => ?_, fun h => absurd (by decide) h⟩
             | refine ⟨fun _ => ?_, fun h => absurd h (by decide)⟩
             | refine ⟨fun h => absurd (by decide) h, fun _ => ?_⟩
             | refine ⟨by decide, ?_⟩
             | refine ⟨rfl, ?_⟩)
          | (conv => whnf
             fail_if_success refine Exists.intro ?_ ?_
             simp only [nI_clamp (show k < 2 ^ 31 by omega), hc, h19, nI_clamp (show v < 2 ^ 31 by omega)]))
        try (conv => whnf)
        exact hK
      · rw [show pRp (zPT σ) (σ 107) (σ 101) k = pRq (nI c) (σ 101 i) (σ 101 j) (σ 101 q) by
          show (if σ 18 k = 0 then _ else if σ 18 k = 1 then _ else pRq (σ 18 k) (σ 101 (σ 19 k).toNatClampNeg) (σ 101 (σ 20 k).toNatClampNeg) (σ 101 (σ 21 k).toNatClampNeg)) = _
          rw [hc, h19, h20, h21, nI_clamp (by omega), nI_clamp (by omega), nI_clamp (by omega), if_neg (nI_ne0 (by omega) (by omega)), if_neg (fun z => by
            have := (nI_eq (by omega) (by omega)).mp (show nI c = nI 1 from z)
            omega)]] at hK
        generalize hx : σ 101 i = x at hK
        generalize hy : σ 101 j = y at hK
        generalize hz : σ 101 q = z at hK
        unfold pRq at hK
        have hcc : c = 2 ∨ c = 3 ∨ c = 4 ∨ c = 5 ∨ c = 6 ∨ c = 7 ∨ c = 8 ∨ c = 9 := by omega
        by_cases h1 : x = zBRK
        · rw [if_pos h1] at hK
          rcases hcc with rfl | rfl | rfl | rfl | rfl | rfl | rfl | rfl
          all_goals
            refine hG 100 _ _ _ _ _ ?_
            repeat (first
              | (conv => whnf
                 try dsimp only
                 try simp (decide := true) only [nI_clamp (show k < 2 ^ 31 by omega), hc, h19, h20, h21, nI_clamp (show i < 2 ^ 31 by omega), nI_clamp (show j < 2 ^ 31 by omega), nI_clamp (show q < 2 ^ 31 by omega), hx, zu_same, zu_ne1, zu_ne2, zu_row, zuL_same, zuL_ne1, zuL_ne2, zrow_n1, zx0, zx1, zx2, zx3, nI_1, Nat.reduceAdd, Nat.reduceMul, Int32.reduceAdd, Int32.reduceSub, Int32.reduceMul]
                 first
                 | refine ⟨vp_inb (by decide), ?_⟩
                 | refine ⟨by with_reducible exact zi (by omega), ?_⟩
                 | refine ⟨fun h => absurd h (by with_reducible exact nI_ge (by omega) (by omega)), fun _ => ?_⟩
                 | refine ⟨fun _ => ?_, fun h => absurd (by with_reducible exact nI_le (by omega) (by omega)) h⟩
                 | refine ⟨fun h => absurd h (by with_reducible exact nI_nlt (by omega) (by omega)), fun _ => ?_⟩
                 | refine ⟨fun _ => ?_, fun h => absurd (by with_reducible exact nI_lt (by omega) (by omega)) h⟩
                 | refine ⟨fun h => absurd h (by with_reducible exact nI_pos (by omega)), fun _ => ?_⟩
                 | refine ⟨fun _ => ?_, fun h => absurd (by with_reducible exact nI_0le (by omega)) h⟩
                 | refine ⟨fun h => absurd h (by decide), fun _ => ?_⟩
                 | refine ⟨fun _ => ?_, fun h => absurd (by decide) h⟩
                 | refine ⟨fun _ => ?_, fun h => absurd h (by decide)⟩
                 | refine ⟨fun h => absurd (by decide) h, fun _ => ?_⟩
                 | refine ⟨by decide, ?_⟩
                 | refine ⟨rfl, ?_⟩)
              | (conv => whnf
                 fail_if_success refine Exists.intro ?_ ?_
                 simp only [nI_clamp (show k < 2 ^ 31 by omega), hc, h19, h20, h21, nI_clamp (show i < 2 ^ 31 by omega), nI_clamp (show j < 2 ^ 31 by omega), nI_clamp (show q < 2 ^ 31 by omega), hx]))
            try (conv => whnf)
            refine ⟨fun w => absurd h1 w, fun _ => ?_⟩
            repeat (first
              | (conv => whnf
                 try dsimp only
                 try simp (decide := true) only [nI_clamp (show k < 2 ^ 31 by omega), hc, h19, h20, h21, nI_clamp (show i < 2 ^ 31 by omega), nI_clamp (show j < 2 ^ 31 by omega), nI_clamp (show q < 2 ^ 31 by omega), hx, zu_same, zu_ne1, zu_ne2, zu_row, zuL_same, zuL_ne1, zuL_ne2, zrow_n1, zx0, zx1, zx2, zx3, nI_1, Nat.reduceAdd, Nat.reduceMul, Int32.reduceAdd, Int32.reduceSub, Int32.reduceMul]
                 first
                 | refine ⟨vp_inb (by decide), ?_⟩
                 | refine ⟨by with_reducible exact zi (by omega), ?_⟩
                 | refine ⟨fun h => absurd h (by with_reducible exact nI_ge (by omega) (by omega)), fun _ => ?_⟩
                 | refine ⟨fun _ => ?_, fun h => absurd (by with_reducible exact nI_le (by omega) (by omega)) h⟩
                 | refine ⟨fun h => absurd h (by with_reducible exact nI_nlt (by omega) (by omega)), fun _ => ?_⟩
                 | refine ⟨fun _ => ?_, fun h => absurd (by with_reducible exact nI_lt (by omega) (by omega)) h⟩
                 | refine ⟨fun h => absurd h (by with_reducible exact nI_pos (by omega)), fun _ => ?_⟩
                 | refine ⟨fun _ => ?_, fun h => absurd (by with_reducible exact nI_0le (by omega)) h⟩
                 | refine ⟨fun h => absurd h (by decide), fun _ => ?_⟩
                 | refine ⟨fun _ => ?_, fun h => absurd (by decide) h⟩
                 | refine ⟨fun _ => ?_, fun h => absurd h (by decide)⟩
                 | refine ⟨fun h => absurd (by decide) h, fun _ => ?_⟩
                 | refine ⟨by decide, ?_⟩
                 | refine ⟨rfl, ?_⟩)
              | (conv => whnf
                 fail_if_success refine Exists.intro ?_ ?_
                 simp only [nI_clamp (show k < 2 ^ 31 by omega), hc, h19, h20, h21, nI_clamp (show i < 2 ^ 31 by omega), nI_clamp (show j < 2 ^ 31 by omega), nI_clamp (show q < 2 ^ 31 by omega), hx]))
            try (conv => whnf)
            exact hK
        rw [if_neg h1] at hK
        rcases hcc with rfl | rfl | rfl | rfl | rfl | rfl | rfl | rfl
        · skip
          simp (decide := true) only [if_false, if_true, ite_true, ite_false] at hK
          by_cases h2 : y = zBRK
          · rw [if_pos h2] at hK
            refine hG 200 _ _ _ _ _ ?_
            repeat (first
              | (conv => whnf
                 try dsimp only
                 try simp (decide := true) only [nI_clamp (show k < 2 ^ 31 by omega), hc, h19, h20, h21, nI_clamp (show i < 2 ^ 31 by omega), nI_clamp (show j < 2 ^ 31 by omega), nI_clamp (show q < 2 ^ 31 by omega), hx, zu_same, zu_ne1, zu_ne2, zu_row, zuL_same, zuL_ne1, zuL_ne2, zrow_n1, zx0, zx1, zx2, zx3, nI_1, Nat.reduceAdd, Nat.reduceMul, Int32.reduceAdd, Int32.reduceSub, Int32.reduceMul]
                 first
                 | refine ⟨vp_inb (by decide), ?_⟩
                 | refine ⟨by with_reducible exact zi (by omega), ?_⟩
                 | refine ⟨fun h => absurd h (by with_reducible exact nI_ge (by omega) (by omega)), fun _ => ?_⟩
                 | refine ⟨fun _ => ?_, fun h => absurd (by with_reducible exact nI_le (by omega) (by omega)) h⟩
                 | refine ⟨fun h => absurd h (by with_reducible exact nI_nlt (by omega) (by omega)), fun _ => ?_⟩
                 | refine ⟨fun _ => ?_, fun h => absurd (by with_reducible exact nI_lt (by omega) (by omega)) h⟩
                 | refine ⟨fun h => absurd h (by with_reducible exact nI_pos (by omega)), fun _ => ?_⟩
                 | refine ⟨fun _ => ?_, fun h => absurd (by with_reducible exact nI_0le (by omega)) h⟩
                 | refine ⟨fun h => absurd h (by decide), fun _ => ?_⟩
                 | refine ⟨fun _ => ?_, fun h => absurd (by decide) h⟩
                 | refine ⟨fun _ => ?_, fun h => absurd h (by decide)⟩
                 | refine ⟨fun h => absurd (by decide) h, fun _ => ?_⟩
                 | refine ⟨by decide, ?_⟩
                 | refine ⟨rfl, ?_⟩)
              | (conv => whnf
                 fail_if_success refine Exists.intro ?_ ?_
                 simp only [nI_clamp (show k < 2 ^ 31 by omega), hc, h19, h20, h21, nI_clamp (show i < 2 ^ 31 by omega), nI_clamp (show j < 2 ^ 31 by omega), nI_clamp (show q < 2 ^ 31 by omega), hx]))
            try (conv => whnf)
            refine ⟨fun _ => ?_, fun w => absurd w h1⟩
            repeat (first
              | (conv => whnf
                 try dsimp only
                 try simp (decide := true) only [nI_clamp (show k < 2 ^ 31 by omega), hc, h19, h20, h21, nI_clamp (show i < 2 ^ 31 by omega), nI_clamp (show j < 2 ^ 31 by omega), nI_clamp (show q < 2 ^ 31 by omega), hx, hy, zu_same, zu_ne1, zu_ne2, zu_row, zuL_same, zuL_ne1, zuL_ne2, zrow_n1, zx0, zx1, zx2, zx3, nI_1, Nat.reduceAdd, Nat.reduceMul, Int32.reduceAdd, Int32.reduceSub, Int32.reduceMul]
                 first
                 | refine ⟨vp_inb (by decide), ?_⟩
                 | refine ⟨by with_reducible exact zi (by omega), ?_⟩
                 | refine ⟨fun h => absurd h (by with_reducible exact nI_ge (by omega) (by omega)), fun _ => ?_⟩
                 | refine ⟨fun _ => ?_, fun h => absurd (by with_reducible exact nI_le (by omega) (by omega)) h⟩
                 | refine ⟨fun h => absurd h (by with_reducible exact nI_nlt (by omega) (by omega)), fun _ => ?_⟩
                 | refine ⟨fun _ => ?_, fun h => absurd (by with_reducible exact nI_lt (by omega) (by omega)) h⟩
                 | refine ⟨fun h => absurd h (by with_reducible exact nI_pos (by omega)), fun _ => ?_⟩
                 | refine ⟨fun _ => ?_, fun h => absurd (by with_reducible exact nI_0le (by omega)) h⟩
                 | refine ⟨fun h => absurd h (by decide), fun _ => ?_⟩
                 | refine ⟨fun _ => ?_, fun h => absurd (by decide) h⟩
                 | refine ⟨fun _ => ?_, fun h => absurd h (by decide)⟩
                 | refine ⟨fun h => absurd (by decide) h, fun _ => ?_⟩
                 | refine ⟨by decide, ?_⟩
                 | refine ⟨rfl, ?_⟩)
              | (conv => whnf
                 fail_if_success refine Exists.intro ?_ ?_
                 simp only [nI_clamp (show k < 2 ^ 31 by omega), hc, h19, h20, h21, nI_clamp (show i < 2 ^ 31 by omega), nI_clamp (show j < 2 ^ 31 by omega), nI_clamp (show q < 2 ^ 31 by omega), hx, hy]))
            try (conv => whnf)
            refine ⟨fun w => absurd h2 w, fun _ => ?_⟩
            repeat (first
              | (conv => whnf
                 try dsimp only
                 try simp (decide := true) only [nI_clamp (show k < 2 ^ 31 by omega), hc, h19, h20, h21, nI_clamp (show i < 2 ^ 31 by omega), nI_clamp (show j < 2 ^ 31 by omega), nI_clamp (show q < 2 ^ 31 by omega), hx, hy, zu_same, zu_ne1, zu_ne2, zu_row, zuL_same, zuL_ne1, zuL_ne2, zrow_n1, zx0, zx1, zx2, zx3, nI_1, Nat.reduceAdd, Nat.reduceMul, Int32.reduceAdd, Int32.reduceSub, Int32.reduceMul]
                 first
                 | refine ⟨vp_inb (by decide), ?_⟩
                 | refine ⟨by with_reducible exact zi (by omega), ?_⟩
                 | refine ⟨fun h => absurd h (by with_reducible exact nI_ge (by omega) (by omega)), fun _ => ?_⟩
                 | refine ⟨fun _ => ?_, fun h => absurd (by with_reducible exact nI_le (by omega) (by omega)) h⟩
                 | refine ⟨fun h => absurd h (by with_reducible exact nI_nlt (by omega) (by omega)), fun _ => ?_⟩
                 | refine ⟨fun _ => ?_, fun h => absurd (by with_reducible exact nI_lt (by omega) (by omega)) h⟩
                 | refine ⟨fun h => absurd h (by with_reducible exact nI_pos (by omega)), fun _ => ?_⟩
                 | refine ⟨fun _ => ?_, fun h => absurd (by with_reducible exact nI_0le (by omega)) h⟩
                 | refine ⟨fun h => absurd h (by decide), fun _ => ?_⟩
                 | refine ⟨fun _ => ?_, fun h => absurd (by decide) h⟩
                 | refine ⟨fun _ => ?_, fun h => absurd h (by decide)⟩
                 | refine ⟨fun h => absurd (by decide) h, fun _ => ?_⟩
                 | refine ⟨by decide, ?_⟩
                 | refine ⟨rfl, ?_⟩)
              | (conv => whnf
                 fail_if_success refine Exists.intro ?_ ?_
                 simp only [nI_clamp (show k < 2 ^ 31 by omega), hc, h19, h20, h21, nI_clamp (show i < 2 ^ 31 by omega), nI_clamp (show j < 2 ^ 31 by omega), nI_clamp (show q < 2 ^ 31 by omega), hx, hy]))
            try (conv => whnf)
            exact hK
          rw [if_neg h2] at hK
          refine hG 200 _ _ _ _ _ ?_
          repeat (first
            | (conv => whnf
               try dsimp only
               try simp (decide := true) only [nI_clamp (show k < 2 ^ 31 by omega), hc, h19, h20, h21, nI_clamp (show i < 2 ^ 31 by omega), nI_clamp (show j < 2 ^ 31 by omega), nI_clamp (show q < 2 ^ 31 by omega), hx, zu_same, zu_ne1, zu_ne2, zu_row, zuL_same, zuL_ne1, zuL_ne2, zrow_n1, zx0, zx1, zx2, zx3, nI_1, Nat.reduceAdd, Nat.reduceMul, Int32.reduceAdd, Int32.reduceSub, Int32.reduceMul]
               first
               | refine ⟨vp_inb (by decide), ?_⟩
               | refine ⟨by with_reducible exact zi (by omega), ?_⟩
               | refine ⟨fun h => absurd h (by with_reducible exact nI_ge (by omega) (by omega)), fun _ => ?_⟩
               | refine ⟨fun _ => ?_, fun h => absurd (by with_reducible exact nI_le (by omega) (by omega)) h⟩
               | refine ⟨fun h => absurd h (by with_reducible exact nI_nlt (by omega) (by omega)), fun _ => ?_⟩
               | refine ⟨fun _ => ?_, fun h => absurd (by with_reducible exact nI_lt (by omega) (by omega)) h⟩
               | refine ⟨fun h => absurd h (by with_reducible exact nI_pos (by omega)), fun _ => ?_⟩
               | refine ⟨fun _ => ?_, fun h => absurd (by with_reducible exact nI_0le (by omega)) h⟩
               | refine ⟨fun h => absurd h (by decide), fun _ => ?_⟩
               | refine ⟨fun _ => ?_, fun h => absurd (by decide) h⟩
               | refine ⟨fun _ => ?_, fun h => absurd h (by decide)⟩
               | refine ⟨fun h => absurd (by decide) h, fun _ => ?_⟩
               | refine ⟨by decide, ?_⟩
               | refine ⟨rfl, ?_⟩)
            | (conv => whnf
               fail_if_success refine Exists.intro ?_ ?_
               simp only [nI_clamp (show k < 2 ^ 31 by omega), hc, h19, h20, h21, nI_clamp (show i < 2 ^ 31 by omega), nI_clamp (show j < 2 ^ 31 by omega), nI_clamp (show q < 2 ^ 31 by omega), hx]))
          try (conv => whnf)
          refine ⟨fun _ => ?_, fun w => absurd w h1⟩
          repeat (first
            | (conv => whnf
               try dsimp only
               try simp (decide := true) only [nI_clamp (show k < 2 ^ 31 by omega), hc, h19, h20, h21, nI_clamp (show i < 2 ^ 31 by omega), nI_clamp (show j < 2 ^ 31 by omega), nI_clamp (show q < 2 ^ 31 by omega), hx, hy, zu_same, zu_ne1, zu_ne2, zu_row, zuL_same, zuL_ne1, zuL_ne2, zrow_n1, zx0, zx1, zx2, zx3, nI_1, Nat.reduceAdd, Nat.reduceMul, Int32.reduceAdd, Int32.reduceSub, Int32.reduceMul]
               first
               | refine ⟨vp_inb (by decide), ?_⟩
               | refine ⟨by with_reducible exact zi (by omega), ?_⟩
               | refine ⟨fun h => absurd h (by with_reducible exact nI_ge (by omega) (by omega)), fun _ => ?_⟩
               | refine ⟨fun _ => ?_, fun h => absurd (by with_reducible exact nI_le (by omega) (by omega)) h⟩
               | refine ⟨fun h => absurd h (by with_reducible exact nI_nlt (by omega) (by omega)), fun _ => ?_⟩
               | refine ⟨fun _ => ?_, fun h => absurd (by with_reducible exact nI_lt (by omega) (by omega)) h⟩
               | refine ⟨fun h => absurd h (by with_reducible exact nI_pos (by omega)), fun _ => ?_⟩
               | refine ⟨fun _ => ?_, fun h => absurd (by with_reducible exact nI_0le (by omega)) h⟩
               | refine ⟨fun h => absurd h (by decide), fun _ => ?_⟩
               | refine ⟨fun _ => ?_, fun h => absurd (by decide) h⟩
               | refine ⟨fun _ => ?_, fun h => absurd h (by decide)⟩
               | refine ⟨fun h => absurd (by decide) h, fun _ => ?_⟩
               | refine ⟨by decide, ?_⟩
               | refine ⟨rfl, ?_⟩)
            | (conv => whnf
               fail_if_success refine Exists.intro ?_ ?_
               simp only [nI_clamp (show k < 2 ^ 31 by omega), hc, h19, h20, h21, nI_clamp (show i < 2 ^ 31 by omega), nI_clamp (show j < 2 ^ 31 by omega), nI_clamp (show q < 2 ^ 31 by omega), hx, hy]))
          try (conv => whnf)
          refine ⟨fun _ => ?_, fun w => absurd w h2⟩
          repeat (first
            | (conv => whnf
               try dsimp only
               try simp (decide := true) only [nI_clamp (show k < 2 ^ 31 by omega), hc, h19, h20, h21, nI_clamp (show i < 2 ^ 31 by omega), nI_clamp (show j < 2 ^ 31 by omega), nI_clamp (show q < 2 ^ 31 by omega), hx, hy, zu_same, zu_ne1, zu_ne2, zu_row, zuL_same, zuL_ne1, zuL_ne2, zrow_n1, zx0, zx1, zx2, zx3, nI_1, Nat.reduceAdd, Nat.reduceMul, Int32.reduceAdd, Int32.reduceSub, Int32.reduceMul]
               first
               | refine ⟨vp_inb (by decide), ?_⟩
               | refine ⟨by with_reducible exact zi (by omega), ?_⟩
               | refine ⟨fun h => absurd h (by with_reducible exact nI_ge (by omega) (by omega)), fun _ => ?_⟩
               | refine ⟨fun _ => ?_, fun h => absurd (by with_reducible exact nI_le (by omega) (by omega)) h⟩
               | refine ⟨fun h => absurd h (by with_reducible exact nI_nlt (by omega) (by omega)), fun _ => ?_⟩
               | refine ⟨fun _ => ?_, fun h => absurd (by with_reducible exact nI_lt (by omega) (by omega)) h⟩
               | refine ⟨fun h => absurd h (by with_reducible exact nI_pos (by omega)), fun _ => ?_⟩
               | refine ⟨fun _ => ?_, fun h => absurd (by with_reducible exact nI_0le (by omega)) h⟩
               | refine ⟨fun h => absurd h (by decide), fun _ => ?_⟩
               | refine ⟨fun _ => ?_, fun h => absurd (by decide) h⟩
               | refine ⟨fun _ => ?_, fun h => absurd h (by decide)⟩
               | refine ⟨fun h => absurd (by decide) h, fun _ => ?_⟩
               | refine ⟨by decide, ?_⟩
               | refine ⟨rfl, ?_⟩)
            | (conv => whnf
               fail_if_success refine Exists.intro ?_ ?_
               simp only [nI_clamp (show k < 2 ^ 31 by omega), hc, h19, h20, h21, nI_clamp (show i < 2 ^ 31 by omega), nI_clamp (show j < 2 ^ 31 by omega), nI_clamp (show q < 2 ^ 31 by omega), hx, hy]))
          try (conv => whnf)
          refine ⟨fun w => absurd w (by decide), zsw_one _ _ 0 188 rfl rfl ?_⟩
          repeat (first
            | (conv => whnf
               try dsimp only
               try simp (decide := true) only [nI_clamp (show k < 2 ^ 31 by omega), hc, h19, h20, h21, nI_clamp (show i < 2 ^ 31 by omega), nI_clamp (show j < 2 ^ 31 by omega), nI_clamp (show q < 2 ^ 31 by omega), zu_same, zu_ne1, zu_ne2, zu_row, zuL_same, zuL_ne1, zuL_ne2, zrow_n1, zx0, zx1, zx2, zx3, nI_1, Nat.reduceAdd, Nat.reduceMul, Int32.reduceAdd, Int32.reduceSub, Int32.reduceMul]
               first
               | refine ⟨vp_inb (by decide), ?_⟩
               | refine ⟨by with_reducible exact zi (by omega), ?_⟩
               | refine ⟨fun h => absurd h (by with_reducible exact nI_ge (by omega) (by omega)), fun _ => ?_⟩
               | refine ⟨fun _ => ?_, fun h => absurd (by with_reducible exact nI_le (by omega) (by omega)) h⟩
               | refine ⟨fun h => absurd h (by with_reducible exact nI_nlt (by omega) (by omega)), fun _ => ?_⟩
               | refine ⟨fun _ => ?_, fun h => absurd (by with_reducible exact nI_lt (by omega) (by omega)) h⟩
               | refine ⟨fun h => absurd h (by with_reducible exact nI_pos (by omega)), fun _ => ?_⟩
               | refine ⟨fun _ => ?_, fun h => absurd (by with_reducible exact nI_0le (by omega)) h⟩
               | refine ⟨fun h => absurd h (by decide), fun _ => ?_⟩
               | refine ⟨fun _ => ?_, fun h => absurd (by decide) h⟩
               | refine ⟨fun _ => ?_, fun h => absurd h (by decide)⟩
               | refine ⟨fun h => absurd (by decide) h, fun _ => ?_⟩
               | refine ⟨by decide, ?_⟩
               | refine ⟨rfl, ?_⟩)
            | (conv => whnf
               fail_if_success refine Exists.intro ?_ ?_
               simp only [nI_clamp (show k < 2 ^ 31 by omega), hc, h19, h20, h21, nI_clamp (show i < 2 ^ 31 by omega), nI_clamp (show j < 2 ^ 31 by omega), nI_clamp (show q < 2 ^ 31 by omega)]))
          try (conv => whnf)
          refine ⟨(_, _), rfl, rfl, trivial, ?_⟩
          try dsimp only
          repeat (conv => whnf
                  try dsimp only
                  try simp (decide := true) only [zu_same, zu_ne1, zu_ne2, zu_row, zuL_same, zuL_ne1, zuL_ne2, zrow_n1, zx0, zx1, zx2, zx3, nI_1, Nat.reduceAdd, Nat.reduceMul, Int32.reduceAdd, Int32.reduceSub, Int32.reduceMul]
                  first
                  | refine ⟨vp_inb (by decide), ?_⟩
                  | refine ⟨by with_reducible exact zi (by omega), ?_⟩
                  | refine ⟨fun h => absurd h (by with_reducible exact nI_ge (by omega) (by omega)), fun _ => ?_⟩
                  | refine ⟨fun _ => ?_, fun h => absurd (by with_reducible exact nI_le (by omega) (by omega)) h⟩
                  | refine ⟨fun h => absurd h (by with_reducible exact nI_nlt (by omega) (by omega)), fun _ => ?_⟩
                  | refine ⟨fun _ => ?_, fun h => absurd (by with_reducible exact nI_lt (by omega) (by omega)) h⟩
                  | refine ⟨fun h => absurd h (by with_reducible exact nI_pos (by omega)), fun _ => ?_⟩
                  | refine ⟨fun _ => ?_, fun h => absurd (by with_reducible exact nI_0le (by omega)) h⟩
                  | refine ⟨fun h => absurd h (by decide), fun _ => ?_⟩
                  | refine ⟨fun _ => ?_, fun h => absurd (by decide) h⟩
                  | refine ⟨fun _ => ?_, fun h => absurd h (by decide)⟩
                  | refine ⟨fun h => absurd (by decide) h, fun _ => ?_⟩
                  | refine ⟨by decide, ?_⟩
                  | refine ⟨rfl, ?_⟩)
          try (conv => whnf)
          exact hK
        · skip
          simp (decide := true) only [if_false, if_true, ite_true, ite_false] at hK
          by_cases h2 : y = zBRK
          · rw [if_pos h2] at hK
            refine hG 200 _ _ _ _ _ ?_
            repeat (first
              | (conv => whnf
                 try dsimp only
                 try simp (decide := true) only [nI_clamp (show k < 2 ^ 31 by omega), hc, h19, h20, h21, nI_clamp (show i < 2 ^ 31 by omega), nI_clamp (show j < 2 ^ 31 by omega), nI_clamp (show q < 2 ^ 31 by omega), hx, zu_same, zu_ne1, zu_ne2, zu_row, zuL_same, zuL_ne1, zuL_ne2, zrow_n1, zx0, zx1, zx2, zx3, nI_1, Nat.reduceAdd, Nat.reduceMul, Int32.reduceAdd, Int32.reduceSub, Int32.reduceMul]
                 first
                 | refine ⟨vp_inb (by decide), ?_⟩
                 | refine ⟨by with_reducible exact zi (by omega), ?_⟩
                 | refine ⟨fun h => absurd h (by with_reducible exact nI_ge (by omega) (by omega)), fun _ => ?_⟩
                 | refine ⟨fun _ => ?_, fun h => absurd (by with_reducible exact nI_le (by omega) (by omega)) h⟩
                 | refine ⟨fun h => absurd h (by with_reducible exact nI_nlt (by omega) (by omega)), fun _ => ?_⟩
                 | refine ⟨fun _ => ?_, fun h => absurd (by with_reducible exact nI_lt (by omega) (by omega)) h⟩
                 | refine ⟨fun h => absurd h (by with_reducible exact nI_pos (by omega)), fun _ => ?_⟩
                 | refine ⟨fun _ => ?_, fun h => absurd (by with_reducible exact nI_0le (by omega)) h⟩
                 | refine ⟨fun h => absurd h (by decide), fun _ => ?_⟩
                 | refine ⟨fun _ => ?_, fun h => absurd (by decide) h⟩
                 | refine ⟨fun _ => ?_, fun h => absurd h (by decide)⟩
                 | refine ⟨fun h => absurd (by decide) h, fun _ => ?_⟩
                 | refine ⟨by decide, ?_⟩
                 | refine ⟨rfl, ?_⟩)
              | (conv => whnf
                 fail_if_success refine Exists.intro ?_ ?_
                 simp only [nI_clamp (show k < 2 ^ 31 by omega), hc, h19, h20, h21, nI_clamp (show i < 2 ^ 31 by omega), nI_clamp (show j < 2 ^ 31 by omega), nI_clamp (show q < 2 ^ 31 by omega), hx]))
            try (conv => whnf)
            refine ⟨fun _ => ?_, fun w => absurd w h1⟩
            repeat (first
              | (conv => whnf
                 try dsimp only
                 try simp (decide := true) only [nI_clamp (show k < 2 ^ 31 by omega), hc, h19, h20, h21, nI_clamp (show i < 2 ^ 31 by omega), nI_clamp (show j < 2 ^ 31 by omega), nI_clamp (show q < 2 ^ 31 by omega), hx, hy, zu_same, zu_ne1, zu_ne2, zu_row, zuL_same, zuL_ne1, zuL_ne2, zrow_n1, zx0, zx1, zx2, zx3, nI_1, Nat.reduceAdd, Nat.reduceMul, Int32.reduceAdd, Int32.reduceSub, Int32.reduceMul]
                 first
                 | refine ⟨vp_inb (by decide), ?_⟩
                 | refine ⟨by with_reducible exact zi (by omega), ?_⟩
                 | refine ⟨fun h => absurd h (by with_reducible exact nI_ge (by omega) (by omega)), fun _ => ?_⟩
                 | refine ⟨fun _ => ?_, fun h => absurd (by with_reducible exact nI_le (by omega) (by omega)) h⟩
                 | refine ⟨fun h => absurd h (by with_reducible exact nI_nlt (by omega) (by omega)), fun _ => ?_⟩
                 | refine ⟨fun _ => ?_, fun h => absurd (by with_reducible exact nI_lt (by omega) (by omega)) h⟩
                 | refine ⟨fun h => absurd h (by with_reducible exact nI_pos (by omega)), fun _ => ?_⟩
                 | refine ⟨fun _ => ?_, fun h => absurd (by with_reducible exact nI_0le (by omega)) h⟩
                 | refine ⟨fun h => absurd h (by decide), fun _ => ?_⟩
                 | refine ⟨fun _ => ?_, fun h => absurd (by decide) h⟩
                 | refine ⟨fun _ => ?_, fun h => absurd h (by decide)⟩
                 | refine ⟨fun h => absurd (by decide) h, fun _ => ?_⟩
                 | refine ⟨by decide, ?_⟩
                 | refine ⟨rfl, ?_⟩)
              | (conv => whnf
                 fail_if_success refine Exists.intro ?_ ?_
                 simp only [nI_clamp (show k < 2 ^ 31 by omega), hc, h19, h20, h21, nI_clamp (show i < 2 ^ 31 by omega), nI_clamp (show j < 2 ^ 31 by omega), nI_clamp (show q < 2 ^ 31 by omega), hx, hy]))
            try (conv => whnf)
            refine ⟨fun w => absurd h2 w, fun _ => ?_⟩
            repeat (first
              | (conv => whnf
                 try dsimp only
                 try simp (decide := true) only [nI_clamp (show k < 2 ^ 31 by omega), hc, h19, h20, h21, nI_clamp (show i < 2 ^ 31 by omega), nI_clamp (show j < 2 ^ 31 by omega), nI_clamp (show q < 2 ^ 31 by omega), hx, hy, zu_same, zu_ne1, zu_ne2, zu_row, zuL_same, zuL_ne1, zuL_ne2, zrow_n1, zx0, zx1, zx2, zx3, nI_1, Nat.reduceAdd, Nat.reduceMul, Int32.reduceAdd, Int32.reduceSub, Int32.reduceMul]
                 first
                 | refine ⟨vp_inb (by decide), ?_⟩
                 | refine ⟨by with_reducible exact zi (by omega), ?_⟩
                 | refine ⟨fun h => absurd h (by with_reducible exact nI_ge (by omega) (by omega)), fun _ => ?_⟩
                 | refine ⟨fun _ => ?_, fun h => absurd (by with_reducible exact nI_le (by omega) (by omega)) h⟩
                 | refine ⟨fun h => absurd h (by with_reducible exact nI_nlt (by omega) (by omega)), fun _ => ?_⟩
                 | refine ⟨fun _ => ?_, fun h => absurd (by with_reducible exact nI_lt (by omega) (by omega)) h⟩
                 | refine ⟨fun h => absurd h (by with_reducible exact nI_pos (by omega)), fun _ => ?_⟩
                 | refine ⟨fun _ => ?_, fun h => absurd (by with_reducible exact nI_0le (by omega)) h⟩
                 | refine ⟨fun h => absurd h (by decide), fun _ => ?_⟩
                 | refine ⟨fun _ => ?_, fun h => absurd (by decide) h⟩
                 | refine ⟨fun _ => ?_, fun h => absurd h (by decide)⟩
                 | refine ⟨fun h => absurd (by decide) h, fun _ => ?_⟩
                 | refine ⟨by decide, ?_⟩
                 | refine ⟨rfl, ?_⟩)
              | (conv => whnf
                 fail_if_success refine Exists.intro ?_ ?_
                 simp only [nI_clamp (show k < 2 ^ 31 by omega), hc, h19, h20, h21, nI_clamp (show i < 2 ^ 31 by omega), nI_clamp (show j < 2 ^ 31 by omega), nI_clamp (show q < 2 ^ 31 by omega), hx, hy]))
            try (conv => whnf)
            exact hK
          rw [if_neg h2] at hK
          refine hG 200 _ _ _ _ _ ?_
          repeat (first
            | (conv => whnf
               try dsimp only
               try simp (decide := true) only [nI_clamp (show k < 2 ^ 31 by omega), hc, h19, h20, h21, nI_clamp (show i < 2 ^ 31 by omega), nI_clamp (show j < 2 ^ 31 by omega), nI_clamp (show q < 2 ^ 31 by omega), hx, zu_same, zu_ne1, zu_ne2, zu_row, zuL_same, zuL_ne1, zuL_ne2, zrow_n1, zx0, zx1, zx2, zx3, nI_1, Nat.reduceAdd, Nat.reduceMul, Int32.reduceAdd, Int32.reduceSub, Int32.reduceMul]
               first
               | refine ⟨vp_inb (by decide), ?_⟩
               | refine ⟨by with_reducible exact zi (by omega), ?_⟩
               | refine ⟨fun h => absurd h (by with_reducible exact nI_ge (by omega) (by omega)), fun _ => ?_⟩
               | refine ⟨fun _ => ?_, fun h => absurd (by with_reducible exact nI_le (by omega) (by omega)) h⟩
               | refine ⟨fun h => absurd h (by with_reducible exact nI_nlt (by omega) (by omega)), fun _ => ?_⟩
               | refine ⟨fun _ => ?_, fun h => absurd (by with_reducible exact nI_lt (by omega) (by omega)) h⟩
               | refine ⟨fun h => absurd h (by with_reducible exact nI_pos (by omega)), fun _ => ?_⟩
               | refine ⟨fun _ => ?_, fun h => absurd (by with_reducible exact nI_0le (by omega)) h⟩
               | refine ⟨fun h => absurd h (by decide), fun _ => ?_⟩
               | refine ⟨fun _ => ?_, fun h => absurd (by decide) h⟩
               | refine ⟨fun _ => ?_, fun h => absurd h (by decide)⟩
               | refine ⟨fun h => absurd (by decide) h, fun _ => ?_⟩
               | refine ⟨by decide, ?_⟩
               | refine ⟨rfl, ?_⟩)
            | (conv => whnf
               fail_if_success refine Exists.intro ?_ ?_
               simp only [nI_clamp (show k < 2 ^ 31 by omega), hc, h19, h20, h21, nI_clamp (show i < 2 ^ 31 by omega), nI_clamp (show j < 2 ^ 31 by omega), nI_clamp (show q < 2 ^ 31 by omega), hx]))
          try (conv => whnf)
          refine ⟨fun _ => ?_, fun w => absurd w h1⟩
          repeat (first
            | (conv => whnf
               try dsimp only
               try simp (decide := true) only [nI_clamp (show k < 2 ^ 31 by omega), hc, h19, h20, h21, nI_clamp (show i < 2 ^ 31 by omega), nI_clamp (show j < 2 ^ 31 by omega), nI_clamp (show q < 2 ^ 31 by omega), hx, hy, zu_same, zu_ne1, zu_ne2, zu_row, zuL_same, zuL_ne1, zuL_ne2, zrow_n1, zx0, zx1, zx2, zx3, nI_1, Nat.reduceAdd, Nat.reduceMul, Int32.reduceAdd, Int32.reduceSub, Int32.reduceMul]
               first
               | refine ⟨vp_inb (by decide), ?_⟩
               | refine ⟨by with_reducible exact zi (by omega), ?_⟩
               | refine ⟨fun h => absurd h (by with_reducible exact nI_ge (by omega) (by omega)), fun _ => ?_⟩
               | refine ⟨fun _ => ?_, fun h => absurd (by with_reducible exact nI_le (by omega) (by omega)) h⟩
               | refine ⟨fun h => absurd h (by with_reducible exact nI_nlt (by omega) (by omega)), fun _ => ?_⟩
               | refine ⟨fun _ => ?_, fun h => absurd (by with_reducible exact nI_lt (by omega) (by omega)) h⟩
               | refine ⟨fun h => absurd h (by with_reducible exact nI_pos (by omega)), fun _ => ?_⟩
               | refine ⟨fun _ => ?_, fun h => absurd (by with_reducible exact nI_0le (by omega)) h⟩
               | refine ⟨fun h => absurd h (by decide), fun _ => ?_⟩
               | refine ⟨fun _ => ?_, fun h => absurd (by decide) h⟩
               | refine ⟨fun _ => ?_, fun h => absurd h (by decide)⟩
               | refine ⟨fun h => absurd (by decide) h, fun _ => ?_⟩
               | refine ⟨by decide, ?_⟩
               | refine ⟨rfl, ?_⟩)
            | (conv => whnf
               fail_if_success refine Exists.intro ?_ ?_
               simp only [nI_clamp (show k < 2 ^ 31 by omega), hc, h19, h20, h21, nI_clamp (show i < 2 ^ 31 by omega), nI_clamp (show j < 2 ^ 31 by omega), nI_clamp (show q < 2 ^ 31 by omega), hx, hy]))
          try (conv => whnf)
          refine ⟨fun _ => ?_, fun w => absurd w h2⟩
          repeat (first
            | (conv => whnf
               try dsimp only
               try simp (decide := true) only [nI_clamp (show k < 2 ^ 31 by omega), hc, h19, h20, h21, nI_clamp (show i < 2 ^ 31 by omega), nI_clamp (show j < 2 ^ 31 by omega), nI_clamp (show q < 2 ^ 31 by omega), hx, hy, zu_same, zu_ne1, zu_ne2, zu_row, zuL_same, zuL_ne1, zuL_ne2, zrow_n1, zx0, zx1, zx2, zx3, nI_1, Nat.reduceAdd, Nat.reduceMul, Int32.reduceAdd, Int32.reduceSub, Int32.reduceMul]
               first
               | refine ⟨vp_inb (by decide), ?_⟩
               | refine ⟨by with_reducible exact zi (by omega), ?_⟩
               | refine ⟨fun h => absurd h (by with_reducible exact nI_ge (by omega) (by omega)), fun _ => ?_⟩
               | refine ⟨fun _ => ?_, fun h => absurd (by with_reducible exact nI_le (by omega) (by omega)) h⟩
               | refine ⟨fun h => absurd h (by with_reducible exact nI_nlt (by omega) (by omega)), fun _ => ?_⟩
               | refine ⟨fun _ => ?_, fun h => absurd (by with_reducible exact nI_lt (by omega) (by omega)) h⟩
               | refine ⟨fun h => absurd h (by with_reducible exact nI_pos (by omega)), fun _ => ?_⟩
               | refine ⟨fun _ => ?_, fun h => absurd (by with_reducible exact nI_0le (by omega)) h⟩
               | refine ⟨fun h => absurd h (by decide), fun _ => ?_⟩
               | refine ⟨fun _ => ?_, fun h => absurd (by decide) h⟩
               | refine ⟨fun _ => ?_, fun h => absurd h (by decide)⟩
               | refine ⟨fun h => absurd (by decide) h, fun _ => ?_⟩
               | refine ⟨by decide, ?_⟩
               | refine ⟨rfl, ?_⟩)
            | (conv => whnf
               fail_if_success refine Exists.intro ?_ ?_
               simp only [nI_clamp (show k < 2 ^ 31 by omega), hc, h19, h20, h21, nI_clamp (show i < 2 ^ 31 by omega), nI_clamp (show j < 2 ^ 31 by omega), nI_clamp (show q < 2 ^ 31 by omega), hx, hy]))
          try (conv => whnf)
          refine ⟨fun w => absurd w (by decide), zsw_one _ _ 1 199 rfl rfl ?_⟩
          repeat (first
            | (conv => whnf
               try dsimp only
               try simp (decide := true) only [nI_clamp (show k < 2 ^ 31 by omega), hc, h19, h20, h21, nI_clamp (show i < 2 ^ 31 by omega), nI_clamp (show j < 2 ^ 31 by omega), nI_clamp (show q < 2 ^ 31 by omega), zu_same, zu_ne1, zu_ne2, zu_row, zuL_same, zuL_ne1, zuL_ne2, zrow_n1, zx0, zx1, zx2, zx3, nI_1, Nat.reduceAdd, Nat.reduceMul, Int32.reduceAdd, Int32.reduceSub, Int32.reduceMul]
               first
               | refine ⟨vp_inb (by decide), ?_⟩
               | refine ⟨by with_reducible exact zi (by omega), ?_⟩
               | refine ⟨fun h => absurd h (by with_reducible exact nI_ge (by omega) (by omega)), fun _ => ?_⟩
               | refine ⟨fun _ => ?_, fun h => absurd (by with_reducible exact nI_le (by omega) (by omega)) h⟩
               | refine ⟨fun h => absurd h (by with_reducible exact nI_nlt (by omega) (by omega)), fun _ => ?_⟩
               | refine ⟨fun _ => ?_, fun h => absurd (by with_reducible exact nI_lt (by omega) (by omega)) h⟩
               | refine ⟨fun h => absurd h (by with_reducible exact nI_pos (by omega)), fun _ => ?_⟩
               | refine ⟨fun _ => ?_, fun h => absurd (by with_reducible exact nI_0le (by omega)) h⟩
               | refine ⟨fun h => absurd h (by decide), fun _ => ?_⟩
               | refine ⟨fun _ => ?_, fun h => absurd (by decide) h⟩
               | refine ⟨fun _ => ?_, fun h => absurd h (by decide)⟩
               | refine ⟨fun h => absurd (by decide) h, fun _ => ?_⟩
               | refine ⟨by decide, ?_⟩
               | refine ⟨rfl, ?_⟩)
            | (conv => whnf
               fail_if_success refine Exists.intro ?_ ?_
               simp only [nI_clamp (show k < 2 ^ 31 by omega), hc, h19, h20, h21, nI_clamp (show i < 2 ^ 31 by omega), nI_clamp (show j < 2 ^ 31 by omega), nI_clamp (show q < 2 ^ 31 by omega)]))
          try (conv => whnf)
          refine ⟨(_, _), rfl, rfl, trivial, ?_⟩
          try dsimp only
          repeat (conv => whnf
                  try dsimp only
                  try simp (decide := true) only [zu_same, zu_ne1, zu_ne2, zu_row, zuL_same, zuL_ne1, zuL_ne2, zrow_n1, zx0, zx1, zx2, zx3, nI_1, Nat.reduceAdd, Nat.reduceMul, Int32.reduceAdd, Int32.reduceSub, Int32.reduceMul]
                  first
                  | refine ⟨vp_inb (by decide), ?_⟩
                  | refine ⟨by with_reducible exact zi (by omega), ?_⟩
                  | refine ⟨fun h => absurd h (by with_reducible exact nI_ge (by omega) (by omega)), fun _ => ?_⟩
                  | refine ⟨fun _ => ?_, fun h => absurd (by with_reducible exact nI_le (by omega) (by omega)) h⟩
                  | refine ⟨fun h => absurd h (by with_reducible exact nI_nlt (by omega) (by omega)), fun _ => ?_⟩
                  | refine ⟨fun _ => ?_, fun h => absurd (by with_reducible exact nI_lt (by omega) (by omega)) h⟩
                  | refine ⟨fun h => absurd h (by with_reducible exact nI_pos (by omega)), fun _ => ?_⟩
                  | refine ⟨fun _ => ?_, fun h => absurd (by with_reducible exact nI_0le (by omega)) h⟩
                  | refine ⟨fun h => absurd h (by decide), fun _ => ?_⟩
                  | refine ⟨fun _ => ?_, fun h => absurd (by decide) h⟩
                  | refine ⟨fun _ => ?_, fun h => absurd h (by decide)⟩
                  | refine ⟨fun h => absurd (by decide) h, fun _ => ?_⟩
                  | refine ⟨by decide, ?_⟩
                  | refine ⟨rfl, ?_⟩)
          try (conv => whnf)
          exact hK
        · skip
          simp (decide := true) only [if_false, if_true, ite_true, ite_false] at hK
          by_cases h2 : y = zBRK
          · rw [if_pos h2] at hK
            refine hG 200 _ _ _ _ _ ?_
            repeat (first
              | (conv => whnf
                 try dsimp only
                 try simp (decide := true) only [nI_clamp (show k < 2 ^ 31 by omega), hc, h19, h20, h21, nI_clamp (show i < 2 ^ 31 by omega), nI_clamp (show j < 2 ^ 31 by omega), nI_clamp (show q < 2 ^ 31 by omega), hx, zu_same, zu_ne1, zu_ne2, zu_row, zuL_same, zuL_ne1, zuL_ne2, zrow_n1, zx0, zx1, zx2, zx3, nI_1, Nat.reduceAdd, Nat.reduceMul, Int32.reduceAdd, Int32.reduceSub, Int32.reduceMul]
                 first
                 | refine ⟨vp_inb (by decide), ?_⟩
                 | refine ⟨by with_reducible exact zi (by omega), ?_⟩
                 | refine ⟨fun h => absurd h (by with_reducible exact nI_ge (by omega) (by omega)), fun _ => ?_⟩
                 | refine ⟨fun _ => ?_, fun h => absurd (by with_reducible exact nI_le (by omega) (by omega)) h⟩
                 | refine ⟨fun h => absurd h (by with_reducible exact nI_nlt (by omega) (by omega)), fun _ => ?_⟩
                 | refine ⟨fun _ => ?_, fun h => absurd (by with_reducible exact nI_lt (by omega) (by omega)) h⟩
                 | refine ⟨fun h => absurd h (by with_reducible exact nI_pos (by omega)), fun _ => ?_⟩
                 | refine ⟨fun _ => ?_, fun h => absurd (by with_reducible exact nI_0le (by omega)) h⟩
                 | refine ⟨fun h => absurd h (by decide), fun _ => ?_⟩
                 | refine ⟨fun _ => ?_, fun h => absurd (by decide) h⟩
                 | refine ⟨fun _ => ?_, fun h => absurd h (by decide)⟩
                 | refine ⟨fun h => absurd (by decide) h, fun _ => ?_⟩
                 | refine ⟨by decide, ?_⟩
                 | refine ⟨rfl, ?_⟩)
              | (conv => whnf
                 fail_if_success refine Exists.intro ?_ ?_
                 simp only [nI_clamp (show k < 2 ^ 31 by omega), hc, h19, h20, h21, nI_clamp (show i < 2 ^ 31 by omega), nI_clamp (show j < 2 ^ 31 by omega), nI_clamp (show q < 2 ^ 31 by omega), hx]))
            try (conv => whnf)
            refine ⟨fun _ => ?_, fun w => absurd w h1⟩
            repeat (first
              | (conv => whnf
                 try dsimp only
                 try simp (decide := true) only [nI_clamp (show k < 2 ^ 31 by omega), hc, h19, h20, h21, nI_clamp (show i < 2 ^ 31 by omega), nI_clamp (show j < 2 ^ 31 by omega), nI_clamp (show q < 2 ^ 31 by omega), hx, hy, zu_same, zu_ne1, zu_ne2, zu_row, zuL_same, zuL_ne1, zuL_ne2, zrow_n1, zx0, zx1, zx2, zx3, nI_1, Nat.reduceAdd, Nat.reduceMul, Int32.reduceAdd, Int32.reduceSub, Int32.reduceMul]
                 first
                 | refine ⟨vp_inb (by decide), ?_⟩
                 | refine ⟨by with_reducible exact zi (by omega), ?_⟩
                 | refine ⟨fun h => absurd h (by with_reducible exact nI_ge (by omega) (by omega)), fun _ => ?_⟩
                 | refine ⟨fun _ => ?_, fun h => absurd (by with_reducible exact nI_le (by omega) (by omega)) h⟩
                 | refine ⟨fun h => absurd h (by with_reducible exact nI_nlt (by omega) (by omega)), fun _ => ?_⟩
                 | refine ⟨fun _ => ?_, fun h => absurd (by with_reducible exact nI_lt (by omega) (by omega)) h⟩
                 | refine ⟨fun h => absurd h (by with_reducible exact nI_pos (by omega)), fun _ => ?_⟩
                 | refine ⟨fun _ => ?_, fun h => absurd (by with_reducible exact nI_0le (by omega)) h⟩
                 | refine ⟨fun h => absurd h (by decide), fun _ => ?_⟩
                 | refine ⟨fun _ => ?_, fun h => absurd (by decide) h⟩
                 | refine ⟨fun _ => ?_, fun h => absurd h (by decide)⟩
                 | refine ⟨fun h => absurd (by decide) h, fun _ => ?_⟩
                 | refine ⟨by decide, ?_⟩
                 | refine ⟨rfl, ?_⟩)
              | (conv => whnf
                 fail_if_success refine Exists.intro ?_ ?_
                 simp only [nI_clamp (show k < 2 ^ 31 by omega), hc, h19, h20, h21, nI_clamp (show i < 2 ^ 31 by omega), nI_clamp (show j < 2 ^ 31 by omega), nI_clamp (show q < 2 ^ 31 by omega), hx, hy]))
            try (conv => whnf)
            refine ⟨fun w => absurd h2 w, fun _ => ?_⟩
            repeat (first
              | (conv => whnf
                 try dsimp only
                 try simp (decide := true) only [nI_clamp (show k < 2 ^ 31 by omega), hc, h19, h20, h21, nI_clamp (show i < 2 ^ 31 by omega), nI_clamp (show j < 2 ^ 31 by omega), nI_clamp (show q < 2 ^ 31 by omega), hx, hy, zu_same, zu_ne1, zu_ne2, zu_row, zuL_same, zuL_ne1, zuL_ne2, zrow_n1, zx0, zx1, zx2, zx3, nI_1, Nat.reduceAdd, Nat.reduceMul, Int32.reduceAdd, Int32.reduceSub, Int32.reduceMul]
                 first
                 | refine ⟨vp_inb (by decide), ?_⟩
                 | refine ⟨by with_reducible exact zi (by omega), ?_⟩
                 | refine ⟨fun h => absurd h (by with_reducible exact nI_ge (by omega) (by omega)), fun _ => ?_⟩
                 | refine ⟨fun _ => ?_, fun h => absurd (by with_reducible exact nI_le (by omega) (by omega)) h⟩
                 | refine ⟨fun h => absurd h (by with_reducible exact nI_nlt (by omega) (by omega)), fun _ => ?_⟩
                 | refine ⟨fun _ => ?_, fun h => absurd (by with_reducible exact nI_lt (by omega) (by omega)) h⟩
                 | refine ⟨fun h => absurd h (by with_reducible exact nI_pos (by omega)), fun _ => ?_⟩
                 | refine ⟨fun _ => ?_, fun h => absurd (by with_reducible exact nI_0le (by omega)) h⟩
                 | refine ⟨fun h => absurd h (by decide), fun _ => ?_⟩
                 | refine ⟨fun _ => ?_, fun h => absurd (by decide) h⟩
                 | refine ⟨fun _ => ?_, fun h => absurd h (by decide)⟩
                 | refine ⟨fun h => absurd (by decide) h, fun _ => ?_⟩
                 | refine ⟨by decide, ?_⟩
                 | refine ⟨rfl, ?_⟩)
              | (conv => whnf
                 fail_if_success refine Exists.intro ?_ ?_
                 simp only [nI_clamp (show k < 2 ^ 31 by omega), hc, h19, h20, h21, nI_clamp (show i < 2 ^ 31 by omega), nI_clamp (show j < 2 ^ 31 by omega), nI_clamp (show q < 2 ^ 31 by omega), hx, hy]))
            try (conv => whnf)
            exact hK
          rw [if_neg h2] at hK
          refine hG 200 _ _ _ _ _ ?_
          repeat (first
            | (conv => whnf
               try dsimp only
               try simp (decide := true) only [nI_clamp (show k < 2 ^ 31 by omega), hc, h19, h20, h21, nI_clamp (show i < 2 ^ 31 by omega), nI_clamp (show j < 2 ^ 31 by omega), nI_clamp (show q < 2 ^ 31 by omega), hx, zu_same, zu_ne1, zu_ne2, zu_row, zuL_same, zuL_ne1, zuL_ne2, zrow_n1, zx0, zx1, zx2, zx3, nI_1, Nat.reduceAdd, Nat.reduceMul, Int32.reduceAdd, Int32.reduceSub, Int32.reduceMul]
               first
               | refine ⟨vp_inb (by decide), ?_⟩
               | refine ⟨by with_reducible exact zi (by omega), ?_⟩
               | refine ⟨fun h => absurd h (by with_reducible exact nI_ge (by omega) (by omega)), fun _ => ?_⟩
               | refine ⟨fun _ => ?_, fun h => absurd (by with_reducible exact nI_le (by omega) (by omega)) h⟩
               | refine ⟨fun h => absurd h (by with_reducible exact nI_nlt (by omega) (by omega)), fun _ => ?_⟩
               | refine ⟨fun _ => ?_, fun h => absurd (by with_reducible exact nI_lt (by omega) (by omega)) h⟩
               | refine ⟨fun h => absurd h (by with_reducible exact nI_pos (by omega)), fun _ => ?_⟩
               | refine ⟨fun _ => ?_, fun h => absurd (by with_reducible exact nI_0le (by omega)) h⟩
               | refine ⟨fun h => absurd h (by decide), fun _ => ?_⟩
               | refine ⟨fun _ => ?_, fun h => absurd (by decide) h⟩
               | refine ⟨fun _ => ?_, fun h => absurd h (by decide)⟩
               | refine ⟨fun h => absurd (by decide) h, fun _ => ?_⟩
               | refine ⟨by decide, ?_⟩
               | refine ⟨rfl, ?_⟩)
            | (conv => whnf
               fail_if_success refine Exists.intro ?_ ?_
               simp only [nI_clamp (show k < 2 ^ 31 by omega), hc, h19, h20, h21, nI_clamp (show i < 2 ^ 31 by omega), nI_clamp (show j < 2 ^ 31 by omega), nI_clamp (show q < 2 ^ 31 by omega), hx]))
          try (conv => whnf)
          refine ⟨fun _ => ?_, fun w => absurd w h1⟩
          repeat (first
            | (conv => whnf
               try dsimp only
               try simp (decide := true) only [nI_clamp (show k < 2 ^ 31 by omega), hc, h19, h20, h21, nI_clamp (show i < 2 ^ 31 by omega), nI_clamp (show j < 2 ^ 31 by omega), nI_clamp (show q < 2 ^ 31 by omega), hx, hy, zu_same, zu_ne1, zu_ne2, zu_row, zuL_same, zuL_ne1, zuL_ne2, zrow_n1, zx0, zx1, zx2, zx3, nI_1, Nat.reduceAdd, Nat.reduceMul, Int32.reduceAdd, Int32.reduceSub, Int32.reduceMul]
               first
               | refine ⟨vp_inb (by decide), ?_⟩
               | refine ⟨by with_reducible exact zi (by omega), ?_⟩
               | refine ⟨fun h => absurd h (by with_reducible exact nI_ge (by omega) (by omega)), fun _ => ?_⟩
               | refine ⟨fun _ => ?_, fun h => absurd (by with_reducible exact nI_le (by omega) (by omega)) h⟩
               | refine ⟨fun h => absurd h (by with_reducible exact nI_nlt (by omega) (by omega)), fun _ => ?_⟩
               | refine ⟨fun _ => ?_, fun h => absurd (by with_reducible exact nI_lt (by omega) (by omega)) h⟩
               | refine ⟨fun h => absurd h (by with_reducible exact nI_pos (by omega)), fun _ => ?_⟩
               | refine ⟨fun _ => ?_, fun h => absurd (by with_reducible exact nI_0le (by omega)) h⟩
               | refine ⟨fun h => absurd h (by decide), fun _ => ?_⟩
               | refine ⟨fun _ => ?_, fun h => absurd (by decide) h⟩
               | refine ⟨fun _ => ?_, fun h => absurd h (by decide)⟩
               | refine ⟨fun h => absurd (by decide) h, fun _ => ?_⟩
               | refine ⟨by decide, ?_⟩
               | refine ⟨rfl, ?_⟩)
            | (conv => whnf
               fail_if_success refine Exists.intro ?_ ?_
               simp only [nI_clamp (show k < 2 ^ 31 by omega), hc, h19, h20, h21, nI_clamp (show i < 2 ^ 31 by omega), nI_clamp (show j < 2 ^ 31 by omega), nI_clamp (show q < 2 ^ 31 by omega), hx, hy]))
          try (conv => whnf)
          refine ⟨fun _ => ?_, fun w => absurd w h2⟩
          repeat (first
            | (conv => whnf
               try dsimp only
               try simp (decide := true) only [nI_clamp (show k < 2 ^ 31 by omega), hc, h19, h20, h21, nI_clamp (show i < 2 ^ 31 by omega), nI_clamp (show j < 2 ^ 31 by omega), nI_clamp (show q < 2 ^ 31 by omega), hx, hy, zu_same, zu_ne1, zu_ne2, zu_row, zuL_same, zuL_ne1, zuL_ne2, zrow_n1, zx0, zx1, zx2, zx3, nI_1, Nat.reduceAdd, Nat.reduceMul, Int32.reduceAdd, Int32.reduceSub, Int32.reduceMul]
               first
               | refine ⟨vp_inb (by decide), ?_⟩
               | refine ⟨by with_reducible exact zi (by omega), ?_⟩
               | refine ⟨fun h => absurd h (by with_reducible exact nI_ge (by omega) (by omega)), fun _ => ?_⟩
               | refine ⟨fun _ => ?_, fun h => absurd (by with_reducible exact nI_le (by omega) (by omega)) h⟩
               | refine ⟨fun h => absurd h (by with_reducible exact nI_nlt (by omega) (by omega)), fun _ => ?_⟩
               | refine ⟨fun _ => ?_, fun h => absurd (by with_reducible exact nI_lt (by omega) (by omega)) h⟩
               | refine ⟨fun h => absurd h (by with_reducible exact nI_pos (by omega)), fun _ => ?_⟩
               | refine ⟨fun _ => ?_, fun h => absurd (by with_reducible exact nI_0le (by omega)) h⟩
               | refine ⟨fun h => absurd h (by decide), fun _ => ?_⟩
               | refine ⟨fun _ => ?_, fun h => absurd (by decide) h⟩
               | refine ⟨fun _ => ?_, fun h => absurd h (by decide)⟩
               | refine ⟨fun h => absurd (by decide) h, fun _ => ?_⟩
               | refine ⟨by decide, ?_⟩
               | refine ⟨rfl, ?_⟩)
            | (conv => whnf
               fail_if_success refine Exists.intro ?_ ?_
               simp only [nI_clamp (show k < 2 ^ 31 by omega), hc, h19, h20, h21, nI_clamp (show i < 2 ^ 31 by omega), nI_clamp (show j < 2 ^ 31 by omega), nI_clamp (show q < 2 ^ 31 by omega), hx, hy]))
          try (conv => whnf)
          refine ⟨fun w => absurd w (by decide), zsw_one _ _ 2 210 rfl rfl ?_⟩
          repeat (first
            | (conv => whnf
               try dsimp only
               try simp (decide := true) only [nI_clamp (show k < 2 ^ 31 by omega), hc, h19, h20, h21, nI_clamp (show i < 2 ^ 31 by omega), nI_clamp (show j < 2 ^ 31 by omega), nI_clamp (show q < 2 ^ 31 by omega), zu_same, zu_ne1, zu_ne2, zu_row, zuL_same, zuL_ne1, zuL_ne2, zrow_n1, zx0, zx1, zx2, zx3, nI_1, Nat.reduceAdd, Nat.reduceMul, Int32.reduceAdd, Int32.reduceSub, Int32.reduceMul]
               first
               | refine ⟨vp_inb (by decide), ?_⟩
               | refine ⟨by with_reducible exact zi (by omega), ?_⟩
               | refine ⟨fun h => absurd h (by with_reducible exact nI_ge (by omega) (by omega)), fun _ => ?_⟩
               | refine ⟨fun _ => ?_, fun h => absurd (by with_reducible exact nI_le (by omega) (by omega)) h⟩
               | refine ⟨fun h => absurd h (by with_reducible exact nI_nlt (by omega) (by omega)), fun _ => ?_⟩
               | refine ⟨fun _ => ?_, fun h => absurd (by with_reducible exact nI_lt (by omega) (by omega)) h⟩
               | refine ⟨fun h => absurd h (by with_reducible exact nI_pos (by omega)), fun _ => ?_⟩
               | refine ⟨fun _ => ?_, fun h => absurd (by with_reducible exact nI_0le (by omega)) h⟩
               | refine ⟨fun h => absurd h (by decide), fun _ => ?_⟩
               | refine ⟨fun _ => ?_, fun h => absurd (by decide) h⟩
               | refine ⟨fun _ => ?_, fun h => absurd h (by decide)⟩
               | refine ⟨fun h => absurd (by decide) h, fun _ => ?_⟩
               | refine ⟨by decide, ?_⟩
               | refine ⟨rfl, ?_⟩)
            | (conv => whnf
               fail_if_success refine Exists.intro ?_ ?_
               simp only [nI_clamp (show k < 2 ^ 31 by omega), hc, h19, h20, h21, nI_clamp (show i < 2 ^ 31 by omega), nI_clamp (show j < 2 ^ 31 by omega), nI_clamp (show q < 2 ^ 31 by omega)]))
          try (conv => whnf)
          refine ⟨(_, _), rfl, rfl, trivial, ?_⟩
          try dsimp only
          repeat (conv => whnf
                  try dsimp only
                  try simp (decide := true) only [zu_same, zu_ne1, zu_ne2, zu_row, zuL_same, zuL_ne1, zuL_ne2, zrow_n1, zx0, zx1, zx2, zx3, nI_1, Nat.reduceAdd, Nat.reduceMul, Int32.reduceAdd, Int32.reduceSub, Int32.reduceMul]
                  first
                  | refine ⟨vp_inb (by decide), ?_⟩
                  | refine ⟨by with_reducible exact zi (by omega), ?_⟩
                  | refine ⟨fun h => absurd h (by with_reducible exact nI_ge (by omega) (by omega)), fun _ => ?_⟩
                  | refine ⟨fun _ => ?_, fun h => absurd (by with_reducible exact nI_le (by omega) (by omega)) h⟩
                  | refine ⟨fun h => absurd h (by with_reducible exact nI_nlt (by omega) (by omega)), fun _ => ?_⟩
                  | refine ⟨fun _ => ?_, fun h => absurd (by with_reducible exact nI_lt (by omega) (by omega)) h⟩
                  | refine ⟨fun h => absurd h (by with_reducible exact nI_pos (by omega)), fun _ => ?_⟩
                  | refine ⟨fun _ => ?_, fun h => absurd (by with_reducible exact nI_0le (by omega)) h⟩
                  | refine ⟨fun h => absurd h (by decide), fun _ => ?_⟩
                  | refine ⟨fun _ => ?_, fun h => absurd (by decide) h⟩
                  | refine ⟨fun _ => ?_, fun h => absurd h (by decide)⟩
                  | refine ⟨fun h => absurd (by decide) h, fun _ => ?_⟩
                  | refine ⟨by decide, ?_⟩
                  | refine ⟨rfl, ?_⟩)
          try (conv => whnf)
          exact hK
        · skip
          simp (decide := true) only [if_false, if_true, ite_true, ite_false] at hK
          by_cases h2 : y = zBRK
          · rw [if_pos h2] at hK
            refine hG 200 _ _ _ _ _ ?_
            repeat (first
              | (conv => whnf
                 try dsimp only
                 try simp (decide := true) only [nI_clamp (show k < 2 ^ 31 by omega), hc, h19, h20, h21, nI_clamp (show i < 2 ^ 31 by omega), nI_clamp (show j < 2 ^ 31 by omega), nI_clamp (show q < 2 ^ 31 by omega), hx, zu_same, zu_ne1, zu_ne2, zu_row, zuL_same, zuL_ne1, zuL_ne2, zrow_n1, zx0, zx1, zx2, zx3, nI_1, Nat.reduceAdd, Nat.reduceMul, Int32.reduceAdd, Int32.reduceSub, Int32.reduceMul]
                 first
                 | refine ⟨vp_inb (by decide), ?_⟩
                 | refine ⟨by with_reducible exact zi (by omega), ?_⟩
                 | refine ⟨fun h => absurd h (by with_reducible exact nI_ge (by omega) (by omega)), fun _ => ?_⟩
                 | refine ⟨fun _ => ?_, fun h => absurd (by with_reducible exact nI_le (by omega) (by omega)) h⟩
                 | refine ⟨fun h => absurd h (by with_reducible exact nI_nlt (by omega) (by omega)), fun _ => ?_⟩
                 | refine ⟨fun _ => ?_, fun h => absurd (by with_reducible exact nI_lt (by omega) (by omega)) h⟩
                 | refine ⟨fun h => absurd h (by with_reducible exact nI_pos (by omega)), fun _ => ?_⟩
                 | refine ⟨fun _ => ?_, fun h => absurd (by with_reducible exact nI_0le (by omega)) h⟩
                 | refine ⟨fun h => absurd h (by decide), fun _ => ?_⟩
                 | refine ⟨fun _ => ?_, fun h => absurd (by decide) h⟩
                 | refine ⟨fun _ => ?_, fun h => absurd h (by decide)⟩
                 | refine ⟨fun h => absurd (by decide) h, fun _ => ?_⟩
                 | refine ⟨by decide, ?_⟩
                 | refine ⟨rfl, ?_⟩)
              | (conv => whnf
                 fail_if_success refine Exists.intro ?_ ?_
                 simp only [nI_clamp (show k < 2 ^ 31 by omega), hc, h19, h20, h21, nI_clamp (show i < 2 ^ 31 by omega), nI_clamp (show j < 2 ^ 31 by omega), nI_clamp (show q < 2 ^ 31 by omega), hx]))
            try (conv => whnf)
            refine ⟨fun _ => ?_, fun w => absurd w h1⟩
            repeat (first
              | (conv => whnf
                 try dsimp only
                 try simp (decide := true) only [nI_clamp (show k < 2 ^ 31 by omega), hc, h19, h20, h21, nI_clamp (show i < 2 ^ 31 by omega), nI_clamp (show j < 2 ^ 31 by omega), nI_clamp (show q < 2 ^ 31 by omega), hx, hy, zu_same, zu_ne1, zu_ne2, zu_row, zuL_same, zuL_ne1, zuL_ne2, zrow_n1, zx0, zx1, zx2, zx3, nI_1, Nat.reduceAdd, Nat.reduceMul, Int32.reduceAdd, Int32.reduceSub, Int32.reduceMul]
                 first
                 | refine ⟨vp_inb (by decide), ?_⟩
                 | refine ⟨by with_reducible exact zi (by omega), ?_⟩
                 | refine ⟨fun h => absurd h (by with_reducible exact nI_ge (by omega) (by omega)), fun _ => ?_⟩
                 | refine ⟨fun _ => ?_, fun h => absurd (by with_reducible exact nI_le (by omega) (by omega)) h⟩
                 | refine ⟨fun h => absurd h (by with_reducible exact nI_nlt (by omega) (by omega)), fun _ => ?_⟩
                 | refine ⟨fun _ => ?_, fun h => absurd (by with_reducible exact nI_lt (by omega) (by omega)) h⟩
                 | refine ⟨fun h => absurd h (by with_reducible exact nI_pos (by omega)), fun _ => ?_⟩
                 | refine ⟨fun _ => ?_, fun h => absurd (by with_reducible exact nI_0le (by omega)) h⟩
                 | refine ⟨fun h => absurd h (by decide), fun _ => ?_⟩
                 | refine ⟨fun _ => ?_, fun h => absurd (by decide) h⟩
                 | refine ⟨fun _ => ?_, fun h => absurd h (by decide)⟩
                 | refine ⟨fun h => absurd (by decide) h, fun _ => ?_⟩
                 | refine ⟨by decide, ?_⟩
                 | refine ⟨rfl, ?_⟩)
              | (conv => whnf
                 fail_if_success refine Exists.intro ?_ ?_
                 simp only [nI_clamp (show k < 2 ^ 31 by omega), hc, h19, h20, h21, nI_clamp (show i < 2 ^ 31 by omega), nI_clamp (show j < 2 ^ 31 by omega), nI_clamp (show q < 2 ^ 31 by omega), hx, hy]))
            try (conv => whnf)
            refine ⟨fun w => absurd h2 w, fun _ => ?_⟩
            repeat (first
              | (conv => whnf
                 try dsimp only
                 try simp (decide := true) only [nI_clamp (show k < 2 ^ 31 by omega), hc, h19, h20, h21, nI_clamp (show i < 2 ^ 31 by omega), nI_clamp (show j < 2 ^ 31 by omega), nI_clamp (show q < 2 ^ 31 by omega), hx, hy, zu_same, zu_ne1, zu_ne2, zu_row, zuL_same, zuL_ne1, zuL_ne2, zrow_n1, zx0, zx1, zx2, zx3, nI_1, Nat.reduceAdd, Nat.reduceMul, Int32.reduceAdd, Int32.reduceSub, Int32.reduceMul]
                 first
                 | refine ⟨vp_inb (by decide), ?_⟩
                 | refine ⟨by with_reducible exact zi (by omega), ?_⟩
                 | refine ⟨fun h => absurd h (by with_reducible exact nI_ge (by omega) (by omega)), fun _ => ?_⟩
                 | refine ⟨fun _ => ?_, fun h => absurd (by with_reducible exact nI_le (by omega) (by omega)) h⟩
                 | refine ⟨fun h => absurd h (by with_reducible exact nI_nlt (by omega) (by omega)), fun _ => ?_⟩
                 | refine ⟨fun _ => ?_, fun h => absurd (by with_reducible exact nI_lt (by omega) (by omega)) h⟩
                 | refine ⟨fun h => absurd h (by with_reducible exact nI_pos (by omega)), fun _ => ?_⟩
                 | refine ⟨fun _ => ?_, fun h => absurd (by with_reducible exact nI_0le (by omega)) h⟩
                 | refine ⟨fun h => absurd h (by decide), fun _ => ?_⟩
                 | refine ⟨fun _ => ?_, fun h => absurd (by decide) h⟩
                 | refine ⟨fun _ => ?_, fun h => absurd h (by decide)⟩
                 | refine ⟨fun h => absurd (by decide) h, fun _ => ?_⟩
                 | refine ⟨by decide, ?_⟩
                 | refine ⟨rfl, ?_⟩)
              | (conv => whnf
                 fail_if_success refine Exists.intro ?_ ?_
                 simp only [nI_clamp (show k < 2 ^ 31 by omega), hc, h19, h20, h21, nI_clamp (show i < 2 ^ 31 by omega), nI_clamp (show j < 2 ^ 31 by omega), nI_clamp (show q < 2 ^ 31 by omega), hx, hy]))
            try (conv => whnf)
            exact hK
          rw [if_neg h2] at hK
          refine hG 200 _ _ _ _ _ ?_
          repeat (first
            | (conv => whnf
               try dsimp only
               try simp (decide := true) only [nI_clamp (show k < 2 ^ 31 by omega), hc, h19, h20, h21, nI_clamp (show i < 2 ^ 31 by omega), nI_clamp (show j < 2 ^ 31 by omega), nI_clamp (show q < 2 ^ 31 by omega), hx, zu_same, zu_ne1, zu_ne2, zu_row, zuL_same, zuL_ne1, zuL_ne2, zrow_n1, zx0, zx1, zx2, zx3, nI_1, Nat.reduceAdd, Nat.reduceMul, Int32.reduceAdd, Int32.reduceSub, Int32.reduceMul]
               first
               | refine ⟨vp_inb (by decide), ?_⟩
               | refine ⟨by with_reducible exact zi (by omega), ?_⟩
               | refine ⟨fun h => absurd h (by with_reducible exact nI_ge (by omega) (by omega)), fun _ => ?_⟩
               | refine ⟨fun _ => ?_, fun h => absurd (by with_reducible exact nI_le (by omega) (by omega)) h⟩
               | refine ⟨fun h => absurd h (by with_reducible exact nI_nlt (by omega) (by omega)), fun _ => ?_⟩
               | refine ⟨fun _ => ?_, fun h => absurd (by with_reducible exact nI_lt (by omega) (by omega)) h⟩
               | refine ⟨fun h => absurd h (by with_reducible exact nI_pos (by omega)), fun _ => ?_⟩
               | refine ⟨fun _ => ?_, fun h => absurd (by with_reducible exact nI_0le (by omega)) h⟩
               | refine ⟨fun h => absurd h (by decide), fun _ => ?_⟩
               | refine ⟨fun _ => ?_, fun h => absurd (by decide) h⟩
               | refine ⟨fun _ => ?_, fun h => absurd h (by decide)⟩
               | refine ⟨fun h => absurd (by decide) h, fun _ => ?_⟩
               | refine ⟨by decide, ?_⟩
               | refine ⟨rfl, ?_⟩)
            | (conv => whnf
               fail_if_success refine Exists.intro ?_ ?_
               simp only [nI_clamp (show k < 2 ^ 31 by omega), hc, h19, h20, h21, nI_clamp (show i < 2 ^ 31 by omega), nI_clamp (show j < 2 ^ 31 by omega), nI_clamp (show q < 2 ^ 31 by omega), hx]))
          try (conv => whnf)
          refine ⟨fun _ => ?_, fun w => absurd w h1⟩
          repeat (first
            | (conv => whnf
               try dsimp only
               try simp (decide := true) only [nI_clamp (show k < 2 ^ 31 by omega), hc, h19, h20, h21, nI_clamp (show i < 2 ^ 31 by omega), nI_clamp (show j < 2 ^ 31 by omega), nI_clamp (show q < 2 ^ 31 by omega), hx, hy, zu_same, zu_ne1, zu_ne2, zu_row, zuL_same, zuL_ne1, zuL_ne2, zrow_n1, zx0, zx1, zx2, zx3, nI_1, Nat.reduceAdd, Nat.reduceMul, Int32.reduceAdd, Int32.reduceSub, Int32.reduceMul]
               first
               | refine ⟨vp_inb (by decide), ?_⟩
               | refine ⟨by with_reducible exact zi (by omega), ?_⟩
               | refine ⟨fun h => absurd h (by with_reducible exact nI_ge (by omega) (by omega)), fun _ => ?_⟩
               | refine ⟨fun _ => ?_, fun h => absurd (by with_reducible exact nI_le (by omega) (by omega)) h⟩
               | refine ⟨fun h => absurd h (by with_reducible exact nI_nlt (by omega) (by omega)), fun _ => ?_⟩
               | refine ⟨fun _ => ?_, fun h => absurd (by with_reducible exact nI_lt (by omega) (by omega)) h⟩
               | refine ⟨fun h => absurd h (by with_reducible exact nI_pos (by omega)), fun _ => ?_⟩
               | refine ⟨fun _ => ?_, fun h => absurd (by with_reducible exact nI_0le (by omega)) h⟩
               | refine ⟨fun h => absurd h (by decide), fun _ => ?_⟩
               | refine ⟨fun _ => ?_, fun h => absurd (by decide) h⟩
               | refine ⟨fun _ => ?_, fun h => absurd h (by decide)⟩
               | refine ⟨fun h => absurd (by decide) h, fun _ => ?_⟩
               | refine ⟨by decide, ?_⟩
               | refine ⟨rfl, ?_⟩)
            | (conv => whnf
               fail_if_success refine Exists.intro ?_ ?_
               simp only [nI_clamp (show k < 2 ^ 31 by omega), hc, h19, h20, h21, nI_clamp (show i < 2 ^ 31 by omega), nI_clamp (show j < 2 ^ 31 by omega), nI_clamp (show q < 2 ^ 31 by omega), hx, hy]))
          try (conv => whnf)
          refine ⟨fun _ => ?_, fun w => absurd w h2⟩
          repeat (first
            | (conv => whnf
               try dsimp only
               try simp (decide := true) only [nI_clamp (show k < 2 ^ 31 by omega), hc, h19, h20, h21, nI_clamp (show i < 2 ^ 31 by omega), nI_clamp (show j < 2 ^ 31 by omega), nI_clamp (show q < 2 ^ 31 by omega), hx, hy, zu_same, zu_ne1, zu_ne2, zu_row, zuL_same, zuL_ne1, zuL_ne2, zrow_n1, zx0, zx1, zx2, zx3, nI_1, Nat.reduceAdd, Nat.reduceMul, Int32.reduceAdd, Int32.reduceSub, Int32.reduceMul]
               first
               | refine ⟨vp_inb (by decide), ?_⟩
               | refine ⟨by with_reducible exact zi (by omega), ?_⟩
               | refine ⟨fun h => absurd h (by with_reducible exact nI_ge (by omega) (by omega)), fun _ => ?_⟩
               | refine ⟨fun _ => ?_, fun h => absurd (by with_reducible exact nI_le (by omega) (by omega)) h⟩
               | refine ⟨fun h => absurd h (by with_reducible exact nI_nlt (by omega) (by omega)), fun _ => ?_⟩
               | refine ⟨fun _ => ?_, fun h => absurd (by with_reducible exact nI_lt (by omega) (by omega)) h⟩
               | refine ⟨fun h => absurd h (by with_reducible exact nI_pos (by omega)), fun _ => ?_⟩
               | refine ⟨fun _ => ?_, fun h => absurd (by with_reducible exact nI_0le (by omega)) h⟩
               | refine ⟨fun h => absurd h (by decide), fun _ => ?_⟩
               | refine ⟨fun _ => ?_, fun h => absurd (by decide) h⟩
               | refine ⟨fun _ => ?_, fun h => absurd h (by decide)⟩
               | refine ⟨fun h => absurd (by decide) h, fun _ => ?_⟩
               | refine ⟨by decide, ?_⟩
               | refine ⟨rfl, ?_⟩)
            | (conv => whnf
               fail_if_success refine Exists.intro ?_ ?_
               simp only [nI_clamp (show k < 2 ^ 31 by omega), hc, h19, h20, h21, nI_clamp (show i < 2 ^ 31 by omega), nI_clamp (show j < 2 ^ 31 by omega), nI_clamp (show q < 2 ^ 31 by omega), hx, hy]))
          try (conv => whnf)
          refine ⟨fun w => absurd w (by decide), zsw_one _ _ 3 225 rfl rfl ?_⟩
          repeat (first
            | (conv => whnf
               try dsimp only
               try simp (decide := true) only [nI_clamp (show k < 2 ^ 31 by omega), hc, h19, h20, h21, nI_clamp (show i < 2 ^ 31 by omega), nI_clamp (show j < 2 ^ 31 by omega), nI_clamp (show q < 2 ^ 31 by omega), zu_same, zu_ne1, zu_ne2, zu_row, zuL_same, zuL_ne1, zuL_ne2, zrow_n1, zx0, zx1, zx2, zx3, nI_1, Nat.reduceAdd, Nat.reduceMul, Int32.reduceAdd, Int32.reduceSub, Int32.reduceMul]
               first
               | refine ⟨vp_inb (by decide), ?_⟩
               | refine ⟨by with_reducible exact zi (by omega), ?_⟩
               | refine ⟨fun h => absurd h (by with_reducible exact nI_ge (by omega) (by omega)), fun _ => ?_⟩
               | refine ⟨fun _ => ?_, fun h => absurd (by with_reducible exact nI_le (by omega) (by omega)) h⟩
               | refine ⟨fun h => absurd h (by with_reducible exact nI_nlt (by omega) (by omega)), fun _ => ?_⟩
               | refine ⟨fun _ => ?_, fun h => absurd (by with_reducible exact nI_lt (by omega) (by omega)) h⟩
               | refine ⟨fun h => absurd h (by with_reducible exact nI_pos (by omega)), fun _ => ?_⟩
               | refine ⟨fun _ => ?_, fun h => absurd (by with_reducible exact nI_0le (by omega)) h⟩
               | refine ⟨fun h => absurd h (by decide), fun _ => ?_⟩
               | refine ⟨fun _ => ?_, fun h => absurd (by decide) h⟩
               | refine ⟨fun _ => ?_, fun h => absurd h (by decide)⟩
               | refine ⟨fun h => absurd (by decide) h, fun _ => ?_⟩
               | refine ⟨by decide, ?_⟩
               | refine ⟨rfl, ?_⟩)
            | (conv => whnf
               fail_if_success refine Exists.intro ?_ ?_
               simp only [nI_clamp (show k < 2 ^ 31 by omega), hc, h19, h20, h21, nI_clamp (show i < 2 ^ 31 by omega), nI_clamp (show j < 2 ^ 31 by omega), nI_clamp (show q < 2 ^ 31 by omega)]))
          try (conv => whnf)
          refine ⟨fun w => ?_, fun w => ?_⟩
          · rw [if_neg w] at hK
            repeat (conv => whnf
                    try dsimp only
                    try simp (decide := true) only [zu_same, zu_ne1, zu_ne2, zu_row, zuL_same, zuL_ne1, zuL_ne2, zrow_n1, zx0, zx1, zx2, zx3, nI_1, Nat.reduceAdd, Nat.reduceMul, Int32.reduceAdd, Int32.reduceSub, Int32.reduceMul]
                    first
                    | refine ⟨vp_inb (by decide), ?_⟩
                    | refine ⟨by with_reducible exact zi (by omega), ?_⟩
                    | refine ⟨fun h => absurd h (by with_reducible exact nI_ge (by omega) (by omega)), fun _ => ?_⟩
                    | refine ⟨fun _ => ?_, fun h => absurd (by with_reducible exact nI_le (by omega) (by omega)) h⟩
                    | refine ⟨fun h => absurd h (by with_reducible exact nI_nlt (by omega) (by omega)), fun _ => ?_⟩
                    | refine ⟨fun _ => ?_, fun h => absurd (by with_reducible exact nI_lt (by omega) (by omega)) h⟩
                    | refine ⟨fun h => absurd h (by with_reducible exact nI_pos (by omega)), fun _ => ?_⟩
                    | refine ⟨fun _ => ?_, fun h => absurd (by with_reducible exact nI_0le (by omega)) h⟩
                    | refine ⟨fun h => absurd h (by decide), fun _ => ?_⟩
                    | refine ⟨fun _ => ?_, fun h => absurd (by decide) h⟩
                    | refine ⟨fun _ => ?_, fun h => absurd h (by decide)⟩
                    | refine ⟨fun h => absurd (by decide) h, fun _ => ?_⟩
                    | refine ⟨by decide, ?_⟩
                    | refine ⟨rfl, ?_⟩)
            try (conv => whnf)
            refine ⟨zl_ne0 w, ?_⟩
            repeat (conv => whnf
                    try dsimp only
                    try simp (decide := true) only [zu_same, zu_ne1, zu_ne2, zu_row, zuL_same, zuL_ne1, zuL_ne2, zrow_n1, zx0, zx1, zx2, zx3, nI_1, Nat.reduceAdd, Nat.reduceMul, Int32.reduceAdd, Int32.reduceSub, Int32.reduceMul]
                    first
                    | refine ⟨vp_inb (by decide), ?_⟩
                    | refine ⟨by with_reducible exact zi (by omega), ?_⟩
                    | refine ⟨fun h => absurd h (by with_reducible exact nI_ge (by omega) (by omega)), fun _ => ?_⟩
                    | refine ⟨fun _ => ?_, fun h => absurd (by with_reducible exact nI_le (by omega) (by omega)) h⟩
                    | refine ⟨fun h => absurd h (by with_reducible exact nI_nlt (by omega) (by omega)), fun _ => ?_⟩
                    | refine ⟨fun _ => ?_, fun h => absurd (by with_reducible exact nI_lt (by omega) (by omega)) h⟩
                    | refine ⟨fun h => absurd h (by with_reducible exact nI_pos (by omega)), fun _ => ?_⟩
                    | refine ⟨fun _ => ?_, fun h => absurd (by with_reducible exact nI_0le (by omega)) h⟩
                    | refine ⟨fun h => absurd h (by decide), fun _ => ?_⟩
                    | refine ⟨fun _ => ?_, fun h => absurd (by decide) h⟩
                    | refine ⟨fun _ => ?_, fun h => absurd h (by decide)⟩
                    | refine ⟨fun h => absurd (by decide) h, fun _ => ?_⟩
                    | refine ⟨by decide, ?_⟩
                    | refine ⟨rfl, ?_⟩)
            try (conv => whnf)
            refine ⟨(_, _), rfl, rfl, trivial, ?_⟩
            try dsimp only
            repeat (conv => whnf
                    try dsimp only
                    try simp (decide := true) only [zu_same, zu_ne1, zu_ne2, zu_row, zuL_same, zuL_ne1, zuL_ne2, zrow_n1, zx0, zx1, zx2, zx3, nI_1, Nat.reduceAdd, Nat.reduceMul, Int32.reduceAdd, Int32.reduceSub, Int32.reduceMul]
                    first
                    | refine ⟨vp_inb (by decide), ?_⟩
                    | refine ⟨by with_reducible exact zi (by omega), ?_⟩
                    | refine ⟨fun h => absurd h (by with_reducible exact nI_ge (by omega) (by omega)), fun _ => ?_⟩
                    | refine ⟨fun _ => ?_, fun h => absurd (by with_reducible exact nI_le (by omega) (by omega)) h⟩
                    | refine ⟨fun h => absurd h (by with_reducible exact nI_nlt (by omega) (by omega)), fun _ => ?_⟩
                    | refine ⟨fun _ => ?_, fun h => absurd (by with_reducible exact nI_lt (by omega) (by omega)) h⟩
                    | refine ⟨fun h => absurd h (by with_reducible exact nI_pos (by omega)), fun _ => ?_⟩
                    | refine ⟨fun _ => ?_, fun h => absurd (by with_reducible exact nI_0le (by omega)) h⟩
                    | refine ⟨fun h => absurd h (by decide), fun _ => ?_⟩
                    | refine ⟨fun _ => ?_, fun h => absurd (by decide) h⟩
                    | refine ⟨fun _ => ?_, fun h => absurd h (by decide)⟩
                    | refine ⟨fun h => absurd (by decide) h, fun _ => ?_⟩
                    | refine ⟨by decide, ?_⟩
                    | refine ⟨rfl, ?_⟩)
            try (conv => whnf)
            exact hK
          · rw [if_pos w] at hK
            repeat (conv => whnf
                    try dsimp only
                    try simp (decide := true) only [zu_same, zu_ne1, zu_ne2, zu_row, zuL_same, zuL_ne1, zuL_ne2, zrow_n1, zx0, zx1, zx2, zx3, nI_1, Nat.reduceAdd, Nat.reduceMul, Int32.reduceAdd, Int32.reduceSub, Int32.reduceMul]
                    first
                    | refine ⟨vp_inb (by decide), ?_⟩
                    | refine ⟨by with_reducible exact zi (by omega), ?_⟩
                    | refine ⟨fun h => absurd h (by with_reducible exact nI_ge (by omega) (by omega)), fun _ => ?_⟩
                    | refine ⟨fun _ => ?_, fun h => absurd (by with_reducible exact nI_le (by omega) (by omega)) h⟩
                    | refine ⟨fun h => absurd h (by with_reducible exact nI_nlt (by omega) (by omega)), fun _ => ?_⟩
                    | refine ⟨fun _ => ?_, fun h => absurd (by with_reducible exact nI_lt (by omega) (by omega)) h⟩
                    | refine ⟨fun h => absurd h (by with_reducible exact nI_pos (by omega)), fun _ => ?_⟩
                    | refine ⟨fun _ => ?_, fun h => absurd (by with_reducible exact nI_0le (by omega)) h⟩
                    | refine ⟨fun h => absurd h (by decide), fun _ => ?_⟩
                    | refine ⟨fun _ => ?_, fun h => absurd (by decide) h⟩
                    | refine ⟨fun _ => ?_, fun h => absurd h (by decide)⟩
                    | refine ⟨fun h => absurd (by decide) h, fun _ => ?_⟩
                    | refine ⟨by decide, ?_⟩
                    | refine ⟨rfl, ?_⟩)
            try (conv => whnf)
            exact hK
        · skip
          simp (decide := true) only [if_false, if_true, ite_true, ite_false] at hK
          by_cases h2 : y = zBRK
          · rw [if_pos h2] at hK
            refine hG 200 _ _ _ _ _ ?_
            repeat (first
              | (conv => whnf
                 try dsimp only
                 try simp (decide := true) only [nI_clamp (show k < 2 ^ 31 by omega), hc, h19, h20, h21, nI_clamp (show i < 2 ^ 31 by omega), nI_clamp (show j < 2 ^ 31 by omega), nI_clamp (show q < 2 ^ 31 by omega), hx, zu_same, zu_ne1, zu_ne2, zu_row, zuL_same, zuL_ne1, zuL_ne2, zrow_n1, zx0, zx1, zx2, zx3, nI_1, Nat.reduceAdd, Nat.reduceMul, Int32.reduceAdd, Int32.reduceSub, Int32.reduceMul]
                 first
                 | refine ⟨vp_inb (by decide), ?_⟩
                 | refine ⟨by with_reducible exact zi (by omega), ?_⟩
                 | refine ⟨fun h => absurd h (by with_reducible exact nI_ge (by omega) (by omega)), fun _ => ?_⟩
                 | refine ⟨fun _ => ?_, fun h => absurd (by with_reducible exact nI_le (by omega) (by omega)) h⟩
                 | refine ⟨fun h => absurd h (by with_reducible exact nI_nlt (by omega) (by omega)), fun _ => ?_⟩
                 | refine ⟨fun _ => ?_, fun h => absurd (by with_reducible exact nI_lt (by omega) (by omega)) h⟩
                 | refine ⟨fun h => absurd h (by with_reducible exact nI_pos (by omega)), fun _ => ?_⟩
                 | refine ⟨fun _ => ?_, fun h => absurd (by with_reducible exact nI_0le (by omega)) h⟩
                 | refine ⟨fun h => absurd h (by decide), fun _ => ?_⟩
                 | refine ⟨fun _ => ?_, fun h => absurd (by decide) h⟩
                 | refine ⟨fun _ => ?_, fun h => absurd h (by decide)⟩
                 | refine ⟨fun h => absurd (by decide) h, fun _ => ?_⟩
                 | refine ⟨by decide, ?_⟩
                 | refine ⟨rfl, ?_⟩)
              | (conv => whnf
                 fail_if_success refine Exists.intro ?_ ?_
                 simp only [nI_clamp (show k < 2 ^ 31 by omega), hc, h19, h20, h21, nI_clamp (show i < 2 ^ 31 by omega), nI_clamp (show j < 2 ^ 31 by omega), nI_clamp (show q < 2 ^ 31 by omega), hx]))
            try (conv => whnf)
            refine ⟨fun _ => ?_, fun w => absurd w h1⟩
            repeat (first
              | (conv => whnf
                 try dsimp only
                 try simp (decide := true) only [nI_clamp (show k < 2 ^ 31 by omega), hc, h19, h20, h21, nI_clamp (show i < 2 ^ 31 by omega), nI_clamp (show j < 2 ^ 31 by omega), nI_clamp (show q < 2 ^ 31 by omega), hx, hy, zu_same, zu_ne1, zu_ne2, zu_row, zuL_same, zuL_ne1, zuL_ne2, zrow_n1, zx0, zx1, zx2, zx3, nI_1, Nat.reduceAdd, Nat.reduceMul, Int32.reduceAdd, Int32.reduceSub, Int32.reduceMul]
                 first
                 | refine ⟨vp_inb (by decide), ?_⟩
                 | refine ⟨by with_reducible exact zi (by omega), ?_⟩
                 | refine ⟨fun h => absurd h (by with_reducible exact nI_ge (by omega) (by omega)), fun _ => ?_⟩
                 | refine ⟨fun _ => ?_, fun h => absurd (by with_reducible exact nI_le (by omega) (by omega)) h⟩
                 | refine ⟨fun h => absurd h (by with_reducible exact nI_nlt (by omega) (by omega)), fun _ => ?_⟩
                 | refine ⟨fun _ => ?_, fun h => absurd (by with_reducible exact nI_lt (by omega) (by omega)) h⟩
                 | refine ⟨fun h => absurd h (by with_reducible exact nI_pos (by omega)), fun _ => ?_⟩
                 | refine ⟨fun _ => ?_, fun h => absurd (by with_reducible exact nI_0le (by omega)) h⟩
                 | refine ⟨fun h => absurd h (by decide), fun _ => ?_⟩
                 | refine ⟨fun _ => ?_, fun h => absurd (by decide) h⟩
                 | refine ⟨fun _ => ?_, fun h => absurd h (by decide)⟩
                 | refine ⟨fun h => absurd (by decide) h, fun _ => ?_⟩
                 | refine ⟨by decide, ?_⟩
                 | refine ⟨rfl, ?_⟩)
              | (conv => whnf
                 fail_if_success refine Exists.intro ?_ ?_
                 simp only [nI_clamp (show k < 2 ^ 31 by omega), hc, h19, h20, h21, nI_clamp (show i < 2 ^ 31 by omega), nI_clamp (show j < 2 ^ 31 by omega), nI_clamp (show q < 2 ^ 31 by omega), hx, hy]))
            try (conv => whnf)
            refine ⟨fun w => absurd h2 w, fun _ => ?_⟩
            repeat (first
              | (conv => whnf
                 try dsimp only
                 try simp (decide := true) only [nI_clamp (show k < 2 ^ 31 by omega), hc, h19, h20, h21, nI_clamp (show i < 2 ^ 31 by omega), nI_clamp (show j < 2 ^ 31 by omega), nI_clamp (show q < 2 ^ 31 by omega), hx, hy, zu_same, zu_ne1, zu_ne2, zu_row, zuL_same, zuL_ne1, zuL_ne2, zrow_n1, zx0, zx1, zx2, zx3, nI_1, Nat.reduceAdd, Nat.reduceMul, Int32.reduceAdd, Int32.reduceSub, Int32.reduceMul]
                 first
                 | refine ⟨vp_inb (by decide), ?_⟩
                 | refine ⟨by with_reducible exact zi (by omega), ?_⟩
                 | refine ⟨fun h => absurd h (by with_reducible exact nI_ge (by omega) (by omega)), fun _ => ?_⟩
                 | refine ⟨fun _ => ?_, fun h => absurd (by with_reducible exact nI_le (by omega) (by omega)) h⟩
                 | refine ⟨fun h => absurd h (by with_reducible exact nI_nlt (by omega) (by omega)), fun _ => ?_⟩
                 | refine ⟨fun _ => ?_, fun h => absurd (by with_reducible exact nI_lt (by omega) (by omega)) h⟩
                 | refine ⟨fun h => absurd h (by with_reducible exact nI_pos (by omega)), fun _ => ?_⟩
                 | refine ⟨fun _ => ?_, fun h => absurd (by with_reducible exact nI_0le (by omega)) h⟩
                 | refine ⟨fun h => absurd h (by decide), fun _ => ?_⟩
                 | refine ⟨fun _ => ?_, fun h => absurd (by decide) h⟩
                 | refine ⟨fun _ => ?_, fun h => absurd h (by decide)⟩
                 | refine ⟨fun h => absurd (by decide) h, fun _ => ?_⟩
                 | refine ⟨by decide, ?_⟩
                 | refine ⟨rfl, ?_⟩)
              | (conv => whnf
                 fail_if_success refine Exists.intro ?_ ?_
                 simp only [nI_clamp (show k < 2 ^ 31 by omega), hc, h19, h20, h21, nI_clamp (show i < 2 ^ 31 by omega), nI_clamp (show j < 2 ^ 31 by omega), nI_clamp (show q < 2 ^ 31 by omega), hx, hy]))
            try (conv => whnf)
            exact hK
          rw [if_neg h2] at hK
          refine hG 200 _ _ _ _ _ ?_
          repeat (first
            | (conv => whnf
               try dsimp only
               try simp (decide := true) only [nI_clamp (show k < 2 ^ 31 by omega), hc, h19, h20, h21, nI_clamp (show i < 2 ^ 31 by omega), nI_clamp (show j < 2 ^ 31 by omega), nI_clamp (show q < 2 ^ 31 by omega), hx, zu_same, zu_ne1, zu_ne2, zu_row, zuL_same, zuL_ne1, zuL_ne2, zrow_n1, zx0, zx1, zx2, zx3, nI_1, Nat.reduceAdd, Nat.reduceMul, Int32.reduceAdd, Int32.reduceSub, Int32.reduceMul]
               first
               | refine ⟨vp_inb (by decide), ?_⟩
               | refine ⟨by with_reducible exact zi (by omega), ?_⟩
               | refine ⟨fun h => absurd h (by with_reducible exact nI_ge (by omega) (by omega)), fun _ => ?_⟩
               | refine ⟨fun _ => ?_, fun h => absurd (by with_reducible exact nI_le (by omega) (by omega)) h⟩
               | refine ⟨fun h => absurd h (by with_reducible exact nI_nlt (by omega) (by omega)), fun _ => ?_⟩
               | refine ⟨fun _ => ?_, fun h => absurd (by with_reducible exact nI_lt (by omega) (by omega)) h⟩
               | refine ⟨fun h => absurd h (by with_reducible exact nI_pos (by omega)), fun _ => ?_⟩
               | refine ⟨fun _ => ?_, fun h => absurd (by with_reducible exact nI_0le (by omega)) h⟩
               | refine ⟨fun h => absurd h (by decide), fun _ => ?_⟩
               | refine ⟨fun _ => ?_, fun h => absurd (by decide) h⟩
               | refine ⟨fun _ => ?_, fun h => absurd h (by decide)⟩
               | refine ⟨fun h => absurd (by decide) h, fun _ => ?_⟩
               | refine ⟨by decide, ?_⟩
               | refine ⟨rfl, ?_⟩)
            | (conv => whnf
               fail_if_success refine Exists.intro ?_ ?_
               simp only [nI_clamp (show k < 2 ^ 31 by omega), hc, h19, h20, h21, nI_clamp (show i < 2 ^ 31 by omega), nI_clamp (show j < 2 ^ 31 by omega), nI_clamp (show q < 2 ^ 31 by omega), hx]))
          try (conv => whnf)
          refine ⟨fun _ => ?_, fun w => absurd w h1⟩
          repeat (first
            | (conv => whnf
               try dsimp only
               try simp (decide := true) only [nI_clamp (show k < 2 ^ 31 by omega), hc, h19, h20, h21, nI_clamp (show i < 2 ^ 31 by omega), nI_clamp (show j < 2 ^ 31 by omega), nI_clamp (show q < 2 ^ 31 by omega), hx, hy, zu_same, zu_ne1, zu_ne2, zu_row, zuL_same, zuL_ne1, zuL_ne2, zrow_n1, zx0, zx1, zx2, zx3, nI_1, Nat.reduceAdd, Nat.reduceMul, Int32.reduceAdd, Int32.reduceSub, Int32.reduceMul]
               first
               | refine ⟨vp_inb (by decide), ?_⟩
               | refine ⟨by with_reducible exact zi (by omega), ?_⟩
               | refine ⟨fun h => absurd h (by with_reducible exact nI_ge (by omega) (by omega)), fun _ => ?_⟩
               | refine ⟨fun _ => ?_, fun h => absurd (by with_reducible exact nI_le (by omega) (by omega)) h⟩
               | refine ⟨fun h => absurd h (by with_reducible exact nI_nlt (by omega) (by omega)), fun _ => ?_⟩
               | refine ⟨fun _ => ?_, fun h => absurd (by with_reducible exact nI_lt (by omega) (by omega)) h⟩
               | refine ⟨fun h => absurd h (by with_reducible exact nI_pos (by omega)), fun _ => ?_⟩
               | refine ⟨fun _ => ?_, fun h => absurd (by with_reducible exact nI_0le (by omega)) h⟩
               | refine ⟨fun h => absurd h (by decide), fun _ => ?_⟩
               | refine ⟨fun _ => ?_, fun h => absurd (by decide) h⟩
               | refine ⟨fun _ => ?_, fun h => absurd h (by decide)⟩
               | refine ⟨fun h => absurd (by decide) h, fun _ => ?_⟩
               | refine ⟨by decide, ?_⟩
               | refine ⟨rfl, ?_⟩)
            | (conv => whnf
               fail_if_success refine Exists.intro ?_ ?_
               simp only [nI_clamp (show k < 2 ^ 31 by omega), hc, h19, h20, h21, nI_clamp (show i < 2 ^ 31 by omega), nI_clamp (show j < 2 ^ 31 by omega), nI_clamp (show q < 2 ^ 31 by omega), hx, hy]))
          try (conv => whnf)
          refine ⟨fun _ => ?_, fun w => absurd w h2⟩
          repeat (first
            | (conv => whnf
               try dsimp only
               try simp (decide := true) only [nI_clamp (show k < 2 ^ 31 by omega), hc, h19, h20, h21, nI_clamp (show i < 2 ^ 31 by omega), nI_clamp (show j < 2 ^ 31 by omega), nI_clamp (show q < 2 ^ 31 by omega), hx, hy, zu_same, zu_ne1, zu_ne2, zu_row, zuL_same, zuL_ne1, zuL_ne2, zrow_n1, zx0, zx1, zx2, zx3, nI_1, Nat.reduceAdd, Nat.reduceMul, Int32.reduceAdd, Int32.reduceSub, Int32.reduceMul]
               first
               | refine ⟨vp_inb (by decide), ?_⟩
               | refine ⟨by with_reducible exact zi (by omega), ?_⟩
               | refine ⟨fun h => absurd h (by with_reducible exact nI_ge (by omega) (by omega)), fun _ => ?_⟩
               | refine ⟨fun _ => ?_, fun h => absurd (by with_reducible exact nI_le (by omega) (by omega)) h⟩
               | refine ⟨fun h => absurd h (by with_reducible exact nI_nlt (by omega) (by omega)), fun _ => ?_⟩
               | refine ⟨fun _ => ?_, fun h => absurd (by with_reducible exact nI_lt (by omega) (by omega)) h⟩
               | refine ⟨fun h => absurd h (by with_reducible exact nI_pos (by omega)), fun _ => ?_⟩
               | refine ⟨fun _ => ?_, fun h => absurd (by with_reducible exact nI_0le (by omega)) h⟩
               | refine ⟨fun h => absurd h (by decide), fun _ => ?_⟩
               | refine ⟨fun _ => ?_, fun h => absurd (by decide) h⟩
               | refine ⟨fun _ => ?_, fun h => absurd h (by decide)⟩
               | refine ⟨fun h => absurd (by decide) h, fun _ => ?_⟩
               | refine ⟨by decide, ?_⟩
               | refine ⟨rfl, ?_⟩)
            | (conv => whnf
               fail_if_success refine Exists.intro ?_ ?_
               simp only [nI_clamp (show k < 2 ^ 31 by omega), hc, h19, h20, h21, nI_clamp (show i < 2 ^ 31 by omega), nI_clamp (show j < 2 ^ 31 by omega), nI_clamp (show q < 2 ^ 31 by omega), hx, hy]))
          try (conv => whnf)
          refine ⟨fun w => absurd w (by decide), zsw_one _ _ 4 250 rfl rfl ?_⟩
          repeat (conv => whnf
                  try dsimp only
                  try simp (decide := true) only [zu_same, zu_ne1, zu_ne2, zu_row, zuL_same, zuL_ne1, zuL_ne2, zrow_n1, zx0, zx1, zx2, zx3, nI_1, Nat.reduceAdd, Nat.reduceMul, Int32.reduceAdd, Int32.reduceSub, Int32.reduceMul]
                  first
                  | refine ⟨vp_inb (by decide), ?_⟩
                  | refine ⟨by with_reducible exact zi (by omega), ?_⟩
                  | refine ⟨fun h => absurd h (by with_reducible exact nI_ge (by omega) (by omega)), fun _ => ?_⟩
                  | refine ⟨fun _ => ?_, fun h => absurd (by with_reducible exact nI_le (by omega) (by omega)) h⟩
                  | refine ⟨fun h => absurd h (by with_reducible exact nI_nlt (by omega) (by omega)), fun _ => ?_⟩
                  | refine ⟨fun _ => ?_, fun h => absurd (by with_reducible exact nI_lt (by omega) (by omega)) h⟩
                  | refine ⟨fun h => absurd h (by with_reducible exact nI_pos (by omega)), fun _ => ?_⟩
                  | refine ⟨fun _ => ?_, fun h => absurd (by with_reducible exact nI_0le (by omega)) h⟩
                  | refine ⟨fun h => absurd h (by decide), fun _ => ?_⟩
                  | refine ⟨fun _ => ?_, fun h => absurd (by decide) h⟩
                  | refine ⟨fun _ => ?_, fun h => absurd h (by decide)⟩
                  | refine ⟨fun h => absurd (by decide) h, fun _ => ?_⟩
                  | refine ⟨by decide, ?_⟩
                  | refine ⟨rfl, ?_⟩)
          try (conv => whnf)
          refine ⟨_, _, rfl, ?_⟩
          repeat (conv => whnf
                  try dsimp only
                  try simp (decide := true) only [zu_same, zu_ne1, zu_ne2, zu_row, zuL_same, zuL_ne1, zuL_ne2, zrow_n1, zx0, zx1, zx2, zx3, nI_1, Nat.reduceAdd, Nat.reduceMul, Int32.reduceAdd, Int32.reduceSub, Int32.reduceMul]
                  first
                  | refine ⟨vp_inb (by decide), ?_⟩
                  | refine ⟨by with_reducible exact zi (by omega), ?_⟩
                  | refine ⟨fun h => absurd h (by with_reducible exact nI_ge (by omega) (by omega)), fun _ => ?_⟩
                  | refine ⟨fun _ => ?_, fun h => absurd (by with_reducible exact nI_le (by omega) (by omega)) h⟩
                  | refine ⟨fun h => absurd h (by with_reducible exact nI_nlt (by omega) (by omega)), fun _ => ?_⟩
                  | refine ⟨fun _ => ?_, fun h => absurd (by with_reducible exact nI_lt (by omega) (by omega)) h⟩
                  | refine ⟨fun h => absurd h (by with_reducible exact nI_pos (by omega)), fun _ => ?_⟩
                  | refine ⟨fun _ => ?_, fun h => absurd (by with_reducible exact nI_0le (by omega)) h⟩
                  | refine ⟨fun h => absurd h (by decide), fun _ => ?_⟩
                  | refine ⟨fun _ => ?_, fun h => absurd (by decide) h⟩
                  | refine ⟨fun _ => ?_, fun h => absurd h (by decide)⟩
                  | refine ⟨fun h => absurd (by decide) h, fun _ => ?_⟩
                  | refine ⟨by decide, ?_⟩
                  | refine ⟨rfl, ?_⟩)
          try (conv => whnf)
          exact hK
        · skip
          simp (decide := true) only [if_false, if_true, ite_true, ite_false] at hK
          by_cases h2 : y = zBRK
          · rw [if_pos h2] at hK
            refine hG 200 _ _ _ _ _ ?_
            repeat (first
              | (conv => whnf
                 try dsimp only
                 try simp (decide := true) only [nI_clamp (show k < 2 ^ 31 by omega), hc, h19, h20, h21, nI_clamp (show i < 2 ^ 31 by omega), nI_clamp (show j < 2 ^ 31 by omega), nI_clamp (show q < 2 ^ 31 by omega), hx, zu_same, zu_ne1, zu_ne2, zu_row, zuL_same, zuL_ne1, zuL_ne2, zrow_n1, zx0, zx1, zx2, zx3, nI_1, Nat.reduceAdd, Nat.reduceMul, Int32.reduceAdd, Int32.reduceSub, Int32.reduceMul]
                 first
                 | refine ⟨vp_inb (by decide), ?_⟩
                 | refine ⟨by with_reducible exact zi (by omega), ?_⟩
                 | refine ⟨fun h => absurd h (by with_reducible exact nI_ge (by omega) (by omega)), fun _ => ?_⟩
                 | refine ⟨fun _ => ?_, fun h => absurd (by with_reducible exact nI_le (by omega) (by omega)) h⟩
                 | refine ⟨fun h => absurd h (by with_reducible exact nI_nlt (by omega) (by omega)), fun _ => ?_⟩
                 | refine ⟨fun _ => ?_, fun h => absurd (by with_reducible exact nI_lt (by omega) (by omega)) h⟩
                 | refine ⟨fun h => absurd h (by with_reducible exact nI_pos (by omega)), fun _ => ?_⟩
                 | refine ⟨fun _ => ?_, fun h => absurd (by with_reducible exact nI_0le (by omega)) h⟩
                 | refine ⟨fun h => absurd h (by decide), fun _ => ?_⟩
                 | refine ⟨fun _ => ?_, fun h => absurd (by decide) h⟩
                 | refine ⟨fun _ => ?_, fun h => absurd h (by decide)⟩
                 | refine ⟨fun h => absurd (by decide) h, fun _ => ?_⟩
                 | refine ⟨by decide, ?_⟩
                 | refine ⟨rfl, ?_⟩)
              | (conv => whnf
                 fail_if_success refine Exists.intro ?_ ?_
                 simp only [nI_clamp (show k < 2 ^ 31 by omega), hc, h19, h20, h21, nI_clamp (show i < 2 ^ 31 by omega), nI_clamp (show j < 2 ^ 31 by omega), nI_clamp (show q < 2 ^ 31 by omega), hx]))
            try (conv => whnf)
            refine ⟨fun _ => ?_, fun w => absurd w h1⟩
            repeat (first
              | (conv => whnf
                 try dsimp only
                 try simp (decide := true) only [nI_clamp (show k < 2 ^ 31 by omega), hc, h19, h20, h21, nI_clamp (show i < 2 ^ 31 by omega), nI_clamp (show j < 2 ^ 31 by omega), nI_clamp (show q < 2 ^ 31 by omega), hx, hy, zu_same, zu_ne1, zu_ne2, zu_row, zuL_same, zuL_ne1, zuL_ne2, zrow_n1, zx0, zx1, zx2, zx3, nI_1, Nat.reduceAdd, Nat.reduceMul, Int32.reduceAdd, Int32.reduceSub, Int32.reduceMul]
                 first
                 | refine ⟨vp_inb (by decide), ?_⟩
                 | refine ⟨by with_reducible exact zi (by omega), ?_⟩
                 | refine ⟨fun h => absurd h (by with_reducible exact nI_ge (by omega) (by omega)), fun _ => ?_⟩
                 | refine ⟨fun _ => ?_, fun h => absurd (by with_reducible exact nI_le (by omega) (by omega)) h⟩
                 | refine ⟨fun h => absurd h (by with_reducible exact nI_nlt (by omega) (by omega)), fun _ => ?_⟩
                 | refine ⟨fun _ => ?_, fun h => absurd (by with_reducible exact nI_lt (by omega) (by omega)) h⟩
                 | refine ⟨fun h => absurd h (by with_reducible exact nI_pos (by omega)), fun _ => ?_⟩
                 | refine ⟨fun _ => ?_, fun h => absurd (by with_reducible exact nI_0le (by omega)) h⟩
                 | refine ⟨fun h => absurd h (by decide), fun _ => ?_⟩
                 | refine ⟨fun _ => ?_, fun h => absurd (by decide) h⟩
                 | refine ⟨fun _ => ?_, fun h => absurd h (by decide)⟩
                 | refine ⟨fun h => absurd (by decide) h, fun _ => ?_⟩
                 | refine ⟨by decide, ?_⟩
                 | refine ⟨rfl, ?_⟩)
              | (conv => whnf
                 fail_if_success refine Exists.intro ?_ ?_
                 simp only [nI_clamp (show k < 2 ^ 31 by omega), hc, h19, h20, h21, nI_clamp (show i < 2 ^ 31 by omega), nI_clamp (show j < 2 ^ 31 by omega), nI_clamp (show q < 2 ^ 31 by omega), hx, hy]))
            try (conv => whnf)
            refine ⟨fun w => absurd h2 w, fun _ => ?_⟩
            repeat (first
              | (conv => whnf
                 try dsimp only
                 try simp (decide := true) only [nI_clamp (show k < 2 ^ 31 by omega), hc, h19, h20, h21, nI_clamp (show i < 2 ^ 31 by omega), nI_clamp (show j < 2 ^ 31 by omega), nI_clamp (show q < 2 ^ 31 by omega), hx, hy, zu_same, zu_ne1, zu_ne2, zu_row, zuL_same, zuL_ne1, zuL_ne2, zrow_n1, zx0, zx1, zx2, zx3, nI_1, Nat.reduceAdd, Nat.reduceMul, Int32.reduceAdd, Int32.reduceSub, Int32.reduceMul]
                 first
                 | refine ⟨vp_inb (by decide), ?_⟩
                 | refine ⟨by with_reducible exact zi (by omega), ?_⟩
                 | refine ⟨fun h => absurd h (by with_reducible exact nI_ge (by omega) (by omega)), fun _ => ?_⟩
                 | refine ⟨fun _ => ?_, fun h => absurd (by with_reducible exact nI_le (by omega) (by omega)) h⟩
                 | refine ⟨fun h => absurd h (by with_reducible exact nI_nlt (by omega) (by omega)), fun _ => ?_⟩
                 | refine ⟨fun _ => ?_, fun h => absurd (by with_reducible exact nI_lt (by omega) (by omega)) h⟩
                 | refine ⟨fun h => absurd h (by with_reducible exact nI_pos (by omega)), fun _ => ?_⟩
                 | refine ⟨fun _ => ?_, fun h => absurd (by with_reducible exact nI_0le (by omega)) h⟩
                 | refine ⟨fun h => absurd h (by decide), fun _ => ?_⟩
                 | refine ⟨fun _ => ?_, fun h => absurd (by decide) h⟩
                 | refine ⟨fun _ => ?_, fun h => absurd h (by decide)⟩
                 | refine ⟨fun h => absurd (by decide) h, fun _ => ?_⟩
                 | refine ⟨by decide, ?_⟩
                 | refine ⟨rfl, ?_⟩)
              | (conv => whnf
                 fail_if_success refine Exists.intro ?_ ?_
                 simp only [nI_clamp (show k < 2 ^ 31 by omega), hc, h19, h20, h21, nI_clamp (show i < 2 ^ 31 by omega), nI_clamp (show j < 2 ^ 31 by omega), nI_clamp (show q < 2 ^ 31 by omega), hx, hy]))
            try (conv => whnf)
            exact hK
          rw [if_neg h2] at hK
          refine hG 200 _ _ _ _ _ ?_
          repeat (first
            | (conv => whnf
               try dsimp only
               try simp (decide := true) only [nI_clamp (show k < 2 ^ 31 by omega), hc, h19, h20, h21, nI_clamp (show i < 2 ^ 31 by omega), nI_clamp (show j < 2 ^ 31 by omega), nI_clamp (show q < 2 ^ 31 by omega), hx, zu_same, zu_ne1, zu_ne2, zu_row, zuL_same, zuL_ne1, zuL_ne2, zrow_n1, zx0, zx1, zx2, zx3, nI_1, Nat.reduceAdd, Nat.reduceMul, Int32.reduceAdd, Int32.reduceSub, Int32.reduceMul]
               first
               | refine ⟨vp_inb (by decide), ?_⟩
               | refine ⟨by with_reducible exact zi (by omega), ?_⟩
               | refine ⟨fun h => absurd h (by with_reducible exact nI_ge (by omega) (by omega)), fun _ => ?_⟩
               | refine ⟨fun _ => ?_, fun h => absurd (by with_reducible exact nI_le (by omega) (by omega)) h⟩
               | refine ⟨fun h => absurd h (by with_reducible exact nI_nlt (by omega) (by omega)), fun _ => ?_⟩
               | refine ⟨fun _ => ?_, fun h => absurd (by with_reducible exact nI_lt (by omega) (by omega)) h⟩
               | refine ⟨fun h => absurd h (by with_reducible exact nI_pos (by omega)), fun _ => ?_⟩
               | refine ⟨fun _ => ?_, fun h => absurd (by with_reducible exact nI_0le (by omega)) h⟩
               | refine ⟨fun h => absurd h (by decide), fun _ => ?_⟩
               | refine ⟨fun _ => ?_, fun h => absurd (by decide) h⟩
               | refine ⟨fun _ => ?_, fun h => absurd h (by decide)⟩
               | refine ⟨fun h => absurd (by decide) h, fun _ => ?_⟩
               | refine ⟨by decide, ?_⟩
               | refine ⟨rfl, ?_⟩)
            | (conv => whnf
               fail_if_success refine Exists.intro ?_ ?_
               simp only [nI_clamp (show k < 2 ^ 31 by omega), hc, h19, h20, h21, nI_clamp (show i < 2 ^ 31 by omega), nI_clamp (show j < 2 ^ 31 by omega), nI_clamp (show q < 2 ^ 31 by omega), hx]))
          try (conv => whnf)
          refine ⟨fun _ => ?_, fun w => absurd w h1⟩
          repeat (first
            | (conv => whnf
               try dsimp only
               try simp (decide := true) only [nI_clamp (show k < 2 ^ 31 by omega), hc, h19, h20, h21, nI_clamp (show i < 2 ^ 31 by omega), nI_clamp (show j < 2 ^ 31 by omega), nI_clamp (show q < 2 ^ 31 by omega), hx, hy, zu_same, zu_ne1, zu_ne2, zu_row, zuL_same, zuL_ne1, zuL_ne2, zrow_n1, zx0, zx1, zx2, zx3, nI_1, Nat.reduceAdd, Nat.reduceMul, Int32.reduceAdd, Int32.reduceSub, Int32.reduceMul]
               first
               | refine ⟨vp_inb (by decide), ?_⟩
               | refine ⟨by with_reducible exact zi (by omega), ?_⟩
               | refine ⟨fun h => absurd h (by with_reducible exact nI_ge (by omega) (by omega)), fun _ => ?_⟩
               | refine ⟨fun _ => ?_, fun h => absurd (by with_reducible exact nI_le (by omega) (by omega)) h⟩
               | refine ⟨fun h => absurd h (by with_reducible exact nI_nlt (by omega) (by omega)), fun _ => ?_⟩
               | refine ⟨fun _ => ?_, fun h => absurd (by with_reducible exact nI_lt (by omega) (by omega)) h⟩
               | refine ⟨fun h => absurd h (by with_reducible exact nI_pos (by omega)), fun _ => ?_⟩
               | refine ⟨fun _ => ?_, fun h => absurd (by with_reducible exact nI_0le (by omega)) h⟩
               | refine ⟨fun h => absurd h (by decide), fun _ => ?_⟩
               | refine ⟨fun _ => ?_, fun h => absurd (by decide) h⟩
               | refine ⟨fun _ => ?_, fun h => absurd h (by decide)⟩
               | refine ⟨fun h => absurd (by decide) h, fun _ => ?_⟩
               | refine ⟨by decide, ?_⟩
               | refine ⟨rfl, ?_⟩)
            | (conv => whnf
               fail_if_success refine Exists.intro ?_ ?_
               simp only [nI_clamp (show k < 2 ^ 31 by omega), hc, h19, h20, h21, nI_clamp (show i < 2 ^ 31 by omega), nI_clamp (show j < 2 ^ 31 by omega), nI_clamp (show q < 2 ^ 31 by omega), hx, hy]))
          try (conv => whnf)
          refine ⟨fun _ => ?_, fun w => absurd w h2⟩
          repeat (first
            | (conv => whnf
               try dsimp only
               try simp (decide := true) only [nI_clamp (show k < 2 ^ 31 by omega), hc, h19, h20, h21, nI_clamp (show i < 2 ^ 31 by omega), nI_clamp (show j < 2 ^ 31 by omega), nI_clamp (show q < 2 ^ 31 by omega), hx, hy, zu_same, zu_ne1, zu_ne2, zu_row, zuL_same, zuL_ne1, zuL_ne2, zrow_n1, zx0, zx1, zx2, zx3, nI_1, Nat.reduceAdd, Nat.reduceMul, Int32.reduceAdd, Int32.reduceSub, Int32.reduceMul]
               first
               | refine ⟨vp_inb (by decide), ?_⟩
               | refine ⟨by with_reducible exact zi (by omega), ?_⟩
               | refine ⟨fun h => absurd h (by with_reducible exact nI_ge (by omega) (by omega)), fun _ => ?_⟩
               | refine ⟨fun _ => ?_, fun h => absurd (by with_reducible exact nI_le (by omega) (by omega)) h⟩
               | refine ⟨fun h => absurd h (by with_reducible exact nI_nlt (by omega) (by omega)), fun _ => ?_⟩
               | refine ⟨fun _ => ?_, fun h => absurd (by with_reducible exact nI_lt (by omega) (by omega)) h⟩
               | refine ⟨fun h => absurd h (by with_reducible exact nI_pos (by omega)), fun _ => ?_⟩
               | refine ⟨fun _ => ?_, fun h => absurd (by with_reducible exact nI_0le (by omega)) h⟩
               | refine ⟨fun h => absurd h (by decide), fun _ => ?_⟩
               | refine ⟨fun _ => ?_, fun h => absurd (by decide) h⟩
               | refine ⟨fun _ => ?_, fun h => absurd h (by decide)⟩
               | refine ⟨fun h => absurd (by decide) h, fun _ => ?_⟩
               | refine ⟨by decide, ?_⟩
               | refine ⟨rfl, ?_⟩)
            | (conv => whnf
               fail_if_success refine Exists.intro ?_ ?_
               simp only [nI_clamp (show k < 2 ^ 31 by omega), hc, h19, h20, h21, nI_clamp (show i < 2 ^ 31 by omega), nI_clamp (show j < 2 ^ 31 by omega), nI_clamp (show q < 2 ^ 31 by omega), hx, hy]))
          try (conv => whnf)
          refine ⟨fun _ => ?_, zsw_no _ _ (by decide)⟩
          repeat (conv => whnf
                  try dsimp only
                  try simp (decide := true) only [zu_same, zu_ne1, zu_ne2, zu_row, zuL_same, zuL_ne1, zuL_ne2, zrow_n1, zx0, zx1, zx2, zx3, nI_1, Nat.reduceAdd, Nat.reduceMul, Int32.reduceAdd, Int32.reduceSub, Int32.reduceMul]
                  first
                  | refine ⟨vp_inb (by decide), ?_⟩
                  | refine ⟨by with_reducible exact zi (by omega), ?_⟩
                  | refine ⟨fun h => absurd h (by with_reducible exact nI_ge (by omega) (by omega)), fun _ => ?_⟩
                  | refine ⟨fun _ => ?_, fun h => absurd (by with_reducible exact nI_le (by omega) (by omega)) h⟩
                  | refine ⟨fun h => absurd h (by with_reducible exact nI_nlt (by omega) (by omega)), fun _ => ?_⟩
                  | refine ⟨fun _ => ?_, fun h => absurd (by with_reducible exact nI_lt (by omega) (by omega)) h⟩
                  | refine ⟨fun h => absurd h (by with_reducible exact nI_pos (by omega)), fun _ => ?_⟩
                  | refine ⟨fun _ => ?_, fun h => absurd (by with_reducible exact nI_0le (by omega)) h⟩
                  | refine ⟨fun h => absurd h (by decide), fun _ => ?_⟩
                  | refine ⟨fun _ => ?_, fun h => absurd (by decide) h⟩
                  | refine ⟨fun _ => ?_, fun h => absurd h (by decide)⟩
                  | refine ⟨fun h => absurd (by decide) h, fun _ => ?_⟩
                  | refine ⟨by decide, ?_⟩
                  | refine ⟨rfl, ?_⟩)
          try (conv => whnf)
          refine ⟨_, _, rfl, ?_⟩
          repeat (conv => whnf
                  try dsimp only
                  try simp (decide := true) only [zu_same, zu_ne1, zu_ne2, zu_row, zuL_same, zuL_ne1, zuL_ne2, zrow_n1, zx0, zx1, zx2, zx3, nI_1, Nat.reduceAdd, Nat.reduceMul, Int32.reduceAdd, Int32.reduceSub, Int32.reduceMul]
                  first
                  | refine ⟨vp_inb (by decide), ?_⟩
                  | refine ⟨by with_reducible exact zi (by omega), ?_⟩
                  | refine ⟨fun h => absurd h (by with_reducible exact nI_ge (by omega) (by omega)), fun _ => ?_⟩
                  | refine ⟨fun _ => ?_, fun h => absurd (by with_reducible exact nI_le (by omega) (by omega)) h⟩
                  | refine ⟨fun h => absurd h (by with_reducible exact nI_nlt (by omega) (by omega)), fun _ => ?_⟩
                  | refine ⟨fun _ => ?_, fun h => absurd (by with_reducible exact nI_lt (by omega) (by omega)) h⟩
                  | refine ⟨fun h => absurd h (by with_reducible exact nI_pos (by omega)), fun _ => ?_⟩
                  | refine ⟨fun _ => ?_, fun h => absurd (by with_reducible exact nI_0le (by omega)) h⟩
                  | refine ⟨fun h => absurd h (by decide), fun _ => ?_⟩
                  | refine ⟨fun _ => ?_, fun h => absurd (by decide) h⟩
                  | refine ⟨fun _ => ?_, fun h => absurd h (by decide)⟩
                  | refine ⟨fun h => absurd (by decide) h, fun _ => ?_⟩
                  | refine ⟨by decide, ?_⟩
                  | refine ⟨rfl, ?_⟩)
          try (conv => whnf)
          exact hK
        · skip
          simp (decide := true) only [if_false, if_true, ite_true, ite_false] at hK
          refine hG 200 _ _ _ _ _ ?_
          repeat (first
            | (conv => whnf
               try dsimp only
               try simp (decide := true) only [nI_clamp (show k < 2 ^ 31 by omega), hc, h19, h20, h21, nI_clamp (show i < 2 ^ 31 by omega), nI_clamp (show j < 2 ^ 31 by omega), nI_clamp (show q < 2 ^ 31 by omega), hx, zu_same, zu_ne1, zu_ne2, zu_row, zuL_same, zuL_ne1, zuL_ne2, zrow_n1, zx0, zx1, zx2, zx3, nI_1, Nat.reduceAdd, Nat.reduceMul, Int32.reduceAdd, Int32.reduceSub, Int32.reduceMul]
               first
               | refine ⟨vp_inb (by decide), ?_⟩
               | refine ⟨by with_reducible exact zi (by omega), ?_⟩
               | refine ⟨fun h => absurd h (by with_reducible exact nI_ge (by omega) (by omega)), fun _ => ?_⟩
               | refine ⟨fun _ => ?_, fun h => absurd (by with_reducible exact nI_le (by omega) (by omega)) h⟩
               | refine ⟨fun h => absurd h (by with_reducible exact nI_nlt (by omega) (by omega)), fun _ => ?_⟩
               | refine ⟨fun _ => ?_, fun h => absurd (by with_reducible exact nI_lt (by omega) (by omega)) h⟩
               | refine ⟨fun h => absurd h (by with_reducible exact nI_pos (by omega)), fun _ => ?_⟩
               | refine ⟨fun _ => ?_, fun h => absurd (by with_reducible exact nI_0le (by omega)) h⟩
               | refine ⟨fun h => absurd h (by decide), fun _ => ?_⟩
               | refine ⟨fun _ => ?_, fun h => absurd (by decide) h⟩
               | refine ⟨fun _ => ?_, fun h => absurd h (by decide)⟩
               | refine ⟨fun h => absurd (by decide) h, fun _ => ?_⟩
               | refine ⟨by decide, ?_⟩
               | refine ⟨rfl, ?_⟩)
            | (conv => whnf
               fail_if_success refine Exists.intro ?_ ?_
               simp only [nI_clamp (show k < 2 ^ 31 by omega), hc, h19, h20, h21, nI_clamp (show i < 2 ^ 31 by omega), nI_clamp (show j < 2 ^ 31 by omega), nI_clamp (show q < 2 ^ 31 by omega), hx]))
          try (conv => whnf)
          refine ⟨fun _ => ?_, fun w => absurd w h1⟩
          repeat (first
            | (conv => whnf
               try dsimp only
               try simp (decide := true) only [nI_clamp (show k < 2 ^ 31 by omega), hc, h19, h20, h21, nI_clamp (show i < 2 ^ 31 by omega), nI_clamp (show j < 2 ^ 31 by omega), nI_clamp (show q < 2 ^ 31 by omega), hx, hy, zu_same, zu_ne1, zu_ne2, zu_row, zuL_same, zuL_ne1, zuL_ne2, zrow_n1, zx0, zx1, zx2, zx3, nI_1, Nat.reduceAdd, Nat.reduceMul, Int32.reduceAdd, Int32.reduceSub, Int32.reduceMul]
               first
               | refine ⟨vp_inb (by decide), ?_⟩
               | refine ⟨by with_reducible exact zi (by omega), ?_⟩
               | refine ⟨fun h => absurd h (by with_reducible exact nI_ge (by omega) (by omega)), fun _ => ?_⟩
               | refine ⟨fun _ => ?_, fun h => absurd (by with_reducible exact nI_le (by omega) (by omega)) h⟩
               | refine ⟨fun h => absurd h (by with_reducible exact nI_nlt (by omega) (by omega)), fun _ => ?_⟩
               | refine ⟨fun _ => ?_, fun h => absurd (by with_reducible exact nI_lt (by omega) (by omega)) h⟩
               | refine ⟨fun h => absurd h (by with_reducible exact nI_pos (by omega)), fun _ => ?_⟩
               | refine ⟨fun _ => ?_, fun h => absurd (by with_reducible exact nI_0le (by omega)) h⟩
               | refine ⟨fun h => absurd h (by decide), fun _ => ?_⟩
               | refine ⟨fun _ => ?_, fun h => absurd (by decide) h⟩
               | refine ⟨fun _ => ?_, fun h => absurd h (by decide)⟩
               | refine ⟨fun h => absurd (by decide) h, fun _ => ?_⟩
               | refine ⟨by decide, ?_⟩
               | refine ⟨rfl, ?_⟩)
            | (conv => whnf
               fail_if_success refine Exists.intro ?_ ?_
               simp only [nI_clamp (show k < 2 ^ 31 by omega), hc, h19, h20, h21, nI_clamp (show i < 2 ^ 31 by omega), nI_clamp (show j < 2 ^ 31 by omega), nI_clamp (show q < 2 ^ 31 by omega), hx, hy]))
          try (conv => whnf)
          refine ⟨fun w => ?_, fun w => ?_⟩
          · rw [if_neg (Int32.not_lt.mpr w)] at hK
            repeat (first
              | (conv => whnf
                 try dsimp only
                 try simp (decide := true) only [nI_clamp (show k < 2 ^ 31 by omega), hc, h19, h20, h21, nI_clamp (show i < 2 ^ 31 by omega), nI_clamp (show j < 2 ^ 31 by omega), nI_clamp (show q < 2 ^ 31 by omega), hz, zu_same, zu_ne1, zu_ne2, zu_row, zuL_same, zuL_ne1, zuL_ne2, zrow_n1, zx0, zx1, zx2, zx3, nI_1, Nat.reduceAdd, Nat.reduceMul, Int32.reduceAdd, Int32.reduceSub, Int32.reduceMul]
                 first
                 | refine ⟨vp_inb (by decide), ?_⟩
                 | refine ⟨by with_reducible exact zi (by omega), ?_⟩
                 | refine ⟨fun h => absurd h (by with_reducible exact nI_ge (by omega) (by omega)), fun _ => ?_⟩
                 | refine ⟨fun _ => ?_, fun h => absurd (by with_reducible exact nI_le (by omega) (by omega)) h⟩
                 | refine ⟨fun h => absurd h (by with_reducible exact nI_nlt (by omega) (by omega)), fun _ => ?_⟩
                 | refine ⟨fun _ => ?_, fun h => absurd (by with_reducible exact nI_lt (by omega) (by omega)) h⟩
                 | refine ⟨fun h => absurd h (by with_reducible exact nI_pos (by omega)), fun _ => ?_⟩
                 | refine ⟨fun _ => ?_, fun h => absurd (by with_reducible exact nI_0le (by omega)) h⟩
                 | refine ⟨fun h => absurd h (by decide), fun _ => ?_⟩
                 | refine ⟨fun _ => ?_, fun h => absurd (by decide) h⟩
                 | refine ⟨fun _ => ?_, fun h => absurd h (by decide)⟩
                 | refine ⟨fun h => absurd (by decide) h, fun _ => ?_⟩
                 | refine ⟨by decide, ?_⟩
                 | refine ⟨rfl, ?_⟩)
              | (conv => whnf
                 fail_if_success refine Exists.intro ?_ ?_
                 simp only [nI_clamp (show k < 2 ^ 31 by omega), hc, h19, h20, h21, nI_clamp (show i < 2 ^ 31 by omega), nI_clamp (show j < 2 ^ 31 by omega), nI_clamp (show q < 2 ^ 31 by omega), hz]))
            try (conv => whnf)
            exact hK
          · rw [if_pos (Int32.not_le.mp w)] at hK
            repeat (first
              | (conv => whnf
                 try dsimp only
                 try simp (decide := true) only [nI_clamp (show k < 2 ^ 31 by omega), hc, h19, h20, h21, nI_clamp (show i < 2 ^ 31 by omega), nI_clamp (show j < 2 ^ 31 by omega), nI_clamp (show q < 2 ^ 31 by omega), hy, zu_same, zu_ne1, zu_ne2, zu_row, zuL_same, zuL_ne1, zuL_ne2, zrow_n1, zx0, zx1, zx2, zx3, nI_1, Nat.reduceAdd, Nat.reduceMul, Int32.reduceAdd, Int32.reduceSub, Int32.reduceMul]
                 first
                 | refine ⟨vp_inb (by decide), ?_⟩
                 | refine ⟨by with_reducible exact zi (by omega), ?_⟩
                 | refine ⟨fun h => absurd h (by with_reducible exact nI_ge (by omega) (by omega)), fun _ => ?_⟩
                 | refine ⟨fun _ => ?_, fun h => absurd (by with_reducible exact nI_le (by omega) (by omega)) h⟩
                 | refine ⟨fun h => absurd h (by with_reducible exact nI_nlt (by omega) (by omega)), fun _ => ?_⟩
                 | refine ⟨fun _ => ?_, fun h => absurd (by with_reducible exact nI_lt (by omega) (by omega)) h⟩
                 | refine ⟨fun h => absurd h (by with_reducible exact nI_pos (by omega)), fun _ => ?_⟩
                 | refine ⟨fun _ => ?_, fun h => absurd (by with_reducible exact nI_0le (by omega)) h⟩
                 | refine ⟨fun h => absurd h (by decide), fun _ => ?_⟩
                 | refine ⟨fun _ => ?_, fun h => absurd (by decide) h⟩
                 | refine ⟨fun _ => ?_, fun h => absurd h (by decide)⟩
                 | refine ⟨fun h => absurd (by decide) h, fun _ => ?_⟩
                 | refine ⟨by decide, ?_⟩
                 | refine ⟨rfl, ?_⟩)
              | (conv => whnf
                 fail_if_success refine Exists.intro ?_ ?_
                 simp only [nI_clamp (show k < 2 ^ 31 by omega), hc, h19, h20, h21, nI_clamp (show i < 2 ^ 31 by omega), nI_clamp (show j < 2 ^ 31 by omega), nI_clamp (show q < 2 ^ 31 by omega), hy]))
            try (conv => whnf)
            exact hK
        · skip
          simp (decide := true) only [if_false, if_true, ite_true, ite_false] at hK
          refine hG 200 _ _ _ _ _ ?_
          repeat (first
            | (conv => whnf
               try dsimp only
               try simp (decide := true) only [nI_clamp (show k < 2 ^ 31 by omega), hc, h19, h20, h21, nI_clamp (show i < 2 ^ 31 by omega), nI_clamp (show j < 2 ^ 31 by omega), nI_clamp (show q < 2 ^ 31 by omega), hx, zu_same, zu_ne1, zu_ne2, zu_row, zuL_same, zuL_ne1, zuL_ne2, zrow_n1, zx0, zx1, zx2, zx3, nI_1, Nat.reduceAdd, Nat.reduceMul, Int32.reduceAdd, Int32.reduceSub, Int32.reduceMul]
               first
               | refine ⟨vp_inb (by decide), ?_⟩
               | refine ⟨by with_reducible exact zi (by omega), ?_⟩
               | refine ⟨fun h => absurd h (by with_reducible exact nI_ge (by omega) (by omega)), fun _ => ?_⟩
               | refine ⟨fun _ => ?_, fun h => absurd (by with_reducible exact nI_le (by omega) (by omega)) h⟩
               | refine ⟨fun h => absurd h (by with_reducible exact nI_nlt (by omega) (by omega)), fun _ => ?_⟩
               | refine ⟨fun _ => ?_, fun h => absurd (by with_reducible exact nI_lt (by omega) (by omega)) h⟩
               | refine ⟨fun h => absurd h (by with_reducible exact nI_pos (by omega)), fun _ => ?_⟩
               | refine ⟨fun _ => ?_, fun h => absurd (by with_reducible exact nI_0le (by omega)) h⟩
               | refine ⟨fun h => absurd h (by decide), fun _ => ?_⟩
               | refine ⟨fun _ => ?_, fun h => absurd (by decide) h⟩
               | refine ⟨fun _ => ?_, fun h => absurd h (by decide)⟩
               | refine ⟨fun h => absurd (by decide) h, fun _ => ?_⟩
               | refine ⟨by decide, ?_⟩
               | refine ⟨rfl, ?_⟩)
            | (conv => whnf
               fail_if_success refine Exists.intro ?_ ?_
               simp only [nI_clamp (show k < 2 ^ 31 by omega), hc, h19, h20, h21, nI_clamp (show i < 2 ^ 31 by omega), nI_clamp (show j < 2 ^ 31 by omega), nI_clamp (show q < 2 ^ 31 by omega), hx]))
          try (conv => whnf)
          refine ⟨fun _ => ?_, fun w => absurd w h1⟩
          repeat (first
            | (conv => whnf
               try dsimp only
               try simp (decide := true) only [nI_clamp (show k < 2 ^ 31 by omega), hc, h19, h20, h21, nI_clamp (show i < 2 ^ 31 by omega), nI_clamp (show j < 2 ^ 31 by omega), nI_clamp (show q < 2 ^ 31 by omega), hx, hy, zu_same, zu_ne1, zu_ne2, zu_row, zuL_same, zuL_ne1, zuL_ne2, zrow_n1, zx0, zx1, zx2, zx3, nI_1, Nat.reduceAdd, Nat.reduceMul, Int32.reduceAdd, Int32.reduceSub, Int32.reduceMul]
               first
               | refine ⟨vp_inb (by decide), ?_⟩
               | refine ⟨by with_reducible exact zi (by omega), ?_⟩
               | refine ⟨fun h => absurd h (by with_reducible exact nI_ge (by omega) (by omega)), fun _ => ?_⟩
               | refine ⟨fun _ => ?_, fun h => absurd (by with_reducible exact nI_le (by omega) (by omega)) h⟩
               | refine ⟨fun h => absurd h (by with_reducible exact nI_nlt (by omega) (by omega)), fun _ => ?_⟩
               | refine ⟨fun _ => ?_, fun h => absurd (by with_reducible exact nI_lt (by omega) (by omega)) h⟩
               | refine ⟨fun h => absurd h (by with_reducible exact nI_pos (by omega)), fun _ => ?_⟩
               | refine ⟨fun _ => ?_, fun h => absurd (by with_reducible exact nI_0le (by omega)) h⟩
               | refine ⟨fun h => absurd h (by decide), fun _ => ?_⟩
               | refine ⟨fun _ => ?_, fun h => absurd (by decide) h⟩
               | refine ⟨fun _ => ?_, fun h => absurd h (by decide)⟩
               | refine ⟨fun h => absurd (by decide) h, fun _ => ?_⟩
               | refine ⟨by decide, ?_⟩
               | refine ⟨rfl, ?_⟩)
            | (conv => whnf
               fail_if_success refine Exists.intro ?_ ?_
               simp only [nI_clamp (show k < 2 ^ 31 by omega), hc, h19, h20, h21, nI_clamp (show i < 2 ^ 31 by omega), nI_clamp (show j < 2 ^ 31 by omega), nI_clamp (show q < 2 ^ 31 by omega), hx, hy]))
          try (conv => whnf)
          refine ⟨fun w => ?_, fun w => ?_⟩
          · rw [if_neg (Int32.not_lt.mpr w)] at hK
            repeat (conv => whnf
                    try dsimp only
                    try simp (decide := true) only [zu_same, zu_ne1, zu_ne2, zu_row, zuL_same, zuL_ne1, zuL_ne2, zrow_n1, zx0, zx1, zx2, zx3, nI_1, Nat.reduceAdd, Nat.reduceMul, Int32.reduceAdd, Int32.reduceSub, Int32.reduceMul]
                    first
                    | refine ⟨vp_inb (by decide), ?_⟩
                    | refine ⟨by with_reducible exact zi (by omega), ?_⟩
                    | refine ⟨fun h => absurd h (by with_reducible exact nI_ge (by omega) (by omega)), fun _ => ?_⟩
                    | refine ⟨fun _ => ?_, fun h => absurd (by with_reducible exact nI_le (by omega) (by omega)) h⟩
                    | refine ⟨fun h => absurd h (by with_reducible exact nI_nlt (by omega) (by omega)), fun _ => ?_⟩
                    | refine ⟨fun _ => ?_, fun h => absurd (by with_reducible exact nI_lt (by omega) (by omega)) h⟩
                    | refine ⟨fun h => absurd h (by with_reducible exact nI_pos (by omega)), fun _ => ?_⟩
                    | refine ⟨fun _ => ?_, fun h => absurd (by with_reducible exact nI_0le (by omega)) h⟩
                    | refine ⟨fun h => absurd h (by decide), fun _ => ?_⟩
                    | refine ⟨fun _ => ?_, fun h => absurd (by decide) h⟩
                    | refine ⟨fun _ => ?_, fun h => absurd h (by decide)⟩
                    | refine ⟨fun h => absurd (by decide) h, fun _ => ?_⟩
                    | refine ⟨by decide, ?_⟩
                    | refine ⟨rfl, ?_⟩)
            try (conv => whnf)
            refine ⟨(_, _), rfl, rfl, trivial, ?_⟩
            try dsimp only
            repeat (conv => whnf
                    try dsimp only
                    try simp (decide := true) only [zu_same, zu_ne1, zu_ne2, zu_row, zuL_same, zuL_ne1, zuL_ne2, zrow_n1, zx0, zx1, zx2, zx3, nI_1, Nat.reduceAdd, Nat.reduceMul, Int32.reduceAdd, Int32.reduceSub, Int32.reduceMul]
                    first
                    | refine ⟨vp_inb (by decide), ?_⟩
                    | refine ⟨by with_reducible exact zi (by omega), ?_⟩
                    | refine ⟨fun h => absurd h (by with_reducible exact nI_ge (by omega) (by omega)), fun _ => ?_⟩
                    | refine ⟨fun _ => ?_, fun h => absurd (by with_reducible exact nI_le (by omega) (by omega)) h⟩
                    | refine ⟨fun h => absurd h (by with_reducible exact nI_nlt (by omega) (by omega)), fun _ => ?_⟩
                    | refine ⟨fun _ => ?_, fun h => absurd (by with_reducible exact nI_lt (by omega) (by omega)) h⟩
                    | refine ⟨fun h => absurd h (by with_reducible exact nI_pos (by omega)), fun _ => ?_⟩
                    | refine ⟨fun _ => ?_, fun h => absurd (by with_reducible exact nI_0le (by omega)) h⟩
                    | refine ⟨fun h => absurd h (by decide), fun _ => ?_⟩
                    | refine ⟨fun _ => ?_, fun h => absurd (by decide) h⟩
                    | refine ⟨fun _ => ?_, fun h => absurd h (by decide)⟩
                    | refine ⟨fun h => absurd (by decide) h, fun _ => ?_⟩
                    | refine ⟨by decide, ?_⟩
                    | refine ⟨rfl, ?_⟩)
            try (conv => whnf)
            exact hK
          · rw [if_pos (Int32.not_le.mp w)] at hK
            repeat (conv => whnf
                    try dsimp only
                    try simp (decide := true) only [zu_same, zu_ne1, zu_ne2, zu_row, zuL_same, zuL_ne1, zuL_ne2, zrow_n1, zx0, zx1, zx2, zx3, nI_1, Nat.reduceAdd, Nat.reduceMul, Int32.reduceAdd, Int32.reduceSub, Int32.reduceMul]
                    first
                    | refine ⟨vp_inb (by decide), ?_⟩
                    | refine ⟨by with_reducible exact zi (by omega), ?_⟩
                    | refine ⟨fun h => absurd h (by with_reducible exact nI_ge (by omega) (by omega)), fun _ => ?_⟩
                    | refine ⟨fun _ => ?_, fun h => absurd (by with_reducible exact nI_le (by omega) (by omega)) h⟩
                    | refine ⟨fun h => absurd h (by with_reducible exact nI_nlt (by omega) (by omega)), fun _ => ?_⟩
                    | refine ⟨fun _ => ?_, fun h => absurd (by with_reducible exact nI_lt (by omega) (by omega)) h⟩
                    | refine ⟨fun h => absurd h (by with_reducible exact nI_pos (by omega)), fun _ => ?_⟩
                    | refine ⟨fun _ => ?_, fun h => absurd (by with_reducible exact nI_0le (by omega)) h⟩
                    | refine ⟨fun h => absurd h (by decide), fun _ => ?_⟩
                    | refine ⟨fun _ => ?_, fun h => absurd (by decide) h⟩
                    | refine ⟨fun _ => ?_, fun h => absurd h (by decide)⟩
                    | refine ⟨fun h => absurd (by decide) h, fun _ => ?_⟩
                    | refine ⟨by decide, ?_⟩
                    | refine ⟨rfl, ?_⟩)
            try (conv => whnf)
            exact hK
    · try dsimp only [cond_true, cond_false] at *
      have hpr : pRp (zPT σ) (σ 103) (σ 101) k = pRp (zPT σ) (σ 103) (σ 101) k := rfl
      obtain ⟨c, hc, h | ⟨h, v, h19, hv⟩ | ⟨hc2, hc9, i, j, q, h19, h20, h21, hi, hj, hq⟩⟩ := hP
      · subst h
        rw [show pRp (zPT σ) (σ 103) (σ 101) k = σ 19 k from if_pos hc] at hK
        refine hG 100 _ _ _ _ _ ?_
        repeat (first
          | (conv => whnf
             try dsimp only
             try simp (decide := true) only [nI_clamp (show k < 2 ^ 31 by omega), hc, zu_same, zu_ne1, zu_ne2, zu_row, zuL_same, zuL_ne1, zuL_ne2, zrow_n1, zx0, zx1, zx2, zx3, nI_1, Nat.reduceAdd, Nat.reduceMul, Int32.reduceAdd, Int32.reduceSub, Int32.reduceMul]
             first
             | refine ⟨vp_inb (by decide), ?_⟩
             | refine ⟨by with_reducible exact zi (by omega), ?_⟩
             | refine ⟨fun h => absurd h (by with_reducible exact nI_ge (by omega) (by omega)), fun _ => ?_⟩
             | refine ⟨fun _ => ?_, fun h => absurd (by with_reducible exact nI_le (by omega) (by omega)) h⟩
             | refine ⟨fun h => absurd h (by with_reducible exact nI_nlt (by omega) (by omega)), fun _ => ?_⟩
             | refine ⟨fun _ => ?_, fun h => absurd (by with_reducible exact nI_lt (by omega) (by omega)) h⟩
             | refine ⟨fun h => absurd h (by with_reducible exact nI_pos (by omega)), fun _ => ?_⟩
             | refine ⟨fun _ => ?_, fun h => absurd (by with_reducible exact nI_0le (by omega)) h⟩
             | refine ⟨fun h => absurd h (by decide), fun _ => ?_⟩
             | refine ⟨fun _ => ?_, fun h => absurd (by decide) h⟩
             | refine ⟨fun _ => ?_, fun h => absurd h (by decide)⟩
             | refine ⟨fun h => absurd (by decide) h, fun _ => ?_⟩
             | refine ⟨by decide, ?_⟩
             | refine ⟨rfl, ?_⟩)
          | (conv => whnf
             fail_if_success refine Exists.intro ?_ ?_
             simp only [nI_clamp (show k < 2 ^ 31 by omega), hc]))
        try (conv => whnf)
        exact hK
      · subst h
        rw [show pRp (zPT σ) (σ 103) (σ 101) k = σ 103 v by
          show (if σ 18 k = 0 then _ else if σ 18 k = 1 then σ 103 (σ 19 k).toNatClampNeg else _) = _
          rw [hc, if_neg (by decide), if_pos (show nI 1 = 1 from rfl), h19, nI_clamp (by omega)]] at hK
        refine hG 100 _ _ _ _ _ ?_
        repeat (first
          | (conv => whnf
             try dsimp only
             try simp (decide := true) only [nI_clamp (show k < 2 ^ 31 by omega), hc, h19, nI_clamp (show v < 2 ^ 31 by omega), zu_same, zu_ne1, zu_ne2, zu_row, zuL_same, zuL_ne1, zuL_ne2, zrow_n1, zx0, zx1, zx2, zx3, nI_1, Nat.reduceAdd, Nat.reduceMul, Int32.reduceAdd, Int32.reduceSub, Int32.reduceMul]
             first
             | refine ⟨vp_inb (by decide), ?_⟩
             | refine ⟨by with_reducible exact zi (by omega), ?_⟩
             | refine ⟨fun h => absurd h (by with_reducible exact nI_ge (by omega) (by omega)), fun _ => ?_⟩
             | refine ⟨fun _ => ?_, fun h => absurd (by with_reducible exact nI_le (by omega) (by omega)) h⟩
             | refine ⟨fun h => absurd h (by with_reducible exact nI_nlt (by omega) (by omega)), fun _ => ?_⟩
             | refine ⟨fun _ => ?_, fun h => absurd (by with_reducible exact nI_lt (by omega) (by omega)) h⟩
             | refine ⟨fun h => absurd h (by with_reducible exact nI_pos (by omega)), fun _ => ?_⟩
             | refine ⟨fun _ => ?_, fun h => absurd (by with_reducible exact nI_0le (by omega)) h⟩
             | refine ⟨fun h => absurd h (by decide), fun _ => ?_⟩
             | refine ⟨fun _ => ?_, fun h => absurd (by decide) h⟩
             | refine ⟨fun _ => ?_, fun h => absurd h (by decide)⟩
             | refine ⟨fun h => absurd (by decide) h, fun _ => ?_⟩
             | refine ⟨by decide, ?_⟩
             | refine ⟨rfl, ?_⟩)
          | (conv => whnf
             fail_if_success refine Exists.intro ?_ ?_
             simp only [nI_clamp (show k < 2 ^ 31 by omega), hc, h19, nI_clamp (show v < 2 ^ 31 by omega)]))
        try (conv => whnf)
        exact hK
      · rw [show pRp (zPT σ) (σ 103) (σ 101) k = pRq (nI c) (σ 101 i) (σ 101 j) (σ 101 q) by
          show (if σ 18 k = 0 then _ else if σ 18 k = 1 then _ else pRq (σ 18 k) (σ 101 (σ 19 k).toNatClampNeg) (σ 101 (σ 20 k).toNatClampNeg) (σ 101 (σ 21 k).toNatClampNeg)) = _
          rw [hc, h19, h20, h21, nI_clamp (by omega), nI_clamp (by omega), nI_clamp (by omega), if_neg (nI_ne0 (by omega) (by omega)), if_neg (fun z => by
            have := (nI_eq (by omega) (by omega)).mp (show nI c = nI 1 from z)
            omega)]] at hK
        generalize hx : σ 101 i = x at hK
        generalize hy : σ 101 j = y at hK
        generalize hz : σ 101 q = z at hK
        unfold pRq at hK
        have hcc : c = 2 ∨ c = 3 ∨ c = 4 ∨ c = 5 ∨ c = 6 ∨ c = 7 ∨ c = 8 ∨ c = 9 := by omega
        by_cases h1 : x = zBRK
        · rw [if_pos h1] at hK
          rcases hcc with rfl | rfl | rfl | rfl | rfl | rfl | rfl | rfl
          all_goals
            refine hG 100 _ _ _ _ _ ?_
            repeat (first
              | (conv => whnf
                 try dsimp only
                 try simp (decide := true) only [nI_clamp (show k < 2 ^ 31 by omega), hc, h19, h20, h21, nI_clamp (show i < 2 ^ 31 by omega), nI_clamp (show j < 2 ^ 31 by omega), nI_clamp (show q < 2 ^ 31 by omega), hx, zu_same, zu_ne1, zu_ne2, zu_row, zuL_same, zuL_ne1, zuL_ne2, zrow_n1, zx0, zx1, zx2, zx3, nI_1, Nat.reduceAdd, Nat.reduceMul, Int32.reduceAdd, Int32.reduceSub, Int32.reduceMul]
                 first
                 | refine ⟨vp_inb (by decide), ?_⟩
                 | refine ⟨by with_reducible exact zi (by omega), ?_⟩
                 | refine ⟨fun h => absurd h (by with_reducible exact nI_ge (by omega) (by omega)), fun _ => ?_⟩
                 | refine ⟨fun _ => ?_, fun h => absurd (by with_reducible exact nI_le (by omega) (by omega)) h⟩
                 | refine ⟨fun h => absurd h (by with_reducible exact nI_nlt (by omega) (by omega)), fun _ => ?_⟩
                 | refine ⟨fun _ => ?_, fun h => absurd (by with_reducible exact nI_lt (by omega) (by omega)) h⟩
                 | refine ⟨fun h => absurd h (by with_reducible exact nI_pos (by omega)), fun _ => ?_⟩
                 | refine ⟨fun _ => ?_, fun h => absurd (by with_reducible exact nI_0le (by omega)) h⟩
                 | refine ⟨fun h => absurd h (by decide), fun _ => ?_⟩
                 | refine ⟨fun _ => ?_, fun h => absurd (by decide) h⟩
                 | refine ⟨fun _ => ?_, fun h => absurd h (by decide)⟩
                 | refine ⟨fun h => absurd (by decide) h, fun _ => ?_⟩
                 | refine ⟨by decide, ?_⟩
                 | refine ⟨rfl, ?_⟩)
              | (conv => whnf
                 fail_if_success refine Exists.intro ?_ ?_
                 simp only [nI_clamp (show k < 2 ^ 31 by omega), hc, h19, h20, h21, nI_clamp (show i < 2 ^ 31 by omega), nI_clamp (show j < 2 ^ 31 by omega), nI_clamp (show q < 2 ^ 31 by omega), hx]))
            try (conv => whnf)
            refine ⟨fun w => absurd h1 w, fun _ => ?_⟩
            repeat (first
              | (conv => whnf
                 try dsimp only
                 try simp (decide := true) only [nI_clamp (show k < 2 ^ 31 by omega), hc, h19, h20, h21, nI_clamp (show i < 2 ^ 31 by omega), nI_clamp (show j < 2 ^ 31 by omega), nI_clamp (show q < 2 ^ 31 by omega), hx, zu_same, zu_ne1, zu_ne2, zu_row, zuL_same, zuL_ne1, zuL_ne2, zrow_n1, zx0, zx1, zx2, zx3, nI_1, Nat.reduceAdd, Nat.reduceMul, Int32.reduceAdd, Int32.reduceSub, Int32.reduceMul]
                 first
                 | refine ⟨vp_inb (by decide), ?_⟩
                 | refine ⟨by with_reducible exact zi (by omega), ?_⟩
                 | refine ⟨fun h => absurd h (by with_reducible exact nI_ge (by omega) (by omega)), fun _ => ?_⟩
                 | refine ⟨fun _ => ?_, fun h => absurd (by with_reducible exact nI_le (by omega) (by omega)) h⟩
                 | refine ⟨fun h => absurd h (by with_reducible exact nI_nlt (by omega) (by omega)), fun _ => ?_⟩
                 | refine ⟨fun _ => ?_, fun h => absurd (by with_reducible exact nI_lt (by omega) (by omega)) h⟩
                 | refine ⟨fun h => absurd h (by with_reducible exact nI_pos (by omega)), fun _ => ?_⟩
                 | refine ⟨fun _ => ?_, fun h => absurd (by with_reducible exact nI_0le (by omega)) h⟩
                 | refine ⟨fun h => absurd h (by decide), fun _ => ?_⟩
                 | refine ⟨fun _ => ?_, fun h => absurd (by decide) h⟩
                 | refine ⟨fun _ => ?_, fun h => absurd h (by decide)⟩
                 | refine ⟨fun h => absurd (by decide) h, fun _ => ?_⟩
                 | refine ⟨by decide, ?_⟩
                 | refine ⟨rfl, ?_⟩)
              | (conv => whnf
                 fail_if_success refine Exists.intro ?_ ?_
                 simp only [nI_clamp (show k < 2 ^ 31 by omega), hc, h19, h20, h21, nI_clamp (show i < 2 ^ 31 by omega), nI_clamp (show j < 2 ^ 31 by omega), nI_clamp (show q < 2 ^ 31 by omega), hx]))
            try (conv => whnf)
            exact hK
        rw [if_neg h1] at hK
        rcases hcc with rfl | rfl | rfl | rfl | rfl | rfl | rfl | rfl
        · skip
          simp (decide := true) only [if_false, if_true, ite_true, ite_false] at hK
          by_cases h2 : y = zBRK
          · rw [if_pos h2] at hK
            refine hG 200 _ _ _ _ _ ?_
            repeat (first
              | (conv => whnf
                 try dsimp only
                 try simp (decide := true) only [nI_clamp (show k < 2 ^ 31 by omega), hc, h19, h20, h21, nI_clamp (show i < 2 ^ 31 by omega), nI_clamp (show j < 2 ^ 31 by omega), nI_clamp (show q < 2 ^ 31 by omega), hx, zu_same, zu_ne1, zu_ne2, zu_row, zuL_same, zuL_ne1, zuL_ne2, zrow_n1, zx0, zx1, zx2, zx3, nI_1, Nat.reduceAdd, Nat.reduceMul, Int32.reduceAdd, Int32.reduceSub, Int32.reduceMul]
                 first
                 | refine ⟨vp_inb (by decide), ?_⟩
                 | refine ⟨by with_reducible exact zi (by omega), ?_⟩
                 | refine ⟨fun h => absurd h (by with_reducible exact nI_ge (by omega) (by omega)), fun _ => ?_⟩
                 | refine ⟨fun _ => ?_, fun h => absurd (by with_reducible exact nI_le (by omega) (by omega)) h⟩
                 | refine ⟨fun h => absurd h (by with_reducible exact nI_nlt (by omega) (by omega)), fun _ => ?_⟩
                 | refine ⟨fun _ => ?_, fun h => absurd (by with_reducible exact nI_lt (by omega) (by omega)) h⟩
                 | refine ⟨fun h => absurd h (by with_reducible exact nI_pos (by omega)), fun _ => ?_⟩
                 | refine ⟨fun _ => ?_, fun h => absurd (by with_reducible exact nI_0le (by omega)) h⟩
                 | refine ⟨fun h => absurd h (by decide), fun _ => ?_⟩
                 | refine ⟨fun _ => ?_, fun h => absurd (by decide) h⟩
                 | refine ⟨fun _ => ?_, fun h => absurd h (by decide)⟩
                 | refine ⟨fun h => absurd (by decide) h, fun _ => ?_⟩
                 | refine ⟨by decide, ?_⟩
                 | refine ⟨rfl, ?_⟩)
              | (conv => whnf
                 fail_if_success refine Exists.intro ?_ ?_
                 simp only [nI_clamp (show k < 2 ^ 31 by omega), hc, h19, h20, h21, nI_clamp (show i < 2 ^ 31 by omega), nI_clamp (show j < 2 ^ 31 by omega), nI_clamp (show q < 2 ^ 31 by omega), hx]))
            try (conv => whnf)
            refine ⟨fun _ => ?_, fun w => absurd w h1⟩
            repeat (first
              | (conv => whnf
                 try dsimp only
                 try simp (decide := true) only [nI_clamp (show k < 2 ^ 31 by omega), hc, h19, h20, h21, nI_clamp (show i < 2 ^ 31 by omega), nI_clamp (show j < 2 ^ 31 by omega), nI_clamp (show q < 2 ^ 31 by omega), hx, hy, zu_same, zu_ne1, zu_ne2, zu_row, zuL_same, zuL_ne1, zuL_ne2, zrow_n1, zx0, zx1, zx2, zx3, nI_1, Nat.reduceAdd, Nat.reduceMul, Int32.reduceAdd, Int32.reduceSub, Int32.reduceMul]
                 first
                 | refine ⟨vp_inb (by decide), ?_⟩
                 | refine ⟨by with_reducible exact zi (by omega), ?_⟩
                 | refine ⟨fun h => absurd h (by with_reducible exact nI_ge (by omega) (by omega)), fun _ => ?_⟩
                 | refine ⟨fun _ => ?_, fun h => absurd (by with_reducible exact nI_le (by omega) (by omega)) h⟩
                 | refine ⟨fun h => absurd h (by with_reducible exact nI_nlt (by omega) (by omega)), fun _ => ?_⟩
                 | refine ⟨fun _ => ?_, fun h => absurd (by with_reducible exact nI_lt (by omega) (by omega)) h⟩
                 | refine ⟨fun h => absurd h (by with_reducible exact nI_pos (by omega)), fun _ => ?_⟩
                 | refine ⟨fun _ => ?_, fun h => absurd (by with_reducible exact nI_0le (by omega)) h⟩
                 | refine ⟨fun h => absurd h (by decide), fun _ => ?_⟩
                 | refine ⟨fun _ => ?_, fun h => absurd (by decide) h⟩
                 | refine ⟨fun _ => ?_, fun h => absurd h (by decide)⟩
                 | refine ⟨fun h => absurd (by decide) h, fun _ => ?_⟩
                 | refine ⟨by decide, ?_⟩
                 | refine ⟨rfl, ?_⟩)
              | (conv => whnf
                 fail_if_success refine Exists.intro ?_ ?_
                 simp only [nI_clamp (show k < 2 ^ 31 by omega), hc, h19, h20, h21, nI_clamp (show i < 2 ^ 31 by omega), nI_clamp (show j < 2 ^ 31 by omega), nI_clamp (show q < 2 ^ 31 by omega), hx, hy]))
            try (conv => whnf)
            refine ⟨fun w => absurd h2 w, fun _ => ?_⟩
            repeat (first
              | (conv => whnf
                 try dsimp only
                 try simp (decide := true) only [nI_clamp (show k < 2 ^ 31 by omega), hc, h19, h20, h21, nI_clamp (show i < 2 ^ 31 by omega), nI_clamp (show j < 2 ^ 31 by omega), nI_clamp (show q < 2 ^ 31 by omega), hx, hy, zu_same, zu_ne1, zu_ne2, zu_row, zuL_same, zuL_ne1, zuL_ne2, zrow_n1, zx0, zx1, zx2, zx3, nI_1, Nat.reduceAdd, Nat.reduceMul, Int32.reduceAdd, Int32.reduceSub, Int32.reduceMul]
                 first
                 | refine ⟨vp_inb (by decide), ?_⟩
                 | refine ⟨by with_reducible exact zi (by omega), ?_⟩
                 | refine ⟨fun h => absurd h (by with_reducible exact nI_ge (by omega) (by omega)), fun _ => ?_⟩
                 | refine ⟨fun _ => ?_, fun h => absurd (by with_reducible exact nI_le (by omega) (by omega)) h⟩
                 | refine ⟨fun h => absurd h (by with_reducible exact nI_nlt (by omega) (by omega)), fun _ => ?_⟩
                 | refine ⟨fun _ => ?_, fun h => absurd (by with_reducible exact nI_lt (by omega) (by omega)) h⟩
                 | refine ⟨fun h => absurd h (by with_reducible exact nI_pos (by omega)), fun _ => ?_⟩
                 | refine ⟨fun _ => ?_, fun h => absurd (by with_reducible exact nI_0le (by omega)) h⟩
                 | refine ⟨fun h => absurd h (by decide), fun _ => ?_⟩
                 | refine ⟨fun _ => ?_, fun h => absurd (by decide) h⟩
                 | refine ⟨fun _ => ?_, fun h => absurd h (by decide)⟩
                 | refine ⟨fun h => absurd (by decide) h, fun _ => ?_⟩
                 | refine ⟨by decide, ?_⟩
                 | refine ⟨rfl, ?_⟩)
              | (conv => whnf
                 fail_if_success refine Exists.intro ?_ ?_
                 simp only [nI_clamp (show k < 2 ^ 31 by omega), hc, h19, h20, h21, nI_clamp (show i < 2 ^ 31 by omega), nI_clamp (show j < 2 ^ 31 by omega), nI_clamp (show q < 2 ^ 31 by omega), hx, hy]))
            try (conv => whnf)
            exact hK
          rw [if_neg h2] at hK
          refine hG 200 _ _ _ _ _ ?_
          repeat (first
            | (conv => whnf
               try dsimp only
               try simp (decide := true) only [nI_clamp (show k < 2 ^ 31 by omega), hc, h19, h20, h21, nI_clamp (show i < 2 ^ 31 by omega), nI_clamp (show j < 2 ^ 31 by omega), nI_clamp (show q < 2 ^ 31 by omega), hx, zu_same, zu_ne1, zu_ne2, zu_row, zuL_same, zuL_ne1, zuL_ne2, zrow_n1, zx0, zx1, zx2, zx3, nI_1, Nat.reduceAdd, Nat.reduceMul, Int32.reduceAdd, Int32.reduceSub, Int32.reduceMul]
               first
               | refine ⟨vp_inb (by decide), ?_⟩
               | refine ⟨by with_reducible exact zi (by omega), ?_⟩
               | refine ⟨fun h => absurd h (by with_reducible exact nI_ge (by omega) (by omega)), fun _ => ?_⟩
               | refine ⟨fun _ => ?_, fun h => absurd (by with_reducible exact nI_le (by omega) (by omega)) h⟩
               | refine ⟨fun h => absurd h (by with_reducible exact nI_nlt (by omega) (by omega)), fun _ => ?_⟩
               | refine ⟨fun _ => ?_, fun h => absurd (by with_reducible exact nI_lt (by omega) (by omega)) h⟩
               | refine ⟨fun h => absurd h (by with_reducible exact nI_pos (by omega)), fun _ => ?_⟩
               | refine ⟨fun _ => ?_, fun h => absurd (by with_reducible exact nI_0le (by omega)) h⟩
               | refine ⟨fun h => absurd h (by decide), fun _ => ?_⟩
               | refine ⟨fun _ => ?_, fun h => absurd (by decide) h⟩
               | refine ⟨fun _ => ?_, fun h => absurd h (by decide)⟩
               | refine ⟨fun h => absurd (by decide) h, fun _ => ?_⟩
               | refine ⟨by decide, ?_⟩
               | refine ⟨rfl, ?_⟩)
            | (conv => whnf
               fail_if_success refine Exists.intro ?_ ?_
               simp only [nI_clamp (show k < 2 ^ 31 by omega), hc, h19, h20, h21, nI_clamp (show i < 2 ^ 31 by omega), nI_clamp (show j < 2 ^ 31 by omega), nI_clamp (show q < 2 ^ 31 by omega), hx]))
          try (conv => whnf)
          refine ⟨fun _ => ?_, fun w => absurd w h1⟩
          repeat (first
            | (conv => whnf
               try dsimp only
               try simp (decide := true) only [nI_clamp (show k < 2 ^ 31 by omega), hc, h19, h20, h21, nI_clamp (show i < 2 ^ 31 by omega), nI_clamp (show j < 2 ^ 31 by omega), nI_clamp (show q < 2 ^ 31 by omega), hx, hy, zu_same, zu_ne1, zu_ne2, zu_row, zuL_same, zuL_ne1, zuL_ne2, zrow_n1, zx0, zx1, zx2, zx3, nI_1, Nat.reduceAdd, Nat.reduceMul, Int32.reduceAdd, Int32.reduceSub, Int32.reduceMul]
               first
               | refine ⟨vp_inb (by decide), ?_⟩
               | refine ⟨by with_reducible exact zi (by omega), ?_⟩
               | refine ⟨fun h => absurd h (by with_reducible exact nI_ge (by omega) (by omega)), fun _ => ?_⟩
               | refine ⟨fun _ => ?_, fun h => absurd (by with_reducible exact nI_le (by omega) (by omega)) h⟩
               | refine ⟨fun h => absurd h (by with_reducible exact nI_nlt (by omega) (by omega)), fun _ => ?_⟩
               | refine ⟨fun _ => ?_, fun h => absurd (by with_reducible exact nI_lt (by omega) (by omega)) h⟩
               | refine ⟨fun h => absurd h (by with_reducible exact nI_pos (by omega)), fun _ => ?_⟩
               | refine ⟨fun _ => ?_, fun h => absurd (by with_reducible exact nI_0le (by omega)) h⟩
               | refine ⟨fun h => absurd h (by decide), fun _ => ?_⟩
               | refine ⟨fun _ => ?_, fun h => absurd (by decide) h⟩
               | refine ⟨fun _ => ?_, fun h => absurd h (by decide)⟩
               | refine ⟨fun h => absurd (by decide) h, fun _ => ?_⟩
               | refine ⟨by decide, ?_⟩
               | refine ⟨rfl, ?_⟩)
            | (conv => whnf
               fail_if_success refine Exists.intro ?_ ?_
               simp only [nI_clamp (show k < 2 ^ 31 by omega), hc, h19, h20, h21, nI_clamp (show i < 2 ^ 31 by omega), nI_clamp (show j < 2 ^ 31 by omega), nI_clamp (show q < 2 ^ 31 by omega), hx, hy]))
          try (conv => whnf)
          refine ⟨fun _ => ?_, fun w => absurd w h2⟩
          repeat (first
            | (conv => whnf
               try dsimp only
               try simp (decide := true) only [nI_clamp (show k < 2 ^ 31 by omega), hc, h19, h20, h21, nI_clamp (show i < 2 ^ 31 by omega), nI_clamp (show j < 2 ^ 31 by omega), nI_clamp (show q < 2 ^ 31 by omega), hx, hy, zu_same, zu_ne1, zu_ne2, zu_row, zuL_same, zuL_ne1, zuL_ne2, zrow_n1, zx0, zx1, zx2, zx3, nI_1, Nat.reduceAdd, Nat.reduceMul, Int32.reduceAdd, Int32.reduceSub, Int32.reduceMul]
               first
               | refine ⟨vp_inb (by decide), ?_⟩
               | refine ⟨by with_reducible exact zi (by omega), ?_⟩
               | refine ⟨fun h => absurd h (by with_reducible exact nI_ge (by omega) (by omega)), fun _ => ?_⟩
               | refine ⟨fun _ => ?_, fun h => absurd (by with_reducible exact nI_le (by omega) (by omega)) h⟩
               | refine ⟨fun h => absurd h (by with_reducible exact nI_nlt (by omega) (by omega)), fun _ => ?_⟩
               | refine ⟨fun _ => ?_, fun h => absurd (by with_reducible exact nI_lt (by omega) (by omega)) h⟩
               | refine ⟨fun h => absurd h (by with_reducible exact nI_pos (by omega)), fun _ => ?_⟩
               | refine ⟨fun _ => ?_, fun h => absurd (by with_reducible exact nI_0le (by omega)) h⟩
               | refine ⟨fun h => absurd h (by decide), fun _ => ?_⟩
               | refine ⟨fun _ => ?_, fun h => absurd (by decide) h⟩
               | refine ⟨fun _ => ?_, fun h => absurd h (by decide)⟩
               | refine ⟨fun h => absurd (by decide) h, fun _ => ?_⟩
               | refine ⟨by decide, ?_⟩
               | refine ⟨rfl, ?_⟩)
            | (conv => whnf
               fail_if_success refine Exists.intro ?_ ?_
               simp only [nI_clamp (show k < 2 ^ 31 by omega), hc, h19, h20, h21, nI_clamp (show i < 2 ^ 31 by omega), nI_clamp (show j < 2 ^ 31 by omega), nI_clamp (show q < 2 ^ 31 by omega), hx, hy]))
          try (conv => whnf)
          refine ⟨fun w => absurd w (by decide), zsw_one _ _ 0 188 rfl rfl ?_⟩
          repeat (first
            | (conv => whnf
               try dsimp only
               try simp (decide := true) only [nI_clamp (show k < 2 ^ 31 by omega), hc, h19, h20, h21, nI_clamp (show i < 2 ^ 31 by omega), nI_clamp (show j < 2 ^ 31 by omega), nI_clamp (show q < 2 ^ 31 by omega), zu_same, zu_ne1, zu_ne2, zu_row, zuL_same, zuL_ne1, zuL_ne2, zrow_n1, zx0, zx1, zx2, zx3, nI_1, Nat.reduceAdd, Nat.reduceMul, Int32.reduceAdd, Int32.reduceSub, Int32.reduceMul]
               first
               | refine ⟨vp_inb (by decide), ?_⟩
               | refine ⟨by with_reducible exact zi (by omega), ?_⟩
               | refine ⟨fun h => absurd h (by with_reducible exact nI_ge (by omega) (by omega)), fun _ => ?_⟩
               | refine ⟨fun _ => ?_, fun h => absurd (by with_reducible exact nI_le (by omega) (by omega)) h⟩
               | refine ⟨fun h => absurd h (by with_reducible exact nI_nlt (by omega) (by omega)), fun _ => ?_⟩
               | refine ⟨fun _ => ?_, fun h => absurd (by with_reducible exact nI_lt (by omega) (by omega)) h⟩
               | refine ⟨fun h => absurd h (by with_reducible exact nI_pos (by omega)), fun _ => ?_⟩
               | refine ⟨fun _ => ?_, fun h => absurd (by with_reducible exact nI_0le (by omega)) h⟩
               | refine ⟨fun h => absurd h (by decide), fun _ => ?_⟩
               | refine ⟨fun _ => ?_, fun h => absurd (by decide) h⟩
               | refine ⟨fun _ => ?_, fun h => absurd h (by decide)⟩
               | refine ⟨fun h => absurd (by decide) h, fun _ => ?_⟩
               | refine ⟨by decide, ?_⟩
               | refine ⟨rfl, ?_⟩)
            | (conv => whnf
               fail_if_success refine Exists.intro ?_ ?_
               simp only [nI_clamp (show k < 2 ^ 31 by omega), hc, h19, h20, h21, nI_clamp (show i < 2 ^ 31 by omega), nI_clamp (show j < 2 ^ 31 by omega), nI_clamp (show q < 2 ^ 31 by omega)]))
          try (conv => whnf)
          refine ⟨(_, _), rfl, rfl, trivial, ?_⟩
          try dsimp only
          repeat (conv => whnf
                  try dsimp only
                  try simp (decide := true) only [zu_same, zu_ne1, zu_ne2, zu_row, zuL_same, zuL_ne1, zuL_ne2, zrow_n1, zx0, zx1, zx2, zx3, nI_1, Nat.reduceAdd, Nat.reduceMul, Int32.reduceAdd, Int32.reduceSub, Int32.reduceMul]
                  first
                  | refine ⟨vp_inb (by decide), ?_⟩
                  | refine ⟨by with_reducible exact zi (by omega), ?_⟩
                  | refine ⟨fun h => absurd h (by with_reducible exact nI_ge (by omega) (by omega)), fun _ => ?_⟩
                  | refine ⟨fun _ => ?_, fun h => absurd (by with_reducible exact nI_le (by omega) (by omega)) h⟩
                  | refine ⟨fun h => absurd h (by with_reducible exact nI_nlt (by omega) (by omega)), fun _ => ?_⟩
                  | refine ⟨fun _ => ?_, fun h => absurd (by with_reducible exact nI_lt (by omega) (by omega)) h⟩
                  | refine ⟨fun h => absurd h (by with_reducible exact nI_pos (by omega)), fun _ => ?_⟩
                  | refine ⟨fun _ => ?_, fun h => absurd (by with_reducible exact nI_0le (by omega)) h⟩
                  | refine ⟨fun h => absurd h (by decide), fun _ => ?_⟩
                  | refine ⟨fun _ => ?_, fun h => absurd (by decide) h⟩
                  | refine ⟨fun _ => ?_, fun h => absurd h (by decide)⟩
                  | refine ⟨fun h => absurd (by decide) h, fun _ => ?_⟩
                  | refine ⟨by decide, ?_⟩
                  | refine ⟨rfl, ?_⟩)
          try (conv => whnf)
          exact hK
        · skip
          simp (decide := true) only [if_false, if_true, ite_true, ite_false] at hK
          by_cases h2 : y = zBRK
          · rw [if_pos h2] at hK
            refine hG 200 _ _ _ _ _ ?_
            repeat (first
              | (conv => whnf
                 try dsimp only
                 try simp (decide := true) only [nI_clamp (show k < 2 ^ 31 by omega), hc, h19, h20, h21, nI_clamp (show i < 2 ^ 31 by omega), nI_clamp (show j < 2 ^ 31 by omega), nI_clamp (show q < 2 ^ 31 by omega), hx, zu_same, zu_ne1, zu_ne2, zu_row, zuL_same, zuL_ne1, zuL_ne2, zrow_n1, zx0, zx1, zx2, zx3, nI_1, Nat.reduceAdd, Nat.reduceMul, Int32.reduceAdd, Int32.reduceSub, Int32.reduceMul]
                 first
                 | refine ⟨vp_inb (by decide), ?_⟩
                 | refine ⟨by with_reducible exact zi (by omega), ?_⟩
                 | refine ⟨fun h => absurd h (by with_reducible exact nI_ge (by omega) (by omega)), fun _ => ?_⟩
                 | refine ⟨fun _ => ?_, fun h => absurd (by with_reducible exact nI_le (by omega) (by omega)) h⟩
                 | refine ⟨fun h => absurd h (by with_reducible exact nI_nlt (by omega) (by omega)), fun _ => ?_⟩
                 | refine ⟨fun _ => ?_, fun h => absurd (by with_reducible exact nI_lt (by omega) (by omega)) h⟩
                 | refine ⟨fun h => absurd h (by with_reducible exact nI_pos (by omega)), fun _ => ?_⟩
                 | refine ⟨fun _ => ?_, fun h => absurd (by with_reducible exact nI_0le (by omega)) h⟩
                 | refine ⟨fun h => absurd h (by decide), fun _ => ?_⟩
                 | refine ⟨fun _ => ?_, fun h => absurd (by decide) h⟩
                 | refine ⟨fun _ => ?_, fun h => absurd h (by decide)⟩
                 | refine ⟨fun h => absurd (by decide) h, fun _ => ?_⟩
                 | refine ⟨by decide, ?_⟩
                 | refine ⟨rfl, ?_⟩)
              | (conv => whnf
                 fail_if_success refine Exists.intro ?_ ?_
                 simp only [nI_clamp (show k < 2 ^ 31 by omega), hc, h19, h20, h21, nI_clamp (show i < 2 ^ 31 by omega), nI_clamp (show j < 2 ^ 31 by omega), nI_clamp (show q < 2 ^ 31 by omega), hx]))
            try (conv => whnf)
            refine ⟨fun _ => ?_, fun w => absurd w h1⟩
            repeat (first
              | (conv => whnf
                 try dsimp only
                 try simp (decide := true) only [nI_clamp (show k < 2 ^ 31 by omega), hc, h19, h20, h21, nI_clamp (show i < 2 ^ 31 by omega), nI_clamp (show j < 2 ^ 31 by omega), nI_clamp (show q < 2 ^ 31 by omega), hx, hy, zu_same, zu_ne1, zu_ne2, zu_row, zuL_same, zuL_ne1, zuL_ne2, zrow_n1, zx0, zx1, zx2, zx3, nI_1, Nat.reduceAdd, Nat.reduceMul, Int32.reduceAdd, Int32.reduceSub, Int32.reduceMul]
                 first
                 | refine ⟨vp_inb (by decide), ?_⟩
                 | refine ⟨by with_reducible exact zi (by omega), ?_⟩
                 | refine ⟨fun h => absurd h (by with_reducible exact nI_ge (by omega) (by omega)), fun _ => ?_⟩
                 | refine ⟨fun _ => ?_, fun h => absurd (by with_reducible exact nI_le (by omega) (by omega)) h⟩
                 | refine ⟨fun h => absurd h (by with_reducible exact nI_nlt (by omega) (by omega)), fun _ => ?_⟩
                 | refine ⟨fun _ => ?_, fun h => absurd (by with_reducible exact nI_lt (by omega) (by omega)) h⟩
                 | refine ⟨fun h => absurd h (by with_reducible exact nI_pos (by omega)), fun _ => ?_⟩
                 | refine ⟨fun _ => ?_, fun h => absurd (by with_reducible exact nI_0le (by omega)) h⟩
                 | refine ⟨fun h => absurd h (by decide), fun _ => ?_⟩
                 | refine ⟨fun _ => ?_, fun h => absurd (by decide) h⟩
                 | refine ⟨fun _ => ?_, fun h => absurd h (by decide)⟩
                 | refine ⟨fun h => absurd (by decide) h, fun _ => ?_⟩
                 | refine ⟨by decide, ?_⟩
                 | refine ⟨rfl, ?_⟩)
              | (conv => whnf
                 fail_if_success refine Exists.intro ?_ ?_
                 simp only [nI_clamp (show k < 2 ^ 31 by omega), hc, h19, h20, h21, nI_clamp (show i < 2 ^ 31 by omega), nI_clamp (show j < 2 ^ 31 by omega), nI_clamp (show q < 2 ^ 31 by omega), hx, hy]))
            try (conv => whnf)
            refine ⟨fun w => absurd h2 w, fun _ => ?_⟩
            repeat (first
              | (conv => whnf
                 try dsimp only
                 try simp (decide := true) only [nI_clamp (show k < 2 ^ 31 by omega), hc, h19, h20, h21, nI_clamp (show i < 2 ^ 31 by omega), nI_clamp (show j < 2 ^ 31 by omega), nI_clamp (show q < 2 ^ 31 by omega), hx, hy, zu_same, zu_ne1, zu_ne2, zu_row, zuL_same, zuL_ne1, zuL_ne2, zrow_n1, zx0, zx1, zx2, zx3, nI_1, Nat.reduceAdd, Nat.reduceMul, Int32.reduceAdd, Int32.reduceSub, Int32.reduceMul]
                 first
                 | refine ⟨vp_inb (by decide), ?_⟩
                 | refine ⟨by with_reducible exact zi (by omega), ?_⟩
                 | refine ⟨fun h => absurd h (by with_reducible exact nI_ge (by omega) (by omega)), fun _ => ?_⟩
                 | refine ⟨fun _ => ?_, fun h => absurd (by with_reducible exact nI_le (by omega) (by omega)) h⟩
                 | refine ⟨fun h => absurd h (by with_reducible exact nI_nlt (by omega) (by omega)), fun _ => ?_⟩
                 | refine ⟨fun _ => ?_, fun h => absurd (by with_reducible exact nI_lt (by omega) (by omega)) h⟩
                 | refine ⟨fun h => absurd h (by with_reducible exact nI_pos (by omega)), fun _ => ?_⟩
                 | refine ⟨fun _ => ?_, fun h => absurd (by with_reducible exact nI_0le (by omega)) h⟩
                 | refine ⟨fun h => absurd h (by decide), fun _ => ?_⟩
                 | refine ⟨fun _ => ?_, fun h => absurd (by decide) h⟩
                 | refine ⟨fun _ => ?_, fun h => absurd h (by decide)⟩
                 | refine ⟨fun h => absurd (by decide) h, fun _ => ?_⟩
                 | refine ⟨by decide, ?_⟩
                 | refine ⟨rfl, ?_⟩)
              | (conv => whnf
                 fail_if_success refine Exists.intro ?_ ?_
                 simp only [nI_clamp (show k < 2 ^ 31 by omega), hc, h19, h20, h21, nI_clamp (show i < 2 ^ 31 by omega), nI_clamp (show j < 2 ^ 31 by omega), nI_clamp (show q < 2 ^ 31 by omega), hx, hy]))
            try (conv => whnf)
            exact hK
          rw [if_neg h2] at hK
          refine hG 200 _ _ _ _ _ ?_
          repeat (first
            | (conv => whnf
               try dsimp only
               try simp (decide := true) only [nI_clamp (show k < 2 ^ 31 by omega), hc, h19, h20, h21, nI_clamp (show i < 2 ^ 31 by omega), nI_clamp (show j < 2 ^ 31 by omega), nI_clamp (show q < 2 ^ 31 by omega), hx, zu_same, zu_ne1, zu_ne2, zu_row, zuL_same, zuL_ne1, zuL_ne2, zrow_n1, zx0, zx1, zx2, zx3, nI_1, Nat.reduceAdd, Nat.reduceMul, Int32.reduceAdd, Int32.reduceSub, Int32.reduceMul]
               first
               | refine ⟨vp_inb (by decide), ?_⟩
               | refine ⟨by with_reducible exact zi (by omega), ?_⟩
               | refine ⟨fun h => absurd h (by with_reducible exact nI_ge (by omega) (by omega)), fun _ => ?_⟩
               | refine ⟨fun _ => ?_, fun h => absurd (by with_reducible exact nI_le (by omega) (by omega)) h⟩
               | refine ⟨fun h => absurd h (by with_reducible exact nI_nlt (by omega) (by omega)), fun _ => ?_⟩
               | refine ⟨fun _ => ?_, fun h => absurd (by with_reducible exact nI_lt (by omega) (by omega)) h⟩
               | refine ⟨fun h => absurd h (by with_reducible exact nI_pos (by omega)), fun _ => ?_⟩
               | refine ⟨fun _ => ?_, fun h => absurd (by with_reducible exact nI_0le (by omega)) h⟩
               | refine ⟨fun h => absurd h (by decide), fun _ => ?_⟩
               | refine ⟨fun _ => ?_, fun h => absurd (by decide) h⟩
               | refine ⟨fun _ => ?_, fun h => absurd h (by decide)⟩
               | refine ⟨fun h => absurd (by decide) h, fun _ => ?_⟩
               | refine ⟨by decide, ?_⟩
               | refine ⟨rfl, ?_⟩)
            | (conv => whnf
               fail_if_success refine Exists.intro ?_ ?_
               simp only [nI_clamp (show k < 2 ^ 31 by omega), hc, h19, h20, h21, nI_clamp (show i < 2 ^ 31 by omega), nI_clamp (show j < 2 ^ 31 by omega), nI_clamp (show q < 2 ^ 31 by omega), hx]))
          try (conv => whnf)
          refine ⟨fun _ => ?_, fun w => absurd w h1⟩
          repeat (first
            | (conv => whnf
               try dsimp only
               try simp (decide := true) only [nI_clamp (show k < 2 ^ 31 by omega), hc, h19, h20, h21, nI_clamp (show i < 2 ^ 31 by omega), nI_clamp (show j < 2 ^ 31 by omega), nI_clamp (show q < 2 ^ 31 by omega), hx, hy, zu_same, zu_ne1, zu_ne2, zu_row, zuL_same, zuL_ne1, zuL_ne2, zrow_n1, zx0, zx1, zx2, zx3, nI_1, Nat.reduceAdd, Nat.reduceMul, Int32.reduceAdd, Int32.reduceSub, Int32.reduceMul]
               first
               | refine ⟨vp_inb (by decide), ?_⟩
               | refine ⟨by with_reducible exact zi (by omega), ?_⟩
               | refine ⟨fun h => absurd h (by with_reducible exact nI_ge (by omega) (by omega)), fun _ => ?_⟩
               | refine ⟨fun _ => ?_, fun h => absurd (by with_reducible exact nI_le (by omega) (by omega)) h⟩
               | refine ⟨fun h => absurd h (by with_reducible exact nI_nlt (by omega) (by omega)), fun _ => ?_⟩
               | refine ⟨fun _ => ?_, fun h => absurd (by with_reducible exact nI_lt (by omega) (by omega)) h⟩
               | refine ⟨fun h => absurd h (by with_reducible exact nI_pos (by omega)), fun _ => ?_⟩
               | refine ⟨fun _ => ?_, fun h => absurd (by with_reducible exact nI_0le (by omega)) h⟩
               | refine ⟨fun h => absurd h (by decide), fun _ => ?_⟩
               | refine ⟨fun _ => ?_, fun h => absurd (by decide) h⟩
               | refine ⟨fun _ => ?_, fun h => absurd h (by decide)⟩
               | refine ⟨fun h => absurd (by decide) h, fun _ => ?_⟩
               | refine ⟨by decide, ?_⟩
               | refine ⟨rfl, ?_⟩)
            | (conv => whnf
               fail_if_success refine Exists.intro ?_ ?_
               simp only [nI_clamp (show k < 2 ^ 31 by omega), hc, h19, h20, h21, nI_clamp (show i < 2 ^ 31 by omega), nI_clamp (show j < 2 ^ 31 by omega), nI_clamp (show q < 2 ^ 31 by omega), hx, hy]))
          try (conv => whnf)
          refine ⟨fun _ => ?_, fun w => absurd w h2⟩
          repeat (first
            | (conv => whnf
               try dsimp only
               try simp (decide := true) only [nI_clamp (show k < 2 ^ 31 by omega), hc, h19, h20, h21, nI_clamp (show i < 2 ^ 31 by omega), nI_clamp (show j < 2 ^ 31 by omega), nI_clamp (show q < 2 ^ 31 by omega), hx, hy, zu_same, zu_ne1, zu_ne2, zu_row, zuL_same, zuL_ne1, zuL_ne2, zrow_n1, zx0, zx1, zx2, zx3, nI_1, Nat.reduceAdd, Nat.reduceMul, Int32.reduceAdd, Int32.reduceSub, Int32.reduceMul]
               first
               | refine ⟨vp_inb (by decide), ?_⟩
               | refine ⟨by with_reducible exact zi (by omega), ?_⟩
               | refine ⟨fun h => absurd h (by with_reducible exact nI_ge (by omega) (by omega)), fun _ => ?_⟩
               | refine ⟨fun _ => ?_, fun h => absurd (by with_reducible exact nI_le (by omega) (by omega)) h⟩
               | refine ⟨fun h => absurd h (by with_reducible exact nI_nlt (by omega) (by omega)), fun _ => ?_⟩
               | refine ⟨fun _ => ?_, fun h => absurd (by with_reducible exact nI_lt (by omega) (by omega)) h⟩
               | refine ⟨fun h => absurd h (by with_reducible exact nI_pos (by omega)), fun _ => ?_⟩
               | refine ⟨fun _ => ?_, fun h => absurd (by with_reducible exact nI_0le (by omega)) h⟩
               | refine ⟨fun h => absurd h (by decide), fun _ => ?_⟩
               | refine ⟨fun _ => ?_, fun h => absurd (by decide) h⟩
               | refine ⟨fun _ => ?_, fun h => absurd h (by decide)⟩
               | refine ⟨fun h => absurd (by decide) h, fun _ => ?_⟩
               | refine ⟨by decide, ?_⟩
               | refine ⟨rfl, ?_⟩)
            | (conv => whnf
               fail_if_success refine Exists.intro ?_ ?_
               simp only [nI_clamp (show k < 2 ^ 31 by omega), hc, h19, h20, h21, nI_clamp (show i < 2 ^ 31 by omega), nI_clamp (show j < 2 ^ 31 by omega), nI_clamp (show q < 2 ^ 31 by omega), hx, hy]))
          try (conv => whnf)
          refine ⟨fun w => absurd w (by decide), zsw_one _ _ 1 199 rfl rfl ?_⟩
          repeat (first
            | (conv => whnf
               try dsimp only
               try simp (decide := true) only [nI_clamp (show k < 2 ^ 31 by omega), hc, h19, h20, h21, nI_clamp (show i < 2 ^ 31 by omega), nI_clamp (show j < 2 ^ 31 by omega), nI_clamp (show q < 2 ^ 31 by omega), zu_same, zu_ne1, zu_ne2, zu_row, zuL_same, zuL_ne1, zuL_ne2, zrow_n1, zx0, zx1, zx2, zx3, nI_1, Nat.reduceAdd, Nat.reduceMul, Int32.reduceAdd, Int32.reduceSub, Int32.reduceMul]
               first
               | refine ⟨vp_inb (by decide), ?_⟩
               | refine ⟨by with_reducible exact zi (by omega), ?_⟩
               | refine ⟨fun h => absurd h (by with_reducible exact nI_ge (by omega) (by omega)), fun _ => ?_⟩
               | refine ⟨fun _ => ?_, fun h => absurd (by with_reducible exact nI_le (by omega) (by omega)) h⟩
               | refine ⟨fun h => absurd h (by with_reducible exact nI_nlt (by omega) (by omega)), fun _ => ?_⟩
               | refine ⟨fun _ => ?_, fun h => absurd (by with_reducible exact nI_lt (by omega) (by omega)) h⟩
               | refine ⟨fun h => absurd h (by with_reducible exact nI_pos (by omega)), fun _ => ?_⟩
               | refine ⟨fun _ => ?_, fun h => absurd (by with_reducible exact nI_0le (by omega)) h⟩
               | refine ⟨fun h => absurd h (by decide), fun _ => ?_⟩
               | refine ⟨fun _ => ?_, fun h => absurd (by decide) h⟩
               | refine ⟨fun _ => ?_, fun h => absurd h (by decide)⟩
               | refine ⟨fun h => absurd (by decide) h, fun _ => ?_⟩
               | refine ⟨by decide, ?_⟩
               | refine ⟨rfl, ?_⟩)
            | (conv => whnf
               fail_if_success refine Exists.intro ?_ ?_
               simp only [nI_clamp (show k < 2 ^ 31 by omega), hc, h19, h20, h21, nI_clamp (show i < 2 ^ 31 by omega), nI_clamp (show j < 2 ^ 31 by omega), nI_clamp (show q < 2 ^ 31 by omega)]))
          try (conv => whnf)
          refine ⟨(_, _), rfl, rfl, trivial, ?_⟩
          try dsimp only
          repeat (conv => whnf
                  try dsimp only
                  try simp (decide := true) only [zu_same, zu_ne1, zu_ne2, zu_row, zuL_same, zuL_ne1, zuL_ne2, zrow_n1, zx0, zx1, zx2, zx3, nI_1, Nat.reduceAdd, Nat.reduceMul, Int32.reduceAdd, Int32.reduceSub, Int32.reduceMul]
                  first
                  | refine ⟨vp_inb (by decide), ?_⟩
                  | refine ⟨by with_reducible exact zi (by omega), ?_⟩
                  | refine ⟨fun h => absurd h (by with_reducible exact nI_ge (by omega) (by omega)), fun _ => ?_⟩
                  | refine ⟨fun _ => ?_, fun h => absurd (by with_reducible exact nI_le (by omega) (by omega)) h⟩
                  | refine ⟨fun h => absurd h (by with_reducible exact nI_nlt (by omega) (by omega)), fun _ => ?_⟩
                  | refine ⟨fun _ => ?_, fun h => absurd (by with_reducible exact nI_lt (by omega) (by omega)) h⟩
                  | refine ⟨fun h => absurd h (by with_reducible exact nI_pos (by omega)), fun _ => ?_⟩
                  | refine ⟨fun _ => ?_, fun h => absurd (by with_reducible exact nI_0le (by omega)) h⟩
                  | refine ⟨fun h => absurd h (by decide), fun _ => ?_⟩
                  | refine ⟨fun _ => ?_, fun h => absurd (by decide) h⟩
                  | refine ⟨fun _ => ?_, fun h => absurd h (by decide)⟩
                  | refine ⟨fun h => absurd (by decide) h, fun _ => ?_⟩
                  | refine ⟨by decide, ?_⟩
                  | refine ⟨rfl, ?_⟩)
          try (conv => whnf)
          exact hK
        · skip
          simp (decide := true) only [if_false, if_true, ite_true, ite_false] at hK
          by_cases h2 : y = zBRK
          · rw [if_pos h2] at hK
            refine hG 200 _ _ _ _ _ ?_
            repeat (first
              | (conv => whnf
                 try dsimp only
                 try simp (decide := true) only [nI_clamp (show k < 2 ^ 31 by omega), hc, h19, h20, h21, nI_clamp (show i < 2 ^ 31 by omega), nI_clamp (show j < 2 ^ 31 by omega), nI_clamp (show q < 2 ^ 31 by omega), hx, zu_same, zu_ne1, zu_ne2, zu_row, zuL_same, zuL_ne1, zuL_ne2, zrow_n1, zx0, zx1, zx2, zx3, nI_1, Nat.reduceAdd, Nat.reduceMul, Int32.reduceAdd, Int32.reduceSub, Int32.reduceMul]
                 first
                 | refine ⟨vp_inb (by decide), ?_⟩
                 | refine ⟨by with_reducible exact zi (by omega), ?_⟩
                 | refine ⟨fun h => absurd h (by with_reducible exact nI_ge (by omega) (by omega)), fun _ => ?_⟩
                 | refine ⟨fun _ => ?_, fun h => absurd (by with_reducible exact nI_le (by omega) (by omega)) h⟩
                 | refine ⟨fun h => absurd h (by with_reducible exact nI_nlt (by omega) (by omega)), fun _ => ?_⟩
                 | refine ⟨fun _ => ?_, fun h => absurd (by with_reducible exact nI_lt (by omega) (by omega)) h⟩
                 | refine ⟨fun h => absurd h (by with_reducible exact nI_pos (by omega)), fun _ => ?_⟩
                 | refine ⟨fun _ => ?_, fun h => absurd (by with_reducible exact nI_0le (by omega)) h⟩
                 | refine ⟨fun h => absurd h (by decide), fun _ => ?_⟩
                 | refine ⟨fun _ => ?_, fun h => absurd (by decide) h⟩
                 | refine ⟨fun _ => ?_, fun h => absurd h (by decide)⟩
                 | refine ⟨fun h => absurd (by decide) h, fun _ => ?_⟩
                 | refine ⟨by decide, ?_⟩
                 | refine ⟨rfl, ?_⟩)
              | (conv => whnf
                 fail_if_success refine Exists.intro ?_ ?_
                 simp only [nI_clamp (show k < 2 ^ 31 by omega), hc, h19, h20, h21, nI_clamp (show i < 2 ^ 31 by omega), nI_clamp (show j < 2 ^ 31 by omega), nI_clamp (show q < 2 ^ 31 by omega), hx]))
            try (conv => whnf)
            refine ⟨fun _ => ?_, fun w => absurd w h1⟩
            repeat (first
              | (conv => whnf
                 try dsimp only
                 try simp (decide := true) only [nI_clamp (show k < 2 ^ 31 by omega), hc, h19, h20, h21, nI_clamp (show i < 2 ^ 31 by omega), nI_clamp (show j < 2 ^ 31 by omega), nI_clamp (show q < 2 ^ 31 by omega), hx, hy, zu_same, zu_ne1, zu_ne2, zu_row, zuL_same, zuL_ne1, zuL_ne2, zrow_n1, zx0, zx1, zx2, zx3, nI_1, Nat.reduceAdd, Nat.reduceMul, Int32.reduceAdd, Int32.reduceSub, Int32.reduceMul]
                 first
                 | refine ⟨vp_inb (by decide), ?_⟩
                 | refine ⟨by with_reducible exact zi (by omega), ?_⟩
                 | refine ⟨fun h => absurd h (by with_reducible exact nI_ge (by omega) (by omega)), fun _ => ?_⟩
                 | refine ⟨fun _ => ?_, fun h => absurd (by with_reducible exact nI_le (by omega) (by omega)) h⟩
                 | refine ⟨fun h => absurd h (by with_reducible exact nI_nlt (by omega) (by omega)), fun _ => ?_⟩
                 | refine ⟨fun _ => ?_, fun h => absurd (by with_reducible exact nI_lt (by omega) (by omega)) h⟩
                 | refine ⟨fun h => absurd h (by with_reducible exact nI_pos (by omega)), fun _ => ?_⟩
                 | refine ⟨fun _ => ?_, fun h => absurd (by with_reducible exact nI_0le (by omega)) h⟩
                 | refine ⟨fun h => absurd h (by decide), fun _ => ?_⟩
                 | refine ⟨fun _ => ?_, fun h => absurd (by decide) h⟩
                 | refine ⟨fun _ => ?_, fun h => absurd h (by decide)⟩
                 | refine ⟨fun h => absurd (by decide) h, fun _ => ?_⟩
                 | refine ⟨by decide, ?_⟩
                 | refine ⟨rfl, ?_⟩)
              | (conv => whnf
                 fail_if_success refine Exists.intro ?_ ?_
                 simp only [nI_clamp (show k < 2 ^ 31 by omega), hc, h19, h20, h21, nI_clamp (show i < 2 ^ 31 by omega), nI_clamp (show j < 2 ^ 31 by omega), nI_clamp (show q < 2 ^ 31 by omega), hx, hy]))
            try (conv => whnf)
            refine ⟨fun w => absurd h2 w, fun _ => ?_⟩
            repeat (first
              | (conv => whnf
                 try dsimp only
                 try simp (decide := true) only [nI_clamp (show k < 2 ^ 31 by omega), hc, h19, h20, h21, nI_clamp (show i < 2 ^ 31 by omega), nI_clamp (show j < 2 ^ 31 by omega), nI_clamp (show q < 2 ^ 31 by omega), hx, hy, zu_same, zu_ne1, zu_ne2, zu_row, zuL_same, zuL_ne1, zuL_ne2, zrow_n1, zx0, zx1, zx2, zx3, nI_1, Nat.reduceAdd, Nat.reduceMul, Int32.reduceAdd, Int32.reduceSub, Int32.reduceMul]
                 first
                 | refine ⟨vp_inb (by decide), ?_⟩
                 | refine ⟨by with_reducible exact zi (by omega), ?_⟩
                 | refine ⟨fun h => absurd h (by with_reducible exact nI_ge (by omega) (by omega)), fun _ => ?_⟩
                 | refine ⟨fun _ => ?_, fun h => absurd (by with_reducible exact nI_le (by omega) (by omega)) h⟩
                 | refine ⟨fun h => absurd h (by with_reducible exact nI_nlt (by omega) (by omega)), fun _ => ?_⟩
                 | refine ⟨fun _ => ?_, fun h => absurd (by with_reducible exact nI_lt (by omega) (by omega)) h⟩
                 | refine ⟨fun h => absurd h (by with_reducible exact nI_pos (by omega)), fun _ => ?_⟩
                 | refine ⟨fun _ => ?_, fun h => absurd (by with_reducible exact nI_0le (by omega)) h⟩
                 | refine ⟨fun h => absurd h (by decide), fun _ => ?_⟩
                 | refine ⟨fun _ => ?_, fun h => absurd (by decide) h⟩
                 | refine ⟨fun _ => ?_, fun h => absurd h (by decide)⟩
                 | refine ⟨fun h => absurd (by decide) h, fun _ => ?_⟩
                 | refine ⟨by decide, ?_⟩
                 | refine ⟨rfl, ?_⟩)
              | (conv => whnf
                 fail_if_success refine Exists.intro ?_ ?_
                 simp only [nI_clamp (show k < 2 ^ 31 by omega), hc, h19, h20, h21, nI_clamp (show i < 2 ^ 31 by omega), nI_clamp (show j < 2 ^ 31 by omega), nI_clamp (show q < 2 ^ 31 by omega), hx, hy]))
            try (conv => whnf)
            exact hK
          rw [if_neg h2] at hK
          refine hG 200 _ _ _ _ _ ?_
          repeat (first
            | (conv => whnf
               try dsimp only
               try simp (decide := true) only [nI_clamp (show k < 2 ^ 31 by omega), hc, h19, h20, h21, nI_clamp (show i < 2 ^ 31 by omega), nI_clamp (show j < 2 ^ 31 by omega), nI_clamp (show q < 2 ^ 31 by omega), hx, zu_same, zu_ne1, zu_ne2, zu_row, zuL_same, zuL_ne1, zuL_ne2, zrow_n1, zx0, zx1, zx2, zx3, nI_1, Nat.reduceAdd, Nat.reduceMul, Int32.reduceAdd, Int32.reduceSub, Int32.reduceMul]
               first
               | refine ⟨vp_inb (by decide), ?_⟩
               | refine ⟨by with_reducible exact zi (by omega), ?_⟩
               | refine ⟨fun h => absurd h (by with_reducible exact nI_ge (by omega) (by omega)), fun _ => ?_⟩
               | refine ⟨fun _ => ?_, fun h => absurd (by with_reducible exact nI_le (by omega) (by omega)) h⟩
               | refine ⟨fun h => absurd h (by with_reducible exact nI_nlt (by omega) (by omega)), fun _ => ?_⟩
               | refine ⟨fun _ => ?_, fun h => absurd (by with_reducible exact nI_lt (by omega) (by omega)) h⟩
               | refine ⟨fun h => absurd h (by with_reducible exact nI_pos (by omega)), fun _ => ?_⟩
               | refine ⟨fun _ => ?_, fun h => absurd (by with_reducible exact nI_0le (by omega)) h⟩
               | refine ⟨fun h => absurd h (by decide), fun _ => ?_⟩
               | refine ⟨fun _ => ?_, fun h => absurd (by decide) h⟩
               | refine ⟨fun _ => ?_, fun h => absurd h (by decide)⟩
               | refine ⟨fun h => absurd (by decide) h, fun _ => ?_⟩
               | refine ⟨by decide, ?_⟩
               | refine ⟨rfl, ?_⟩)
            | (conv => whnf
               fail_if_success refine Exists.intro ?_ ?_
               simp only [nI_clamp (show k < 2 ^ 31 by omega), hc, h19, h20, h21, nI_clamp (show i < 2 ^ 31 by omega), nI_clamp (show j < 2 ^ 31 by omega), nI_clamp (show q < 2 ^ 31 by omega), hx]))
          try (conv => whnf)
          refine ⟨fun _ => ?_, fun w => absurd w h1⟩
          repeat (first
            | (conv => whnf
               try dsimp only
               try simp (decide := true) only [nI_clamp (show k < 2 ^ 31 by omega), hc, h19, h20, h21, nI_clamp (show i < 2 ^ 31 by omega), nI_clamp (show j < 2 ^ 31 by omega), nI_clamp (show q < 2 ^ 31 by omega), hx, hy, zu_same, zu_ne1, zu_ne2, zu_row, zuL_same, zuL_ne1, zuL_ne2, zrow_n1, zx0, zx1, zx2, zx3, nI_1, Nat.reduceAdd, Nat.reduceMul, Int32.reduceAdd, Int32.reduceSub, Int32.reduceMul]
               first
               | refine ⟨vp_inb (by decide), ?_⟩
               | refine ⟨by with_reducible exact zi (by omega), ?_⟩
               | refine ⟨fun h => absurd h (by with_reducible exact nI_ge (by omega) (by omega)), fun _ => ?_⟩
               | refine ⟨fun _ => ?_, fun h => absurd (by with_reducible exact nI_le (by omega) (by omega)) h⟩
               | refine ⟨fun h => absurd h (by with_reducible exact nI_nlt (by omega) (by omega)), fun _ => ?_⟩
               | refine ⟨fun _ => ?_, fun h => absurd (by with_reducible exact nI_lt (by omega) (by omega)) h⟩
               | refine ⟨fun h => absurd h (by with_reducible exact nI_pos (by omega)), fun _ => ?_⟩
               | refine ⟨fun _ => ?_, fun h => absurd (by with_reducible exact nI_0le (by omega)) h⟩
               | refine ⟨fun h => absurd h (by decide), fun _ => ?_⟩
               | refine ⟨fun _ => ?_, fun h => absurd (by decide) h⟩
               | refine ⟨fun _ => ?_, fun h => absurd h (by decide)⟩
               | refine ⟨fun h => absurd (by decide) h, fun _ => ?_⟩
               | refine ⟨by decide, ?_⟩
               | refine ⟨rfl, ?_⟩)
            | (conv => whnf
               fail_if_success refine Exists.intro ?_ ?_
               simp only [nI_clamp (show k < 2 ^ 31 by omega), hc, h19, h20, h21, nI_clamp (show i < 2 ^ 31 by omega), nI_clamp (show j < 2 ^ 31 by omega), nI_clamp (show q < 2 ^ 31 by omega), hx, hy]))
          try (conv => whnf)
          refine ⟨fun _ => ?_, fun w => absurd w h2⟩
          repeat (first
            | (conv => whnf
               try dsimp only
               try simp (decide := true) only [nI_clamp (show k < 2 ^ 31 by omega), hc, h19, h20, h21, nI_clamp (show i < 2 ^ 31 by omega), nI_clamp (show j < 2 ^ 31 by omega), nI_clamp (show q < 2 ^ 31 by omega), hx, hy, zu_same, zu_ne1, zu_ne2, zu_row, zuL_same, zuL_ne1, zuL_ne2, zrow_n1, zx0, zx1, zx2, zx3, nI_1, Nat.reduceAdd, Nat.reduceMul, Int32.reduceAdd, Int32.reduceSub, Int32.reduceMul]
               first
               | refine ⟨vp_inb (by decide), ?_⟩
               | refine ⟨by with_reducible exact zi (by omega), ?_⟩
               | refine ⟨fun h => absurd h (by with_reducible exact nI_ge (by omega) (by omega)), fun _ => ?_⟩
               | refine ⟨fun _ => ?_, fun h => absurd (by with_reducible exact nI_le (by omega) (by omega)) h⟩
               | refine ⟨fun h => absurd h (by with_reducible exact nI_nlt (by omega) (by omega)), fun _ => ?_⟩
               | refine ⟨fun _ => ?_, fun h => absurd (by with_reducible exact nI_lt (by omega) (by omega)) h⟩
               | refine ⟨fun h => absurd h (by with_reducible exact nI_pos (by omega)), fun _ => ?_⟩
               | refine ⟨fun _ => ?_, fun h => absurd (by with_reducible exact nI_0le (by omega)) h⟩
               | refine ⟨fun h => absurd h (by decide), fun _ => ?_⟩
               | refine ⟨fun _ => ?_, fun h => absurd (by decide) h⟩
               | refine ⟨fun _ => ?_, fun h => absurd h (by decide)⟩
               | refine ⟨fun h => absurd (by decide) h, fun _ => ?_⟩
               | refine ⟨by decide, ?_⟩
               | refine ⟨rfl, ?_⟩)
            | (conv => whnf
               fail_if_success refine Exists.intro ?_ ?_
               simp only [nI_clamp (show k < 2 ^ 31 by omega), hc, h19, h20, h21, nI_clamp (show i < 2 ^ 31 by omega), nI_clamp (show j < 2 ^ 31 by omega), nI_clamp (show q < 2 ^ 31 by omega), hx, hy]))
          try (conv => whnf)
          refine ⟨fun w => absurd w (by decide), zsw_one _ _ 2 210 rfl rfl ?_⟩
          repeat (first
            | (conv => whnf
               try dsimp only
               try simp (decide := true) only [nI_clamp (show k < 2 ^ 31 by omega), hc, h19, h20, h21, nI_clamp (show i < 2 ^ 31 by omega), nI_clamp (show j < 2 ^ 31 by omega), nI_clamp (show q < 2 ^ 31 by omega), zu_same, zu_ne1, zu_ne2, zu_row, zuL_same, zuL_ne1, zuL_ne2, zrow_n1, zx0, zx1, zx2, zx3, nI_1, Nat.reduceAdd, Nat.reduceMul, Int32.reduceAdd, Int32.reduceSub, Int32.reduceMul]
               first
               | refine ⟨vp_inb (by decide), ?_⟩
               | refine ⟨by with_reducible exact zi (by omega), ?_⟩
               | refine ⟨fun h => absurd h (by with_reducible exact nI_ge (by omega) (by omega)), fun _ => ?_⟩
               | refine ⟨fun _ => ?_, fun h => absurd (by with_reducible exact nI_le (by omega) (by omega)) h⟩
               | refine ⟨fun h => absurd h (by with_reducible exact nI_nlt (by omega) (by omega)), fun _ => ?_⟩
               | refine ⟨fun _ => ?_, fun h => absurd (by with_reducible exact nI_lt (by omega) (by omega)) h⟩
               | refine ⟨fun h => absurd h (by with_reducible exact nI_pos (by omega)), fun _ => ?_⟩
               | refine ⟨fun _ => ?_, fun h => absurd (by with_reducible exact nI_0le (by omega)) h⟩
               | refine ⟨fun h => absurd h (by decide), fun _ => ?_⟩
               | refine ⟨fun _ => ?_, fun h => absurd (by decide) h⟩
               | refine ⟨fun _ => ?_, fun h => absurd h (by decide)⟩
               | refine ⟨fun h => absurd (by decide) h, fun _ => ?_⟩
               | refine ⟨by decide, ?_⟩
               | refine ⟨rfl, ?_⟩)
            | (conv => whnf
               fail_if_success refine Exists.intro ?_ ?_
               simp only [nI_clamp (show k < 2 ^ 31 by omega), hc, h19, h20, h21, nI_clamp (show i < 2 ^ 31 by omega), nI_clamp (show j < 2 ^ 31 by omega), nI_clamp (show q < 2 ^ 31 by omega)]))
          try (conv => whnf)
          refine ⟨(_, _), rfl, rfl, trivial, ?_⟩
          try dsimp only
          repeat (conv => whnf
                  try dsimp only
                  try simp (decide := true) only [zu_same, zu_ne1, zu_ne2, zu_row, zuL_same, zuL_ne1, zuL_ne2, zrow_n1, zx0, zx1, zx2, zx3, nI_1, Nat.reduceAdd, Nat.reduceMul, Int32.reduceAdd, Int32.reduceSub, Int32.reduceMul]
                  first
                  | refine ⟨vp_inb (by decide), ?_⟩
                  | refine ⟨by with_reducible exact zi (by omega), ?_⟩
                  | refine ⟨fun h => absurd h (by with_reducible exact nI_ge (by omega) (by omega)), fun _ => ?_⟩
                  | refine ⟨fun _ => ?_, fun h => absurd (by with_reducible exact nI_le (by omega) (by omega)) h⟩
                  | refine ⟨fun h => absurd h (by with_reducible exact nI_nlt (by omega) (by omega)), fun _ => ?_⟩
                  | refine ⟨fun _ => ?_, fun h => absurd (by with_reducible exact nI_lt (by omega) (by omega)) h⟩
                  | refine ⟨fun h => absurd h (by with_reducible exact nI_pos (by omega)), fun _ => ?_⟩
                  | refine ⟨fun _ => ?_, fun h => absurd (by with_reducible exact nI_0le (by omega)) h⟩
                  | refine ⟨fun h => absurd h (by decide), fun _ => ?_⟩
                  | refine ⟨fun _ => ?_, fun h => absurd (by decide) h⟩
                  | refine ⟨fun _ => ?_, fun h => absurd h (by decide)⟩
                  | refine ⟨fun h => absurd (by decide) h, fun _ => ?_⟩
                  | refine ⟨by decide, ?_⟩
                  | refine ⟨rfl, ?_⟩)
          try (conv => whnf)
          exact hK
        · skip
          simp (decide := true) only [if_false, if_true, ite_true, ite_false] at hK
          by_cases h2 : y = zBRK
          · rw [if_pos h2] at hK
            refine hG 200 _ _ _ _ _ ?_
            repeat (first
              | (conv => whnf
                 try dsimp only
                 try simp (decide := true) only [nI_clamp (show k < 2 ^ 31 by omega), hc, h19, h20, h21, nI_clamp (show i < 2 ^ 31 by omega), nI_clamp (show j < 2 ^ 31 by omega), nI_clamp (show q < 2 ^ 31 by omega), hx, zu_same, zu_ne1, zu_ne2, zu_row, zuL_same, zuL_ne1, zuL_ne2, zrow_n1, zx0, zx1, zx2, zx3, nI_1, Nat.reduceAdd, Nat.reduceMul, Int32.reduceAdd, Int32.reduceSub, Int32.reduceMul]
                 first
                 | refine ⟨vp_inb (by decide), ?_⟩
                 | refine ⟨by with_reducible exact zi (by omega), ?_⟩
                 | refine ⟨fun h => absurd h (by with_reducible exact nI_ge (by omega) (by omega)), fun _ => ?_⟩
                 | refine ⟨fun _ => ?_, fun h => absurd (by with_reducible exact nI_le (by omega) (by omega)) h⟩
                 | refine ⟨fun h => absurd h (by with_reducible exact nI_nlt (by omega) (by omega)), fun _ => ?_⟩
                 | refine ⟨fun _ => ?_, fun h => absurd (by with_reducible exact nI_lt (by omega) (by omega)) h⟩
                 | refine ⟨fun h => absurd h (by with_reducible exact nI_pos (by omega)), fun _ => ?_⟩
                 | refine ⟨fun _ => ?_, fun h => absurd (by with_reducible exact nI_0le (by omega)) h⟩
                 | refine ⟨fun h => absurd h (by decide), fun _ => ?_⟩
                 | refine ⟨fun _ => ?_, fun h => absurd (by decide) h⟩
                 | refine ⟨fun _ => ?_, fun h => absurd h (by decide)⟩
                 | refine ⟨fun h => absurd (by decide) h, fun _ => ?_⟩
                 | refine ⟨by decide, ?_⟩
                 | refine ⟨rfl, ?_⟩)
              | (conv => whnf
                 fail_if_success refine Exists.intro ?_ ?_
                 simp only [nI_clamp (show k < 2 ^ 31 by omega), hc, h19, h20, h21, nI_clamp (show i < 2 ^ 31 by omega), nI_clamp (show j < 2 ^ 31 by omega), nI_clamp (show q < 2 ^ 31 by omega), hx]))
            try (conv => whnf)
            refine ⟨fun _ => ?_, fun w => absurd w h1⟩
            repeat (first
              | (conv => whnf
                 try dsimp only
                 try simp (decide := true) only [nI_clamp (show k < 2 ^ 31 by omega), hc, h19, h20, h21, nI_clamp (show i < 2 ^ 31 by omega), nI_clamp (show j < 2 ^ 31 by omega), nI_clamp (show q < 2 ^ 31 by omega), hx, hy, zu_same, zu_ne1, zu_ne2, zu_row, zuL_same, zuL_ne1, zuL_ne2, zrow_n1, zx0, zx1, zx2, zx3, nI_1, Nat.reduceAdd, Nat.reduceMul, Int32.reduceAdd, Int32.reduceSub, Int32.reduceMul]
                 first
                 | refine ⟨vp_inb (by decide), ?_⟩
                 | refine ⟨by with_reducible exact zi (by omega), ?_⟩
                 | refine ⟨fun h => absurd h (by with_reducible exact nI_ge (by omega) (by omega)), fun _ => ?_⟩
                 | refine ⟨fun _ => ?_, fun h => absurd (by with_reducible exact nI_le (by omega) (by omega)) h⟩
                 | refine ⟨fun h => absurd h (by with_reducible exact nI_nlt (by omega) (by omega)), fun _ => ?_⟩
                 | refine ⟨fun _ => ?_, fun h => absurd (by with_reducible exact nI_lt (by omega) (by omega)) h⟩
                 | refine ⟨fun h => absurd h (by with_reducible exact nI_pos (by omega)), fun _ => ?_⟩
                 | refine ⟨fun _ => ?_, fun h => absurd (by with_reducible exact nI_0le (by omega)) h⟩
                 | refine ⟨fun h => absurd h (by decide), fun _ => ?_⟩
                 | refine ⟨fun _ => ?_, fun h => absurd (by decide) h⟩
                 | refine ⟨fun _ => ?_, fun h => absurd h (by decide)⟩
                 | refine ⟨fun h => absurd (by decide) h, fun _ => ?_⟩
                 | refine ⟨by decide, ?_⟩
                 | refine ⟨rfl, ?_⟩)
              | (conv => whnf
                 fail_if_success refine Exists.intro ?_ ?_
                 simp only [nI_clamp (show k < 2 ^ 31 by omega), hc, h19, h20, h21, nI_clamp (show i < 2 ^ 31 by omega), nI_clamp (show j < 2 ^ 31 by omega), nI_clamp (show q < 2 ^ 31 by omega), hx, hy]))
            try (conv => whnf)
            refine ⟨fun w => absurd h2 w, fun _ => ?_⟩
            repeat (first
              | (conv => whnf
                 try dsimp only
                 try simp (decide := true) only [nI_clamp (show k < 2 ^ 31 by omega), hc, h19, h20, h21, nI_clamp (show i < 2 ^ 31 by omega), nI_clamp (show j < 2 ^ 31 by omega), nI_clamp (show q < 2 ^ 31 by omega), hx, hy, zu_same, zu_ne1, zu_ne2, zu_row, zuL_same, zuL_ne1, zuL_ne2, zrow_n1, zx0, zx1, zx2, zx3, nI_1, Nat.reduceAdd, Nat.reduceMul, Int32.reduceAdd, Int32.reduceSub, Int32.reduceMul]
                 first
                 | refine ⟨vp_inb (by decide), ?_⟩
                 | refine ⟨by with_reducible exact zi (by omega), ?_⟩
                 | refine ⟨fun h => absurd h (by with_reducible exact nI_ge (by omega) (by omega)), fun _ => ?_⟩
                 | refine ⟨fun _ => ?_, fun h => absurd (by with_reducible exact nI_le (by omega) (by omega)) h⟩
                 | refine ⟨fun h => absurd h (by with_reducible exact nI_nlt (by omega) (by omega)), fun _ => ?_⟩
                 | refine ⟨fun _ => ?_, fun h => absurd (by with_reducible exact nI_lt (by omega) (by omega)) h⟩
                 | refine ⟨fun h => absurd h (by with_reducible exact nI_pos (by omega)), fun _ => ?_⟩
                 | refine ⟨fun _ => ?_, fun h => absurd (by with_reducible exact nI_0le (by omega)) h⟩
                 | refine ⟨fun h => absurd h (by decide), fun _ => ?_⟩
                 | refine ⟨fun _ => ?_, fun h => absurd (by decide) h⟩
                 | refine ⟨fun _ => ?_, fun h => absurd h (by decide)⟩
                 | refine ⟨fun h => absurd (by decide) h, fun _ => ?_⟩
                 | refine ⟨by decide, ?_⟩
                 | refine ⟨rfl, ?_⟩)
              | (conv => whnf
                 fail_if_success refine Exists.intro ?_ ?_
                 simp only [nI_clamp (show k < 2 ^ 31 by omega), hc, h19, h20, h21, nI_clamp (show i < 2 ^ 31 by omega), nI_clamp (show j < 2 ^ 31 by omega), nI_clamp (show q < 2 ^ 31 by omega), hx, hy]))
            try (conv => whnf)
            exact hK
          rw [if_neg h2] at hK
          refine hG 200 _ _ _ _ _ ?_
          repeat (first
            | (conv => whnf
               try dsimp only
               try simp (decide := true) only [nI_clamp (show k < 2 ^ 31 by omega), hc, h19, h20, h21, nI_clamp (show i < 2 ^ 31 by omega), nI_clamp (show j < 2 ^ 31 by omega), nI_clamp (show q < 2 ^ 31 by omega), hx, zu_same, zu_ne1, zu_ne2, zu_row, zuL_same, zuL_ne1, zuL_ne2, zrow_n1, zx0, zx1, zx2, zx3, nI_1, Nat.reduceAdd, Nat.reduceMul, Int32.reduceAdd, Int32.reduceSub, Int32.reduceMul]
               first
               | refine ⟨vp_inb (by decide), ?_⟩
               | refine ⟨by with_reducible exact zi (by omega), ?_⟩
               | refine ⟨fun h => absurd h (by with_reducible exact nI_ge (by omega) (by omega)), fun _ => ?_⟩
               | refine ⟨fun _ => ?_, fun h => absurd (by with_reducible exact nI_le (by omega) (by omega)) h⟩
               | refine ⟨fun h => absurd h (by with_reducible exact nI_nlt (by omega) (by omega)), fun _ => ?_⟩
               | refine ⟨fun _ => ?_, fun h => absurd (by with_reducible exact nI_lt (by omega) (by omega)) h⟩
               | refine ⟨fun h => absurd h (by with_reducible exact nI_pos (by omega)), fun _ => ?_⟩
               | refine ⟨fun _ => ?_, fun h => absurd (by with_reducible exact nI_0le (by omega)) h⟩
               | refine ⟨fun h => absurd h (by decide), fun _ => ?_⟩
               | refine ⟨fun _ => ?_, fun h => absurd (by decide) h⟩
               | refine ⟨fun _ => ?_, fun h => absurd h (by decide)⟩
               | refine ⟨fun h => absurd (by decide) h, fun _ => ?_⟩
               | refine ⟨by decide, ?_⟩
               | refine ⟨rfl, ?_⟩)
            | (conv => whnf
               fail_if_success refine Exists.intro ?_ ?_
               simp only [nI_clamp (show k < 2 ^ 31 by omega), hc, h19, h20, h21, nI_clamp (show i < 2 ^ 31 by omega), nI_clamp (show j < 2 ^ 31 by omega), nI_clamp (show q < 2 ^ 31 by omega), hx]))
          try (conv => whnf)
          refine ⟨fun _ => ?_, fun w => absurd w h1⟩
          repeat (first
            | (conv => whnf
               try dsimp only
               try simp (decide := true) only [nI_clamp (show k < 2 ^ 31 by omega), hc, h19, h20, h21, nI_clamp (show i < 2 ^ 31 by omega), nI_clamp (show j < 2 ^ 31 by omega), nI_clamp (show q < 2 ^ 31 by omega), hx, hy, zu_same, zu_ne1, zu_ne2, zu_row, zuL_same, zuL_ne1, zuL_ne2, zrow_n1, zx0, zx1, zx2, zx3, nI_1, Nat.reduceAdd, Nat.reduceMul, Int32.reduceAdd, Int32.reduceSub, Int32.reduceMul]
               first
               | refine ⟨vp_inb (by decide), ?_⟩
               | refine ⟨by with_reducible exact zi (by omega), ?_⟩
               | refine ⟨fun h => absurd h (by with_reducible exact nI_ge (by omega) (by omega)), fun _ => ?_⟩
               | refine ⟨fun _ => ?_, fun h => absurd (by with_reducible exact nI_le (by omega) (by omega)) h⟩
               | refine ⟨fun h => absurd h (by with_reducible exact nI_nlt (by omega) (by omega)), fun _ => ?_⟩
               | refine ⟨fun _ => ?_, fun h => absurd (by with_reducible exact nI_lt (by omega) (by omega)) h⟩
               | refine ⟨fun h => absurd h (by with_reducible exact nI_pos (by omega)), fun _ => ?_⟩
               | refine ⟨fun _ => ?_, fun h => absurd (by with_reducible exact nI_0le (by omega)) h⟩
               | refine ⟨fun h => absurd h (by decide), fun _ => ?_⟩
               | refine ⟨fun _ => ?_, fun h => absurd (by decide) h⟩
               | refine ⟨fun _ => ?_, fun h => absurd h (by decide)⟩
               | refine ⟨fun h => absurd (by decide) h, fun _ => ?_⟩
               | refine ⟨by decide, ?_⟩
               | refine ⟨rfl, ?_⟩)
            | (conv => whnf
               fail_if_success refine Exists.intro ?_ ?_
               simp only [nI_clamp (show k < 2 ^ 31 by omega), hc, h19, h20, h21, nI_clamp (show i < 2 ^ 31 by omega), nI_clamp (show j < 2 ^ 31 by omega), nI_clamp (show q < 2 ^ 31 by omega), hx, hy]))
          try (conv => whnf)
          refine ⟨fun _ => ?_, fun w => absurd w h2⟩
          repeat (first
            | (conv => whnf
               try dsimp only
               try simp (decide := true) only [nI_clamp (show k < 2 ^ 31 by omega), hc, h19, h20, h21, nI_clamp (show i < 2 ^ 31 by omega), nI_clamp (show j < 2 ^ 31 by omega), nI_clamp (show q < 2 ^ 31 by omega), hx, hy, zu_same, zu_ne1, zu_ne2, zu_row, zuL_same, zuL_ne1, zuL_ne2, zrow_n1, zx0, zx1, zx2, zx3, nI_1, Nat.reduceAdd, Nat.reduceMul, Int32.reduceAdd, Int32.reduceSub, Int32.reduceMul]
               first
               | refine ⟨vp_inb (by decide), ?_⟩
               | refine ⟨by with_reducible exact zi (by omega), ?_⟩
               | refine ⟨fun h => absurd h (by with_reducible exact nI_ge (by omega) (by omega)), fun _ => ?_⟩
               | refine ⟨fun _ => ?_, fun h => absurd (by with_reducible exact nI_le (by omega) (by omega)) h⟩
               | refine ⟨fun h => absurd h (by with_reducible exact nI_nlt (by omega) (by omega)), fun _ => ?_⟩
               | refine ⟨fun _ => ?_, fun h => absurd (by with_reducible exact nI_lt (by omega) (by omega)) h⟩
               | refine ⟨fun h => absurd h (by with_reducible exact nI_pos (by omega)), fun _ => ?_⟩
               | refine ⟨fun _ => ?_, fun h => absurd (by with_reducible exact nI_0le (by omega)) h⟩
               | refine ⟨fun h => absurd h (by decide), fun _ => ?_⟩
               | refine ⟨fun _ => ?_, fun h => absurd (by decide) h⟩
               | refine ⟨fun _ => ?_, fun h => absurd h (by decide)⟩
               | refine ⟨fun h => absurd (by decide) h, fun _ => ?_⟩
               | refine ⟨by decide, ?_⟩
               | refine ⟨rfl, ?_⟩)
            | (conv => whnf
               fail_if_success refine Exists.intro ?_ ?_
               simp only [nI_clamp (show k < 2 ^ 31 by omega), hc, h19, h20, h21, nI_clamp (show i < 2 ^ 31 by omega), nI_clamp (show j < 2 ^ 31 by omega), nI_clamp (show q < 2 ^ 31 by omega), hx, hy]))
          try (conv => whnf)
          refine ⟨fun w => absurd w (by decide), zsw_one _ _ 3 225 rfl rfl ?_⟩
          repeat (first
            | (conv => whnf
               try dsimp only
               try simp (decide := true) only [nI_clamp (show k < 2 ^ 31 by omega), hc, h19, h20, h21, nI_clamp (show i < 2 ^ 31 by omega), nI_clamp (show j < 2 ^ 31 by omega), nI_clamp (show q < 2 ^ 31 by omega), zu_same, zu_ne1, zu_ne2, zu_row, zuL_same, zuL_ne1, zuL_ne2, zrow_n1, zx0, zx1, zx2, zx3, nI_1, Nat.reduceAdd, Nat.reduceMul, Int32.reduceAdd, Int32.reduceSub, Int32.reduceMul]
               first
               | refine ⟨vp_inb (by decide), ?_⟩
               | refine ⟨by with_reducible exact zi (by omega), ?_⟩
               | refine ⟨fun h => absurd h (by with_reducible exact nI_ge (by omega) (by omega)), fun _ => ?_⟩
               | refine ⟨fun _ => ?_, fun h => absurd (by with_reducible exact nI_le (by omega) (by omega)) h⟩
               | refine ⟨fun h => absurd h (by with_reducible exact nI_nlt (by omega) (by omega)), fun _ => ?_⟩
               | refine ⟨fun _ => ?_, fun h => absurd (by with_reducible exact nI_lt (by omega) (by omega)) h⟩
               | refine ⟨fun h => absurd h (by with_reducible exact nI_pos (by omega)), fun _ => ?_⟩
               | refine ⟨fun _ => ?_, fun h => absurd (by with_reducible exact nI_0le (by omega)) h⟩
               | refine ⟨fun h => absurd h (by decide), fun _ => ?_⟩
               | refine ⟨fun _ => ?_, fun h => absurd (by decide) h⟩
               | refine ⟨fun _ => ?_, fun h => absurd h (by decide)⟩
               | refine ⟨fun h => absurd (by decide) h, fun _ => ?_⟩
               | refine ⟨by decide, ?_⟩
               | refine ⟨rfl, ?_⟩)
            | (conv => whnf
               fail_if_success refine Exists.intro ?_ ?_
               simp only [nI_clamp (show k < 2 ^ 31 by omega), hc, h19, h20, h21, nI_clamp (show i < 2 ^ 31 by omega), nI_clamp (show j < 2 ^ 31 by omega), nI_clamp (show q < 2 ^ 31 by omega)]))
          try (conv => whnf)
          refine ⟨fun w => ?_, fun w => ?_⟩
          · rw [if_neg w] at hK
            repeat (conv => whnf
                    try dsimp only
                    try simp (decide := true) only [zu_same, zu_ne1, zu_ne2, zu_row, zuL_same, zuL_ne1, zuL_ne2, zrow_n1, zx0, zx1, zx2, zx3, nI_1, Nat.reduceAdd, Nat.reduceMul, Int32.reduceAdd, Int32.reduceSub, Int32.reduceMul]
                    first
                    | refine ⟨vp_inb (by decide), ?_⟩
                    | refine ⟨by with_reducible exact zi (by omega), ?_⟩
                    | refine ⟨fun h => absurd h (by with_reducible exact nI_ge (by omega) (by omega)), fun _ => ?_⟩
                    | refine ⟨fun _ => ?_, fun h => absurd (by with_reducible exact nI_le (by omega) (by omega)) h⟩
                    | refine ⟨fun h => absurd h (by with_reducible exact nI_nlt (by omega) (by omega)), fun _ => ?_⟩
                    | refine ⟨fun _ => ?_, fun h => absurd (by with_reducible exact nI_lt (by omega) (by omega)) h⟩
                    | refine ⟨fun h => absurd h (by with_reducible exact nI_pos (by omega)), fun _ => ?_⟩
                    | refine ⟨fun _ => ?_, fun h => absurd (by with_reducible exact nI_0le (by omega)) h⟩
                    | refine ⟨fun h => absurd h (by decide), fun _ => ?_⟩
                    | refine ⟨fun _ => ?_, fun h => absurd (by decide) h⟩
                    | refine ⟨fun _ => ?_, fun h => absurd h (by decide)⟩
                    | refine ⟨fun h => absurd (by decide) h, fun _ => ?_⟩
                    | refine ⟨by decide, ?_⟩
                    | refine ⟨rfl, ?_⟩)
            try (conv => whnf)
            refine ⟨zl_ne0 w, ?_⟩
            repeat (conv => whnf
                    try dsimp only
                    try simp (decide := true) only [zu_same, zu_ne1, zu_ne2, zu_row, zuL_same, zuL_ne1, zuL_ne2, zrow_n1, zx0, zx1, zx2, zx3, nI_1, Nat.reduceAdd, Nat.reduceMul, Int32.reduceAdd, Int32.reduceSub, Int32.reduceMul]
                    first
                    | refine ⟨vp_inb (by decide), ?_⟩
                    | refine ⟨by with_reducible exact zi (by omega), ?_⟩
                    | refine ⟨fun h => absurd h (by with_reducible exact nI_ge (by omega) (by omega)), fun _ => ?_⟩
                    | refine ⟨fun _ => ?_, fun h => absurd (by with_reducible exact nI_le (by omega) (by omega)) h⟩
                    | refine ⟨fun h => absurd h (by with_reducible exact nI_nlt (by omega) (by omega)), fun _ => ?_⟩
                    | refine ⟨fun _ => ?_, fun h => absurd (by with_reducible exact nI_lt (by omega) (by omega)) h⟩
                    | refine ⟨fun h => absurd h (by with_reducible exact nI_pos (by omega)), fun _ => ?_⟩
                    | refine ⟨fun _ => ?_, fun h => absurd (by with_reducible exact nI_0le (by omega)) h⟩
                    | refine ⟨fun h => absurd h (by decide), fun _ => ?_⟩
                    | refine ⟨fun _ => ?_, fun h => absurd (by decide) h⟩
                    | refine ⟨fun _ => ?_, fun h => absurd h (by decide)⟩
                    | refine ⟨fun h => absurd (by decide) h, fun _ => ?_⟩
                    | refine ⟨by decide, ?_⟩
                    | refine ⟨rfl, ?_⟩)
            try (conv => whnf)
            refine ⟨(_, _), rfl, rfl, trivial, ?_⟩
            try dsimp only
            repeat (conv => whnf
                    try dsimp only
                    try simp (decide := true) only [zu_same, zu_ne1, zu_ne2, zu_row, zuL_same, zuL_ne1, zuL_ne2, zrow_n1, zx0, zx1, zx2, zx3, nI_1, Nat.reduceAdd, Nat.reduceMul, Int32.reduceAdd, Int32.reduceSub, Int32.reduceMul]
                    first
                    | refine ⟨vp_inb (by decide), ?_⟩
                    | refine ⟨by with_reducible exact zi (by omega), ?_⟩
                    | refine ⟨fun h => absurd h (by with_reducible exact nI_ge (by omega) (by omega)), fun _ => ?_⟩
                    | refine ⟨fun _ => ?_, fun h => absurd (by with_reducible exact nI_le (by omega) (by omega)) h⟩
                    | refine ⟨fun h => absurd h (by with_reducible exact nI_nlt (by omega) (by omega)), fun _ => ?_⟩
                    | refine ⟨fun _ => ?_, fun h => absurd (by with_reducible exact nI_lt (by omega) (by omega)) h⟩
                    | refine ⟨fun h => absurd h (by with_reducible exact nI_pos (by omega)), fun _ => ?_⟩
                    | refine ⟨fun _ => ?_, fun h => absurd (by with_reducible exact nI_0le (by omega)) h⟩
                    | refine ⟨fun h => absurd h (by decide), fun _ => ?_⟩
                    | refine ⟨fun _ => ?_, fun h => absurd (by decide) h⟩
                    | refine ⟨fun _ => ?_, fun h => absurd h (by decide)⟩
                    | refine ⟨fun h => absurd (by decide) h, fun _ => ?_⟩
                    | refine ⟨by decide, ?_⟩
                    | refine ⟨rfl, ?_⟩)
            try (conv => whnf)
            exact hK
          · rw [if_pos w] at hK
            repeat (conv => whnf
                    try dsimp only
                    try simp (decide := true) only [zu_same, zu_ne1, zu_ne2, zu_row, zuL_same, zuL_ne1, zuL_ne2, zrow_n1, zx0, zx1, zx2, zx3, nI_1, Nat.reduceAdd, Nat.reduceMul, Int32.reduceAdd, Int32.reduceSub, Int32.reduceMul]
                    first
                    | refine ⟨vp_inb (by decide), ?_⟩
                    | refine ⟨by with_reducible exact zi (by omega), ?_⟩
                    | refine ⟨fun h => absurd h (by with_reducible exact nI_ge (by omega) (by omega)), fun _ => ?_⟩
                    | refine ⟨fun _ => ?_, fun h => absurd (by with_reducible exact nI_le (by omega) (by omega)) h⟩
                    | refine ⟨fun h => absurd h (by with_reducible exact nI_nlt (by omega) (by omega)), fun _ => ?_⟩
                    | refine ⟨fun _ => ?_, fun h => absurd (by with_reducible exact nI_lt (by omega) (by omega)) h⟩
                    | refine ⟨fun h => absurd h (by with_reducible exact nI_pos (by omega)), fun _ => ?_⟩
                    | refine ⟨fun _ => ?_, fun h => absurd (by with_reducible exact nI_0le (by omega)) h⟩
                    | refine ⟨fun h => absurd h (by decide), fun _ => ?_⟩
                    | refine ⟨fun _ => ?_, fun h => absurd (by decide) h⟩
                    | refine ⟨fun _ => ?_, fun h => absurd h (by decide)⟩
                    | refine ⟨fun h => absurd (by decide) h, fun _ => ?_⟩
                    | refine ⟨by decide, ?_⟩
                    | refine ⟨rfl, ?_⟩)
            try (conv => whnf)
            exact hK
        · skip
          simp (decide := true) only [if_false, if_true, ite_true, ite_false] at hK
          by_cases h2 : y = zBRK
          · rw [if_pos h2] at hK
            refine hG 200 _ _ _ _ _ ?_
            repeat (first
              | (conv => whnf
                 try dsimp only
                 try simp (decide := true) only [nI_clamp (show k < 2 ^ 31 by omega), hc, h19, h20, h21, nI_clamp (show i < 2 ^ 31 by omega), nI_clamp (show j < 2 ^ 31 by omega), nI_clamp (show q < 2 ^ 31 by omega), hx, zu_same, zu_ne1, zu_ne2, zu_row, zuL_same, zuL_ne1, zuL_ne2, zrow_n1, zx0, zx1, zx2, zx3, nI_1, Nat.reduceAdd, Nat.reduceMul, Int32.reduceAdd, Int32.reduceSub, Int32.reduceMul]
                 first
                 | refine ⟨vp_inb (by decide), ?_⟩
                 | refine ⟨by with_reducible exact zi (by omega), ?_⟩
                 | refine ⟨fun h => absurd h (by with_reducible exact nI_ge (by omega) (by omega)), fun _ => ?_⟩
                 | refine ⟨fun _ => ?_, fun h => absurd (by with_reducible exact nI_le (by omega) (by omega)) h⟩
                 | refine ⟨fun h => absurd h (by with_reducible exact nI_nlt (by omega) (by omega)), fun _ => ?_⟩
                 | refine ⟨fun _ => ?_, fun h => absurd (by with_reducible exact nI_lt (by omega) (by omega)) h⟩
                 | refine ⟨fun h => absurd h (by with_reducible exact nI_pos (by omega)), fun _ => ?_⟩
                 | refine ⟨fun _ => ?_, fun h => absurd (by with_reducible exact nI_0le (by omega)) h⟩
                 | refine ⟨fun h => absurd h (by decide), fun _ => ?_⟩
                 | refine ⟨fun _ => ?_, fun h => absurd (by decide) h⟩
                 | refine ⟨fun _ => ?_, fun h => absurd h (by decide)⟩
                 | refine ⟨fun h => absurd (by decide) h, fun _ => ?_⟩
                 | refine ⟨by decide, ?_⟩
                 | refine ⟨rfl, ?_⟩)
              | (conv => whnf
                 fail_if_success refine Exists.intro ?_ ?_
                 simp only [nI_clamp (show k < 2 ^ 31 by omega), hc, h19, h20, h21, nI_clamp (show i < 2 ^ 31 by omega), nI_clamp (show j < 2 ^ 31 by omega), nI_clamp (show q < 2 ^ 31 by omega), hx]))
            try (conv => whnf)
            refine ⟨fun _ => ?_, fun w => absurd w h1⟩
            repeat (first
              | (conv => whnf
                 try dsimp only
                 try simp (decide := true) only [nI_clamp (show k < 2 ^ 31 by omega), hc, h19, h20, h21, nI_clamp (show i < 2 ^ 31 by omega), nI_clamp (show j < 2 ^ 31 by omega), nI_clamp (show q < 2 ^ 31 by omega), hx, hy, zu_same, zu_ne1, zu_ne2, zu_row, zuL_same, zuL_ne1, zuL_ne2, zrow_n1, zx0, zx1, zx2, zx3, nI_1, Nat.reduceAdd, Nat.reduceMul, Int32.reduceAdd, Int32.reduceSub, Int32.reduceMul]
                 first
                 | refine ⟨vp_inb (by decide), ?_⟩
                 | refine ⟨by with_reducible exact zi (by omega), ?_⟩
                 | refine ⟨fun h => absurd h (by with_reducible exact nI_ge (by omega) (by omega)), fun _ => ?_⟩
                 | refine ⟨fun _ => ?_, fun h => absurd (by with_reducible exact nI_le (by omega) (by omega)) h⟩
                 | refine ⟨fun h => absurd h (by with_reducible exact nI_nlt (by omega) (by omega)), fun _ => ?_⟩
                 | refine ⟨fun _ => ?_, fun h => absurd (by with_reducible exact nI_lt (by omega) (by omega)) h⟩
                 | refine ⟨fun h => absurd h (by with_reducible exact nI_pos (by omega)), fun _ => ?_⟩
                 | refine ⟨fun _ => ?_, fun h => absurd (by with_reducible exact nI_0le (by omega)) h⟩
                 | refine ⟨fun h => absurd h (by decide), fun _ => ?_⟩
                 | refine ⟨fun _ => ?_, fun h => absurd (by decide) h⟩
                 | refine ⟨fun _ => ?_, fun h => absurd h (by decide)⟩
                 | refine ⟨fun h => absurd (by decide) h, fun _ => ?_⟩
                 | refine ⟨by decide, ?_⟩
                 | refine ⟨rfl, ?_⟩)
              | (conv => whnf
                 fail_if_success refine Exists.intro ?_ ?_
                 simp only [nI_clamp (show k < 2 ^ 31 by omega), hc, h19, h20, h21, nI_clamp (show i < 2 ^ 31 by omega), nI_clamp (show j < 2 ^ 31 by omega), nI_clamp (show q < 2 ^ 31 by omega), hx, hy]))
            try (conv => whnf)
            refine ⟨fun w => absurd h2 w, fun _ => ?_⟩
            repeat (first
              | (conv => whnf
                 try dsimp only
                 try simp (decide := true) only [nI_clamp (show k < 2 ^ 31 by omega), hc, h19, h20, h21, nI_clamp (show i < 2 ^ 31 by omega), nI_clamp (show j < 2 ^ 31 by omega), nI_clamp (show q < 2 ^ 31 by omega), hx, hy, zu_same, zu_ne1, zu_ne2, zu_row, zuL_same, zuL_ne1, zuL_ne2, zrow_n1, zx0, zx1, zx2, zx3, nI_1, Nat.reduceAdd, Nat.reduceMul, Int32.reduceAdd, Int32.reduceSub, Int32.reduceMul]
                 first
                 | refine ⟨vp_inb (by decide), ?_⟩
                 | refine ⟨by with_reducible exact zi (by omega), ?_⟩
                 | refine ⟨fun h => absurd h (by with_reducible exact nI_ge (by omega) (by omega)), fun _ => ?_⟩
                 | refine ⟨fun _ => ?_, fun h => absurd (by with_reducible exact nI_le (by omega) (by omega)) h⟩
                 | refine ⟨fun h => absurd h (by with_reducible exact nI_nlt (by omega) (by omega)), fun _ => ?_⟩
                 | refine ⟨fun _ => ?_, fun h => absurd (by with_reducible exact nI_lt (by omega) (by omega)) h⟩
                 | refine ⟨fun h => absurd h (by with_reducible exact nI_pos (by omega)), fun _ => ?_⟩
                 | refine ⟨fun _ => ?_, fun h => absurd (by with_reducible exact nI_0le (by omega)) h⟩
                 | refine ⟨fun h => absurd h (by decide), fun _ => ?_⟩
                 | refine ⟨fun _ => ?_, fun h => absurd (by decide) h⟩
                 | refine ⟨fun _ => ?_, fun h => absurd h (by decide)⟩
                 | refine ⟨fun h => absurd (by decide) h, fun _ => ?_⟩
                 | refine ⟨by decide, ?_⟩
                 | refine ⟨rfl, ?_⟩)
              | (conv => whnf
                 fail_if_success refine Exists.intro ?_ ?_
                 simp only [nI_clamp (show k < 2 ^ 31 by omega), hc, h19, h20, h21, nI_clamp (show i < 2 ^ 31 by omega), nI_clamp (show j < 2 ^ 31 by omega), nI_clamp (show q < 2 ^ 31 by omega), hx, hy]))
            try (conv => whnf)
            exact hK
          rw [if_neg h2] at hK
          refine hG 200 _ _ _ _ _ ?_
          repeat (first
            | (conv => whnf
               try dsimp only
               try simp (decide := true) only [nI_clamp (show k < 2 ^ 31 by omega), hc, h19, h20, h21, nI_clamp (show i < 2 ^ 31 by omega), nI_clamp (show j < 2 ^ 31 by omega), nI_clamp (show q < 2 ^ 31 by omega), hx, zu_same, zu_ne1, zu_ne2, zu_row, zuL_same, zuL_ne1, zuL_ne2, zrow_n1, zx0, zx1, zx2, zx3, nI_1, Nat.reduceAdd, Nat.reduceMul, Int32.reduceAdd, Int32.reduceSub, Int32.reduceMul]
               first
               | refine ⟨vp_inb (by decide), ?_⟩
               | refine ⟨by with_reducible exact zi (by omega), ?_⟩
               | refine ⟨fun h => absurd h (by with_reducible exact nI_ge (by omega) (by omega)), fun _ => ?_⟩
               | refine ⟨fun _ => ?_, fun h => absurd (by with_reducible exact nI_le (by omega) (by omega)) h⟩
               | refine ⟨fun h => absurd h (by with_reducible exact nI_nlt (by omega) (by omega)), fun _ => ?_⟩
               | refine ⟨fun _ => ?_, fun h => absurd (by with_reducible exact nI_lt (by omega) (by omega)) h⟩
               | refine ⟨fun h => absurd h (by with_reducible exact nI_pos (by omega)), fun _ => ?_⟩
               | refine ⟨fun _ => ?_, fun h => absurd (by with_reducible exact nI_0le (by omega)) h⟩
               | refine ⟨fun h => absurd h (by decide), fun _ => ?_⟩
               | refine ⟨fun _ => ?_, fun h => absurd (by decide) h⟩
               | refine ⟨fun _ => ?_, fun h => absurd h (by decide)⟩
               | refine ⟨fun h => absurd (by decide) h, fun _ => ?_⟩
               | refine ⟨by decide, ?_⟩
               | refine ⟨rfl, ?_⟩)
            | (conv => whnf
               fail_if_success refine Exists.intro ?_ ?_
               simp only [nI_clamp (show k < 2 ^ 31 by omega), hc, h19, h20, h21, nI_clamp (show i < 2 ^ 31 by omega), nI_clamp (show j < 2 ^ 31 by omega), nI_clamp (show q < 2 ^ 31 by omega), hx]))
          try (conv => whnf)
          refine ⟨fun _ => ?_, fun w => absurd w h1⟩
          repeat (first
            | (conv => whnf
               try dsimp only
               try simp (decide := true) only [nI_clamp (show k < 2 ^ 31 by omega), hc, h19, h20, h21, nI_clamp (show i < 2 ^ 31 by omega), nI_clamp (show j < 2 ^ 31 by omega), nI_clamp (show q < 2 ^ 31 by omega), hx, hy, zu_same, zu_ne1, zu_ne2, zu_row, zuL_same, zuL_ne1, zuL_ne2, zrow_n1, zx0, zx1, zx2, zx3, nI_1, Nat.reduceAdd, Nat.reduceMul, Int32.reduceAdd, Int32.reduceSub, Int32.reduceMul]
               first
               | refine ⟨vp_inb (by decide), ?_⟩
               | refine ⟨by with_reducible exact zi (by omega), ?_⟩
               | refine ⟨fun h => absurd h (by with_reducible exact nI_ge (by omega) (by omega)), fun _ => ?_⟩
               | refine ⟨fun _ => ?_, fun h => absurd (by with_reducible exact nI_le (by omega) (by omega)) h⟩
               | refine ⟨fun h => absurd h (by with_reducible exact nI_nlt (by omega) (by omega)), fun _ => ?_⟩
               | refine ⟨fun _ => ?_, fun h => absurd (by with_reducible exact nI_lt (by omega) (by omega)) h⟩
               | refine ⟨fun h => absurd h (by with_reducible exact nI_pos (by omega)), fun _ => ?_⟩
               | refine ⟨fun _ => ?_, fun h => absurd (by with_reducible exact nI_0le (by omega)) h⟩
               | refine ⟨fun h => absurd h (by decide), fun _ => ?_⟩
               | refine ⟨fun _ => ?_, fun h => absurd (by decide) h⟩
               | refine ⟨fun _ => ?_, fun h => absurd h (by decide)⟩
               | refine ⟨fun h => absurd (by decide) h, fun _ => ?_⟩
               | refine ⟨by decide, ?_⟩
               | refine ⟨rfl, ?_⟩)
            | (conv => whnf
               fail_if_success refine Exists.intro ?_ ?_
               simp only [nI_clamp (show k < 2 ^ 31 by omega), hc, h19, h20, h21, nI_clamp (show i < 2 ^ 31 by omega), nI_clamp (show j < 2 ^ 31 by omega), nI_clamp (show q < 2 ^ 31 by omega), hx, hy]))
          try (conv => whnf)
          refine ⟨fun _ => ?_, fun w => absurd w h2⟩
          repeat (first
            | (conv => whnf
               try dsimp only
               try simp (decide := true) only [nI_clamp (show k < 2 ^ 31 by omega), hc, h19, h20, h21, nI_clamp (show i < 2 ^ 31 by omega), nI_clamp (show j < 2 ^ 31 by omega), nI_clamp (show q < 2 ^ 31 by omega), hx, hy, zu_same, zu_ne1, zu_ne2, zu_row, zuL_same, zuL_ne1, zuL_ne2, zrow_n1, zx0, zx1, zx2, zx3, nI_1, Nat.reduceAdd, Nat.reduceMul, Int32.reduceAdd, Int32.reduceSub, Int32.reduceMul]
               first
               | refine ⟨vp_inb (by decide), ?_⟩
               | refine ⟨by with_reducible exact zi (by omega), ?_⟩
               | refine ⟨fun h => absurd h (by with_reducible exact nI_ge (by omega) (by omega)), fun _ => ?_⟩
               | refine ⟨fun _ => ?_, fun h => absurd (by with_reducible exact nI_le (by omega) (by omega)) h⟩
               | refine ⟨fun h => absurd h (by with_reducible exact nI_nlt (by omega) (by omega)), fun _ => ?_⟩
               | refine ⟨fun _ => ?_, fun h => absurd (by with_reducible exact nI_lt (by omega) (by omega)) h⟩
               | refine ⟨fun h => absurd h (by with_reducible exact nI_pos (by omega)), fun _ => ?_⟩
               | refine ⟨fun _ => ?_, fun h => absurd (by with_reducible exact nI_0le (by omega)) h⟩
               | refine ⟨fun h => absurd h (by decide), fun _ => ?_⟩
               | refine ⟨fun _ => ?_, fun h => absurd (by decide) h⟩
               | refine ⟨fun _ => ?_, fun h => absurd h (by decide)⟩
               | refine ⟨fun h => absurd (by decide) h, fun _ => ?_⟩
               | refine ⟨by decide, ?_⟩
               | refine ⟨rfl, ?_⟩)
            | (conv => whnf
               fail_if_success refine Exists.intro ?_ ?_
               simp only [nI_clamp (show k < 2 ^ 31 by omega), hc, h19, h20, h21, nI_clamp (show i < 2 ^ 31 by omega), nI_clamp (show j < 2 ^ 31 by omega), nI_clamp (show q < 2 ^ 31 by omega), hx, hy]))
          try (conv => whnf)
          refine ⟨fun w => absurd w (by decide), zsw_one _ _ 4 250 rfl rfl ?_⟩
          repeat (conv => whnf
                  try dsimp only
                  try simp (decide := true) only [zu_same, zu_ne1, zu_ne2, zu_row, zuL_same, zuL_ne1, zuL_ne2, zrow_n1, zx0, zx1, zx2, zx3, nI_1, Nat.reduceAdd, Nat.reduceMul, Int32.reduceAdd, Int32.reduceSub, Int32.reduceMul]
                  first
                  | refine ⟨vp_inb (by decide), ?_⟩
                  | refine ⟨by with_reducible exact zi (by omega), ?_⟩
                  | refine ⟨fun h => absurd h (by with_reducible exact nI_ge (by omega) (by omega)), fun _ => ?_⟩
                  | refine ⟨fun _ => ?_, fun h => absurd (by with_reducible exact nI_le (by omega) (by omega)) h⟩
                  | refine ⟨fun h => absurd h (by with_reducible exact nI_nlt (by omega) (by omega)), fun _ => ?_⟩
                  | refine ⟨fun _ => ?_, fun h => absurd (by with_reducible exact nI_lt (by omega) (by omega)) h⟩
                  | refine ⟨fun h => absurd h (by with_reducible exact nI_pos (by omega)), fun _ => ?_⟩
                  | refine ⟨fun _ => ?_, fun h => absurd (by with_reducible exact nI_0le (by omega)) h⟩
                  | refine ⟨fun h => absurd h (by decide), fun _ => ?_⟩
                  | refine ⟨fun _ => ?_, fun h => absurd (by decide) h⟩
                  | refine ⟨fun _ => ?_, fun h => absurd h (by decide)⟩
                  | refine ⟨fun h => absurd (by decide) h, fun _ => ?_⟩
                  | refine ⟨by decide, ?_⟩
                  | refine ⟨rfl, ?_⟩)
          try (conv => whnf)
          refine ⟨_, _, rfl, ?_⟩
          repeat (conv => whnf
                  try dsimp only
                  try simp (decide := true) only [zu_same, zu_ne1, zu_ne2, zu_row, zuL_same, zuL_ne1, zuL_ne2, zrow_n1, zx0, zx1, zx2, zx3, nI_1, Nat.reduceAdd, Nat.reduceMul, Int32.reduceAdd, Int32.reduceSub, Int32.reduceMul]
                  first
                  | refine ⟨vp_inb (by decide), ?_⟩
                  | refine ⟨by with_reducible exact zi (by omega), ?_⟩
                  | refine ⟨fun h => absurd h (by with_reducible exact nI_ge (by omega) (by omega)), fun _ => ?_⟩
                  | refine ⟨fun _ => ?_, fun h => absurd (by with_reducible exact nI_le (by omega) (by omega)) h⟩
                  | refine ⟨fun h => absurd h (by with_reducible exact nI_nlt (by omega) (by omega)), fun _ => ?_⟩
                  | refine ⟨fun _ => ?_, fun h => absurd (by with_reducible exact nI_lt (by omega) (by omega)) h⟩
                  | refine ⟨fun h => absurd h (by with_reducible exact nI_pos (by omega)), fun _ => ?_⟩
                  | refine ⟨fun _ => ?_, fun h => absurd (by with_reducible exact nI_0le (by omega)) h⟩
                  | refine ⟨fun h => absurd h (by decide), fun _ => ?_⟩
                  | refine ⟨fun _ => ?_, fun h => absurd (by decide) h⟩
                  | refine ⟨fun _ => ?_, fun h => absurd h (by decide)⟩
                  | refine ⟨fun h => absurd (by decide) h, fun _ => ?_⟩
                  | refine ⟨by decide, ?_⟩
                  | refine ⟨rfl, ?_⟩)
          try (conv => whnf)
          exact hK
        · skip
          simp (decide := true) only [if_false, if_true, ite_true, ite_false] at hK
          by_cases h2 : y = zBRK
          · rw [if_pos h2] at hK
            refine hG 200 _ _ _ _ _ ?_
            repeat (first
              | (conv => whnf
                 try dsimp only
                 try simp (decide := true) only [nI_clamp (show k < 2 ^ 31 by omega), hc, h19, h20, h21, nI_clamp (show i < 2 ^ 31 by omega), nI_clamp (show j < 2 ^ 31 by omega), nI_clamp (show q < 2 ^ 31 by omega), hx, zu_same, zu_ne1, zu_ne2, zu_row, zuL_same, zuL_ne1, zuL_ne2, zrow_n1, zx0, zx1, zx2, zx3, nI_1, Nat.reduceAdd, Nat.reduceMul, Int32.reduceAdd, Int32.reduceSub, Int32.reduceMul]
                 first
                 | refine ⟨vp_inb (by decide), ?_⟩
                 | refine ⟨by with_reducible exact zi (by omega), ?_⟩
                 | refine ⟨fun h => absurd h (by with_reducible exact nI_ge (by omega) (by omega)), fun _ => ?_⟩
                 | refine ⟨fun _ => ?_, fun h => absurd (by with_reducible exact nI_le (by omega) (by omega)) h⟩
                 | refine ⟨fun h => absurd h (by with_reducible exact nI_nlt (by omega) (by omega)), fun _ => ?_⟩
                 | refine ⟨fun _ => ?_, fun h => absurd (by with_reducible exact nI_lt (by omega) (by omega)) h⟩
                 | refine ⟨fun h => absurd h (by with_reducible exact nI_pos (by omega)), fun _ => ?_⟩
                 | refine ⟨fun _ => ?_, fun h => absurd (by with_reducible exact nI_0le (by omega)) h⟩
                 | refine ⟨fun h => absurd h (by decide), fun _ => ?_⟩
                 | refine ⟨fun _ => ?_, fun h => absurd (by decide) h⟩
                 | refine ⟨fun _ => ?_, fun h => absurd h (by decide)⟩
                 | refine ⟨fun h => absurd (by decide) h, fun _ => ?_⟩
                 | refine ⟨by decide, ?_⟩
                 | refine ⟨rfl, ?_⟩)
              | (conv => whnf
                 fail_if_success refine Exists.intro ?_ ?_
                 simp only [nI_clamp (show k < 2 ^ 31 by omega), hc, h19, h20, h21, nI_clamp (show i < 2 ^ 31 by omega), nI_clamp (show j < 2 ^ 31 by omega), nI_clamp (show q < 2 ^ 31 by omega), hx]))
            try (conv => whnf)
            refine ⟨fun _ => ?_, fun w => absurd w h1⟩
            repeat (first
              | (conv => whnf
                 try dsimp only
                 try simp (decide := true) only [nI_clamp (show k < 2 ^ 31 by omega), hc, h19, h20, h21, nI_clamp (show i < 2 ^ 31 by omega), nI_clamp (show j < 2 ^ 31 by omega), nI_clamp (show q < 2 ^ 31 by omega), hx, hy, zu_same, zu_ne1, zu_ne2, zu_row, zuL_same, zuL_ne1, zuL_ne2, zrow_n1, zx0, zx1, zx2, zx3, nI_1, Nat.reduceAdd, Nat.reduceMul, Int32.reduceAdd, Int32.reduceSub, Int32.reduceMul]
                 first
                 | refine ⟨vp_inb (by decide), ?_⟩
                 | refine ⟨by with_reducible exact zi (by omega), ?_⟩
                 | refine ⟨fun h => absurd h (by with_reducible exact nI_ge (by omega) (by omega)), fun _ => ?_⟩
                 | refine ⟨fun _ => ?_, fun h => absurd (by with_reducible exact nI_le (by omega) (by omega)) h⟩
                 | refine ⟨fun h => absurd h (by with_reducible exact nI_nlt (by omega) (by omega)), fun _ => ?_⟩
                 | refine ⟨fun _ => ?_, fun h => absurd (by with_reducible exact nI_lt (by omega) (by omega)) h⟩
                 | refine ⟨fun h => absurd h (by with_reducible exact nI_pos (by omega)), fun _ => ?_⟩
                 | refine ⟨fun _ => ?_, fun h => absurd (by with_reducible exact nI_0le (by omega)) h⟩
                 | refine ⟨fun h => absurd h (by decide), fun _ => ?_⟩
                 | refine ⟨fun _ => ?_, fun h => absurd (by decide) h⟩
                 | refine ⟨fun _ => ?_, fun h => absurd h (by decide)⟩
                 | refine ⟨fun h => absurd (by decide) h, fun _ => ?_⟩
                 | refine ⟨by decide, ?_⟩
                 | refine ⟨rfl, ?_⟩)
              | (conv => whnf
                 fail_if_success refine Exists.intro ?_ ?_
                 simp only [nI_clamp (show k < 2 ^ 31 by omega), hc, h19, h20, h21, nI_clamp (show i < 2 ^ 31 by omega), nI_clamp (show j < 2 ^ 31 by omega), nI_clamp (show q < 2 ^ 31 by omega), hx, hy]))
            try (conv => whnf)
            refine ⟨fun w => absurd h2 w, fun _ => ?_⟩
            repeat (first
              | (conv => whnf
                 try dsimp only
                 try simp (decide := true) only [nI_clamp (show k < 2 ^ 31 by omega), hc, h19, h20, h21, nI_clamp (show i < 2 ^ 31 by omega), nI_clamp (show j < 2 ^ 31 by omega), nI_clamp (show q < 2 ^ 31 by omega), hx, hy, zu_same, zu_ne1, zu_ne2, zu_row, zuL_same, zuL_ne1, zuL_ne2, zrow_n1, zx0, zx1, zx2, zx3, nI_1, Nat.reduceAdd, Nat.reduceMul, Int32.reduceAdd, Int32.reduceSub, Int32.reduceMul]
                 first
                 | refine ⟨vp_inb (by decide), ?_⟩
                 | refine ⟨by with_reducible exact zi (by omega), ?_⟩
                 | refine ⟨fun h => absurd h (by with_reducible exact nI_ge (by omega) (by omega)), fun _ => ?_⟩
                 | refine ⟨fun _ => ?_, fun h => absurd (by with_reducible exact nI_le (by omega) (by omega)) h⟩
                 | refine ⟨fun h => absurd h (by with_reducible exact nI_nlt (by omega) (by omega)), fun _ => ?_⟩
                 | refine ⟨fun _ => ?_, fun h => absurd (by with_reducible exact nI_lt (by omega) (by omega)) h⟩
                 | refine ⟨fun h => absurd h (by with_reducible exact nI_pos (by omega)), fun _ => ?_⟩
                 | refine ⟨fun _ => ?_, fun h => absurd (by with_reducible exact nI_0le (by omega)) h⟩
                 | refine ⟨fun h => absurd h (by decide), fun _ => ?_⟩
                 | refine ⟨fun _ => ?_, fun h => absurd (by decide) h⟩
                 | refine ⟨fun _ => ?_, fun h => absurd h (by decide)⟩
                 | refine ⟨fun h => absurd (by decide) h, fun _ => ?_⟩
                 | refine ⟨by decide, ?_⟩
                 | refine ⟨rfl, ?_⟩)
              | (conv => whnf
                 fail_if_success refine Exists.intro ?_ ?_
                 simp only [nI_clamp (show k < 2 ^ 31 by omega), hc, h19, h20, h21, nI_clamp (show i < 2 ^ 31 by omega), nI_clamp (show j < 2 ^ 31 by omega), nI_clamp (show q < 2 ^ 31 by omega), hx, hy]))
            try (conv => whnf)
            exact hK
          rw [if_neg h2] at hK
          refine hG 200 _ _ _ _ _ ?_
          repeat (first
            | (conv => whnf
               try dsimp only
               try simp (decide := true) only [nI_clamp (show k < 2 ^ 31 by omega), hc, h19, h20, h21, nI_clamp (show i < 2 ^ 31 by omega), nI_clamp (show j < 2 ^ 31 by omega), nI_clamp (show q < 2 ^ 31 by omega), hx, zu_same, zu_ne1, zu_ne2, zu_row, zuL_same, zuL_ne1, zuL_ne2, zrow_n1, zx0, zx1, zx2, zx3, nI_1, Nat.reduceAdd, Nat.reduceMul, Int32.reduceAdd, Int32.reduceSub, Int32.reduceMul]
               first
               | refine ⟨vp_inb (by decide), ?_⟩
               | refine ⟨by with_reducible exact zi (by omega), ?_⟩
               | refine ⟨fun h => absurd h (by with_reducible exact nI_ge (by omega) (by omega)), fun _ => ?_⟩
               | refine ⟨fun _ => ?_, fun h => absurd (by with_reducible exact nI_le (by omega) (by omega)) h⟩
               | refine ⟨fun h => absurd h (by with_reducible exact nI_nlt (by omega) (by omega)), fun _ => ?_⟩
               | refine ⟨fun _ => ?_, fun h => absurd (by with_reducible exact nI_lt (by omega) (by omega)) h⟩
               | refine ⟨fun h => absurd h (by with_reducible exact nI_pos (by omega)), fun _ => ?_⟩
               | refine ⟨fun _ => ?_, fun h => absurd (by with_reducible exact nI_0le (by omega)) h⟩
               | refine ⟨fun h => absurd h (by decide), fun _ => ?_⟩
               | refine ⟨fun _ => ?_, fun h => absurd (by decide) h⟩
               | refine ⟨fun _ => ?_, fun h => absurd h (by decide)⟩
               | refine ⟨fun h => absurd (by decide) h, fun _ => ?_⟩
               | refine ⟨by decide, ?_⟩
               | refine ⟨rfl, ?_⟩)
            | (conv => whnf
               fail_if_success refine Exists.intro ?_ ?_
               simp only [nI_clamp (show k < 2 ^ 31 by omega), hc, h19, h20, h21, nI_clamp (show i < 2 ^ 31 by omega), nI_clamp (show j < 2 ^ 31 by omega), nI_clamp (show q < 2 ^ 31 by omega), hx]))
          try (conv => whnf)
          refine ⟨fun _ => ?_, fun w => absurd w h1⟩
          repeat (first
            | (conv => whnf
               try dsimp only
               try simp (decide := true) only [nI_clamp (show k < 2 ^ 31 by omega), hc, h19, h20, h21, nI_clamp (show i < 2 ^ 31 by omega), nI_clamp (show j < 2 ^ 31 by omega), nI_clamp (show q < 2 ^ 31 by omega), hx, hy, zu_same, zu_ne1, zu_ne2, zu_row, zuL_same, zuL_ne1, zuL_ne2, zrow_n1, zx0, zx1, zx2, zx3, nI_1, Nat.reduceAdd, Nat.reduceMul, Int32.reduceAdd, Int32.reduceSub, Int32.reduceMul]
               first
               | refine ⟨vp_inb (by decide), ?_⟩
               | refine ⟨by with_reducible exact zi (by omega), ?_⟩
               | refine ⟨fun h => absurd h (by with_reducible exact nI_ge (by omega) (by omega)), fun _ => ?_⟩
               | refine ⟨fun _ => ?_, fun h => absurd (by with_reducible exact nI_le (by omega) (by omega)) h⟩
               | refine ⟨fun h => absurd h (by with_reducible exact nI_nlt (by omega) (by omega)), fun _ => ?_⟩
               | refine ⟨fun _ => ?_, fun h => absurd (by with_reducible exact nI_lt (by omega) (by omega)) h⟩
               | refine ⟨fun h => absurd h (by with_reducible exact nI_pos (by omega)), fun _ => ?_⟩
               | refine ⟨fun _ => ?_, fun h => absurd (by with_reducible exact nI_0le (by omega)) h⟩
               | refine ⟨fun h => absurd h (by decide), fun _ => ?_⟩
               | refine ⟨fun _ => ?_, fun h => absurd (by decide) h⟩
               | refine ⟨fun _ => ?_, fun h => absurd h (by decide)⟩
               | refine ⟨fun h => absurd (by decide) h, fun _ => ?_⟩
               | refine ⟨by decide, ?_⟩
               | refine ⟨rfl, ?_⟩)
            | (conv => whnf
               fail_if_success refine Exists.intro ?_ ?_
               simp only [nI_clamp (show k < 2 ^ 31 by omega), hc, h19, h20, h21, nI_clamp (show i < 2 ^ 31 by omega), nI_clamp (show j < 2 ^ 31 by omega), nI_clamp (show q < 2 ^ 31 by omega), hx, hy]))
          try (conv => whnf)
          refine ⟨fun _ => ?_, fun w => absurd w h2⟩
          repeat (first
            | (conv => whnf
               try dsimp only
               try simp (decide := true) only [nI_clamp (show k < 2 ^ 31 by omega), hc, h19, h20, h21, nI_clamp (show i < 2 ^ 31 by omega), nI_clamp (show j < 2 ^ 31 by omega), nI_clamp (show q < 2 ^ 31 by omega), hx, hy, zu_same, zu_ne1, zu_ne2, zu_row, zuL_same, zuL_ne1, zuL_ne2, zrow_n1, zx0, zx1, zx2, zx3, nI_1, Nat.reduceAdd, Nat.reduceMul, Int32.reduceAdd, Int32.reduceSub, Int32.reduceMul]
               first
               | refine ⟨vp_inb (by decide), ?_⟩
               | refine ⟨by with_reducible exact zi (by omega), ?_⟩
               | refine ⟨fun h => absurd h (by with_reducible exact nI_ge (by omega) (by omega)), fun _ => ?_⟩
               | refine ⟨fun _ => ?_, fun h => absurd (by with_reducible exact nI_le (by omega) (by omega)) h⟩
               | refine ⟨fun h => absurd h (by with_reducible exact nI_nlt (by omega) (by omega)), fun _ => ?_⟩
               | refine ⟨fun _ => ?_, fun h => absurd (by with_reducible exact nI_lt (by omega) (by omega)) h⟩
               | refine ⟨fun h => absurd h (by with_reducible exact nI_pos (by omega)), fun _ => ?_⟩
               | refine ⟨fun _ => ?_, fun h => absurd (by with_reducible exact nI_0le (by omega)) h⟩
               | refine ⟨fun h => absurd h (by decide), fun _ => ?_⟩
               | refine ⟨fun _ => ?_, fun h => absurd (by decide) h⟩
               | refine ⟨fun _ => ?_, fun h => absurd h (by decide)⟩
               | refine ⟨fun h => absurd (by decide) h, fun _ => ?_⟩
               | refine ⟨by decide, ?_⟩
               | refine ⟨rfl, ?_⟩)
            | (conv => whnf
               fail_if_success refine Exists.intro ?_ ?_
               simp only [nI_clamp (show k < 2 ^ 31 by omega), hc, h19, h20, h21, nI_clamp (show i < 2 ^ 31 by omega), nI_clamp (show j < 2 ^ 31 by omega), nI_clamp (show q < 2 ^ 31 by omega), hx, hy]))
          try (conv => whnf)
          refine ⟨fun _ => ?_, zsw_no _ _ (by decide)⟩
          repeat (conv => whnf
                  try dsimp only
                  try simp (decide := true) only [zu_same, zu_ne1, zu_ne2, zu_row, zuL_same, zuL_ne1, zuL_ne2, zrow_n1, zx0, zx1, zx2, zx3, nI_1, Nat.reduceAdd, Nat.reduceMul, Int32.reduceAdd, Int32.reduceSub, Int32.reduceMul]
                  first
                  | refine ⟨vp_inb (by decide), ?_⟩
                  | refine ⟨by with_reducible exact zi (by omega), ?_⟩
                  | refine ⟨fun h => absurd h (by with_reducible exact nI_ge (by omega) (by omega)), fun _ => ?_⟩
                  | refine ⟨fun _ => ?_, fun h => absurd (by with_reducible exact nI_le (by omega) (by omega)) h⟩
                  | refine ⟨fun h => absurd h (by with_reducible exact nI_nlt (by omega) (by omega)), fun _ => ?_⟩
                  | refine ⟨fun _ => ?_, fun h => absurd (by with_reducible exact nI_lt (by omega) (by omega)) h⟩
                  | refine ⟨fun h => absurd h (by with_reducible exact nI_pos (by omega)), fun _ => ?_⟩
                  | refine ⟨fun _ => ?_, fun h => absurd (by with_reducible exact nI_0le (by omega)) h⟩
                  | refine ⟨fun h => absurd h (by decide), fun _ => ?_⟩
                  | refine ⟨fun _ => ?_, fun h => absurd (by decide) h⟩
                  | refine ⟨fun _ => ?_, fun h => absurd h (by decide)⟩
                  | refine ⟨fun h => absurd (by decide) h, fun _ => ?_⟩
                  | refine ⟨by decide, ?_⟩
                  | refine ⟨rfl, ?_⟩)
          try (conv => whnf)
          refine ⟨_, _, rfl, ?_⟩
          repeat (conv => whnf
                  try dsimp only
                  try simp (decide := true) only [zu_same, zu_ne1, zu_ne2, zu_row, zuL_same, zuL_ne1, zuL_ne2, zrow_n1, zx0, zx1, zx2, zx3, nI_1, Nat.reduceAdd, Nat.reduceMul, Int32.reduceAdd, Int32.reduceSub, Int32.reduceMul]
                  first
                  | refine ⟨vp_inb (by decide), ?_⟩
                  | refine ⟨by with_reducible exact zi (by omega), ?_⟩
                  | refine ⟨fun h => absurd h (by with_reducible exact nI_ge (by omega) (by omega)), fun _ => ?_⟩
                  | refine ⟨fun _ => ?_, fun h => absurd (by with_reducible exact nI_le (by omega) (by omega)) h⟩
                  | refine ⟨fun h => absurd h (by with_reducible exact nI_nlt (by omega) (by omega)), fun _ => ?_⟩
                  | refine ⟨fun _ => ?_, fun h => absurd (by with_reducible exact nI_lt (by omega) (by omega)) h⟩
                  | refine ⟨fun h => absurd h (by with_reducible exact nI_pos (by omega)), fun _ => ?_⟩
                  | refine ⟨fun _ => ?_, fun h => absurd (by with_reducible exact nI_0le (by omega)) h⟩
                  | refine ⟨fun h => absurd h (by decide), fun _ => ?_⟩
                  | refine ⟨fun _ => ?_, fun h => absurd (by decide) h⟩
                  | refine ⟨fun _ => ?_, fun h => absurd h (by decide)⟩
                  | refine ⟨fun h => absurd (by decide) h, fun _ => ?_⟩
                  | refine ⟨by decide, ?_⟩
                  | refine ⟨rfl, ?_⟩)
          try (conv => whnf)
          exact hK
        · skip
          simp (decide := true) only [if_false, if_true, ite_true, ite_false] at hK
          refine hG 200 _ _ _ _ _ ?_
          repeat (first
            | (conv => whnf
               try dsimp only
               try simp (decide := true) only [nI_clamp (show k < 2 ^ 31 by omega), hc, h19, h20, h21, nI_clamp (show i < 2 ^ 31 by omega), nI_clamp (show j < 2 ^ 31 by omega), nI_clamp (show q < 2 ^ 31 by omega), hx, zu_same, zu_ne1, zu_ne2, zu_row, zuL_same, zuL_ne1, zuL_ne2, zrow_n1, zx0, zx1, zx2, zx3, nI_1, Nat.reduceAdd, Nat.reduceMul, Int32.reduceAdd, Int32.reduceSub, Int32.reduceMul]
               first
               | refine ⟨vp_inb (by decide), ?_⟩
               | refine ⟨by with_reducible exact zi (by omega), ?_⟩
               | refine ⟨fun h => absurd h (by with_reducible exact nI_ge (by omega) (by omega)), fun _ => ?_⟩
               | refine ⟨fun _ => ?_, fun h => absurd (by with_reducible exact nI_le (by omega) (by omega)) h⟩
               | refine ⟨fun h => absurd h (by with_reducible exact nI_nlt (by omega) (by omega)), fun _ => ?_⟩
               | refine ⟨fun _ => ?_, fun h => absurd (by with_reducible exact nI_lt (by omega) (by omega)) h⟩
               | refine ⟨fun h => absurd h (by with_reducible exact nI_pos (by omega)), fun _ => ?_⟩
               | refine ⟨fun _ => ?_, fun h => absurd (by with_reducible exact nI_0le (by omega)) h⟩
               | refine ⟨fun h => absurd h (by decide), fun _ => ?_⟩
               | refine ⟨fun _ => ?_, fun h => absurd (by decide) h⟩
               | refine ⟨fun _ => ?_, fun h => absurd h (by decide)⟩
               | refine ⟨fun h => absurd (by decide) h, fun _ => ?_⟩
               | refine ⟨by decide, ?_⟩
               | refine ⟨rfl, ?_⟩)
            | (conv => whnf
               fail_if_success refine Exists.intro ?_ ?_
               simp only [nI_clamp (show k < 2 ^ 31 by omega), hc, h19, h20, h21, nI_clamp (show i < 2 ^ 31 by omega), nI_clamp (show j < 2 ^ 31 by omega), nI_clamp (show q < 2 ^ 31 by omega), hx]))
          try (conv => whnf)
          refine ⟨fun _ => ?_, fun w => absurd w h1⟩
          repeat (first
            | (conv => whnf
               try dsimp only
               try simp (decide := true) only [nI_clamp (show k < 2 ^ 31 by omega), hc, h19, h20, h21, nI_clamp (show i < 2 ^ 31 by omega), nI_clamp (show j < 2 ^ 31 by omega), nI_clamp (show q < 2 ^ 31 by omega), hx, hy, zu_same, zu_ne1, zu_ne2, zu_row, zuL_same, zuL_ne1, zuL_ne2, zrow_n1, zx0, zx1, zx2, zx3, nI_1, Nat.reduceAdd, Nat.reduceMul, Int32.reduceAdd, Int32.reduceSub, Int32.reduceMul]
               first
               | refine ⟨vp_inb (by decide), ?_⟩
               | refine ⟨by with_reducible exact zi (by omega), ?_⟩
               | refine ⟨fun h => absurd h (by with_reducible exact nI_ge (by omega) (by omega)), fun _ => ?_⟩
               | refine ⟨fun _ => ?_, fun h => absurd (by with_reducible exact nI_le (by omega) (by omega)) h⟩
               | refine ⟨fun h => absurd h (by with_reducible exact nI_nlt (by omega) (by omega)), fun _ => ?_⟩
               | refine ⟨fun _ => ?_, fun h => absurd (by with_reducible exact nI_lt (by omega) (by omega)) h⟩
               | refine ⟨fun h => absurd h (by with_reducible exact nI_pos (by omega)), fun _ => ?_⟩
               | refine ⟨fun _ => ?_, fun h => absurd (by with_reducible exact nI_0le (by omega)) h⟩
               | refine ⟨fun h => absurd h (by decide), fun _ => ?_⟩
               | refine ⟨fun _ => ?_, fun h => absurd (by decide) h⟩
               | refine ⟨fun _ => ?_, fun h => absurd h (by decide)⟩
               | refine ⟨fun h => absurd (by decide) h, fun _ => ?_⟩
               | refine ⟨by decide, ?_⟩
               | refine ⟨rfl, ?_⟩)
            | (conv => whnf
               fail_if_success refine Exists.intro ?_ ?_
               simp only [nI_clamp (show k < 2 ^ 31 by omega), hc, h19, h20, h21, nI_clamp (show i < 2 ^ 31 by omega), nI_clamp (show j < 2 ^ 31 by omega), nI_clamp (show q < 2 ^ 31 by omega), hx, hy]))
          try (conv => whnf)
          refine ⟨fun w => ?_, fun w => ?_⟩
          · rw [if_neg (Int32.not_lt.mpr w)] at hK
            repeat (first
              | (conv => whnf
                 try dsimp only
                 try simp (decide := true) only [nI_clamp (show k < 2 ^ 31 by omega), hc, h19, h20, h21, nI_clamp (show i < 2 ^ 31 by omega), nI_clamp (show j < 2 ^ 31 by omega), nI_clamp (show q < 2 ^ 31 by omega), hz, zu_same, zu_ne1, zu_ne2, zu_row, zuL_same, zuL_ne1, zuL_ne2, zrow_n1, zx0, zx1, zx2, zx3, nI_1, Nat.reduceAdd, Nat.reduceMul, Int32.reduceAdd, Int32.reduceSub, Int32.reduceMul]
                 first
                 | refine ⟨vp_inb (by decide), ?_⟩
                 | refine ⟨by with_reducible exact zi (by omega), ?_⟩
                 | refine ⟨fun h => absurd h (by with_reducible exact nI_ge (by omega) (by omega)), fun _ => ?_⟩
                 | refine ⟨fun _ => ?_, fun h => absurd (by with_reducible exact nI_le (by omega) (by omega)) h⟩
                 | refine ⟨fun h => absurd h (by with_reducible exact nI_nlt (by omega) (by omega)), fun _ => ?_⟩
                 | refine ⟨fun _ => ?_, fun h => absurd (by with_reducible exact nI_lt (by omega) (by omega)) h⟩
                 | refine ⟨fun h => absurd h (by with_reducible exact nI_pos (by omega)), fun _ => ?_⟩
                 | refine ⟨fun _ => ?_, fun h => absurd (by with_reducible exact nI_0le (by omega)) h⟩
                 | refine ⟨fun h => absurd h (by decide), fun _ => ?_⟩
                 | refine ⟨fun _ => ?_, fun h => absurd (by decide) h⟩
                 | refine ⟨fun _ => ?_, fun h => absurd h (by decide)⟩
                 | refine ⟨fun h => absurd (by decide) h, fun _ => ?_⟩
                 | refine ⟨by decide, ?_⟩
                 | refine ⟨rfl, ?_⟩)
              | (conv => whnf
                 fail_if_success refine Exists.intro ?_ ?_
                 simp only [nI_clamp (show k < 2 ^ 31 by omega), hc, h19, h20, h21, nI_clamp (show i < 2 ^ 31 by omega), nI_clamp (show j < 2 ^ 31 by omega), nI_clamp (show q < 2 ^ 31 by omega), hz]))
            try (conv => whnf)
            exact hK
          · rw [if_pos (Int32.not_le.mp w)] at hK
            repeat (first
              | (conv => whnf
                 try dsimp only
                 try simp (decide := true) only [nI_clamp (show k < 2 ^ 31 by omega), hc, h19, h20, h21, nI_clamp (show i < 2 ^ 31 by omega), nI_clamp (show j < 2 ^ 31 by omega), nI_clamp (show q < 2 ^ 31 by omega), hy, zu_same, zu_ne1, zu_ne2, zu_row, zuL_same, zuL_ne1, zuL_ne2, zrow_n1, zx0, zx1, zx2, zx3, nI_1, Nat.reduceAdd, Nat.reduceMul, Int32.reduceAdd, Int32.reduceSub, Int32.reduceMul]
                 first
                 | refine ⟨vp_inb (by decide), ?_⟩
                 | refine ⟨by with_reducible exact zi (by omega), ?_⟩
                 | refine ⟨fun h => absurd h (by with_reducible exact nI_ge (by omega) (by omega)), fun _ => ?_⟩
                 | refine ⟨fun _ => ?_, fun h => absurd (by with_reducible exact nI_le (by omega) (by omega)) h⟩
                 | refine ⟨fun h => absurd h (by with_reducible exact nI_nlt (by omega) (by omega)), fun _ => ?_⟩
                 | refine ⟨fun _ => ?_, fun h => absurd (by with_reducible exact nI_lt (by omega) (by omega)) h⟩
                 | refine ⟨fun h => absurd h (by with_reducible exact nI_pos (by omega)), fun _ => ?_⟩
                 | refine ⟨fun _ => ?_, fun h => absurd (by with_reducible exact nI_0le (by omega)) h⟩
                 | refine ⟨fun h => absurd h (by decide), fun _ => ?_⟩
                 | refine ⟨fun _ => ?_, fun h => absurd (by decide) h⟩
                 | refine ⟨fun _ => ?_, fun h => absurd h (by decide)⟩
                 | refine ⟨fun h => absurd (by decide) h, fun _ => ?_⟩
                 | refine ⟨by decide, ?_⟩
                 | refine ⟨rfl, ?_⟩)
              | (conv => whnf
                 fail_if_success refine Exists.intro ?_ ?_
                 simp only [nI_clamp (show k < 2 ^ 31 by omega), hc, h19, h20, h21, nI_clamp (show i < 2 ^ 31 by omega), nI_clamp (show j < 2 ^ 31 by omega), nI_clamp (show q < 2 ^ 31 by omega), hy]))
            try (conv => whnf)
            exact hK
        · skip
          simp (decide := true) only [if_false, if_true, ite_true, ite_false] at hK
          refine hG 200 _ _ _ _ _ ?_
          repeat (first
            | (conv => whnf
               try dsimp only
               try simp (decide := true) only [nI_clamp (show k < 2 ^ 31 by omega), hc, h19, h20, h21, nI_clamp (show i < 2 ^ 31 by omega), nI_clamp (show j < 2 ^ 31 by omega), nI_clamp (show q < 2 ^ 31 by omega), hx, zu_same, zu_ne1, zu_ne2, zu_row, zuL_same, zuL_ne1, zuL_ne2, zrow_n1, zx0, zx1, zx2, zx3, nI_1, Nat.reduceAdd, Nat.reduceMul, Int32.reduceAdd, Int32.reduceSub, Int32.reduceMul]
               first
               | refine ⟨vp_inb (by decide), ?_⟩
               | refine ⟨by with_reducible exact zi (by omega), ?_⟩
               | refine ⟨fun h => absurd h (by with_reducible exact nI_ge (by omega) (by omega)), fun _ => ?_⟩
               | refine ⟨fun _ => ?_, fun h => absurd (by with_reducible exact nI_le (by omega) (by omega)) h⟩
               | refine ⟨fun h => absurd h (by with_reducible exact nI_nlt (by omega) (by omega)), fun _ => ?_⟩
               | refine ⟨fun _ => ?_, fun h => absurd (by with_reducible exact nI_lt (by omega) (by omega)) h⟩
               | refine ⟨fun h => absurd h (by with_reducible exact nI_pos (by omega)), fun _ => ?_⟩
               | refine ⟨fun _ => ?_, fun h => absurd (by with_reducible exact nI_0le (by omega)) h⟩
               | refine ⟨fun h => absurd h (by decide), fun _ => ?_⟩
               | refine ⟨fun _ => ?_, fun h => absurd (by decide) h⟩
               | refine ⟨fun _ => ?_, fun h => absurd h (by decide)⟩
               | refine ⟨fun h => absurd (by decide) h, fun _ => ?_⟩
               | refine ⟨by decide, ?_⟩
               | refine ⟨rfl, ?_⟩)
            | (conv => whnf
               fail_if_success refine Exists.intro ?_ ?_
               simp only [nI_clamp (show k < 2 ^ 31 by omega), hc, h19, h20, h21, nI_clamp (show i < 2 ^ 31 by omega), nI_clamp (show j < 2 ^ 31 by omega), nI_clamp (show q < 2 ^ 31 by omega), hx]))
          try (conv => whnf)
          refine ⟨fun _ => ?_, fun w => absurd w h1⟩
          repeat (first
            | (conv => whnf
               try dsimp only
               try simp (decide := true) only [nI_clamp (show k < 2 ^ 31 by omega), hc, h19, h20, h21, nI_clamp (show i < 2 ^ 31 by omega), nI_clamp (show j < 2 ^ 31 by omega), nI_clamp (show q < 2 ^ 31 by omega), hx, hy, zu_same, zu_ne1, zu_ne2, zu_row, zuL_same, zuL_ne1, zuL_ne2, zrow_n1, zx0, zx1, zx2, zx3, nI_1, Nat.reduceAdd, Nat.reduceMul, Int32.reduceAdd, Int32.reduceSub, Int32.reduceMul]
               first
               | refine ⟨vp_inb (by decide), ?_⟩
               | refine ⟨by with_reducible exact zi (by omega), ?_⟩
               | refine ⟨fun h => absurd h (by with_reducible exact nI_ge (by omega) (by omega)), fun _ => ?_⟩
               | refine ⟨fun _ => ?_, fun h => absurd (by with_reducible exact nI_le (by omega) (by omega)) h⟩
               | refine ⟨fun h => absurd h (by with_reducible exact nI_nlt (by omega) (by omega)), fun _ => ?_⟩
               | refine ⟨fun _ => ?_, fun h => absurd (by with_reducible exact nI_lt (by omega) (by omega)) h⟩
               | refine ⟨fun h => absurd h (by with_reducible exact nI_pos (by omega)), fun _ => ?_⟩
               | refine ⟨fun _ => ?_, fun h => absurd (by with_reducible exact nI_0le (by omega)) h⟩
               | refine ⟨fun h => absurd h (by decide), fun _ => ?_⟩
               | refine ⟨fun _ => ?_, fun h => absurd (by decide) h⟩
               | refine ⟨fun _ => ?_, fun h => absurd h (by decide)⟩
               | refine ⟨fun h => absurd (by decide) h, fun _ => ?_⟩
               | refine ⟨by decide, ?_⟩
               | refine ⟨rfl, ?_⟩)
            | (conv => whnf
               fail_if_success refine Exists.intro ?_ ?_
               simp only [nI_clamp (show k < 2 ^ 31 by omega), hc, h19, h20, h21, nI_clamp (show i < 2 ^ 31 by omega), nI_clamp (show j < 2 ^ 31 by omega), nI_clamp (show q < 2 ^ 31 by omega), hx, hy]))
          try (conv => whnf)
          refine ⟨fun w => ?_, fun w => ?_⟩
          · rw [if_neg (Int32.not_lt.mpr w)] at hK
            repeat (conv => whnf
                    try dsimp only
                    try simp (decide := true) only [zu_same, zu_ne1, zu_ne2, zu_row, zuL_same, zuL_ne1, zuL_ne2, zrow_n1, zx0, zx1, zx2, zx3, nI_1, Nat.reduceAdd, Nat.reduceMul, Int32.reduceAdd, Int32.reduceSub, Int32.reduceMul]
                    first
                    | refine ⟨vp_inb (by decide), ?_⟩
                    | refine ⟨by with_reducible exact zi (by omega), ?_⟩
                    | refine ⟨fun h => absurd h (by with_reducible exact nI_ge (by omega) (by omega)), fun _ => ?_⟩
                    | refine ⟨fun _ => ?_, fun h => absurd (by with_reducible exact nI_le (by omega) (by omega)) h⟩
                    | refine ⟨fun h => absurd h (by with_reducible exact nI_nlt (by omega) (by omega)), fun _ => ?_⟩
                    | refine ⟨fun _ => ?_, fun h => absurd (by with_reducible exact nI_lt (by omega) (by omega)) h⟩
                    | refine ⟨fun h => absurd h (by with_reducible exact nI_pos (by omega)), fun _ => ?_⟩
                    | refine ⟨fun _ => ?_, fun h => absurd (by with_reducible exact nI_0le (by omega)) h⟩
                    | refine ⟨fun h => absurd h (by decide), fun _ => ?_⟩
                    | refine ⟨fun _ => ?_, fun h => absurd (by decide) h⟩
                    | refine ⟨fun _ => ?_, fun h => absurd h (by decide)⟩
                    | refine ⟨fun h => absurd (by decide) h, fun _ => ?_⟩
                    | refine ⟨by decide, ?_⟩
                    | refine ⟨rfl, ?_⟩)
            try (conv => whnf)
            refine ⟨(_, _), rfl, rfl, trivial, ?_⟩
            try dsimp only
            repeat (conv => whnf
                    try dsimp only
                    try simp (decide := true) only [zu_same, zu_ne1, zu_ne2, zu_row, zuL_same, zuL_ne1, zuL_ne2, zrow_n1, zx0, zx1, zx2, zx3, nI_1, Nat.reduceAdd, Nat.reduceMul, Int32.reduceAdd, Int32.reduceSub, Int32.reduceMul]
                    first
                    | refine ⟨vp_inb (by decide), ?_⟩
                    | refine ⟨by with_reducible exact zi (by omega), ?_⟩
                    | refine ⟨fun h => absurd h (by with_reducible exact nI_ge (by omega) (by omega)), fun _ => ?_⟩
                    | refine ⟨fun _ => ?_, fun h => absurd (by with_reducible exact nI_le (by omega) (by omega)) h⟩
                    | refine ⟨fun h => absurd h (by with_reducible exact nI_nlt (by omega) (by omega)), fun _ => ?_⟩
                    | refine ⟨fun _ => ?_, fun h => absurd (by with_reducible exact nI_lt (by omega) (by omega)) h⟩
                    | refine ⟨fun h => absurd h (by with_reducible exact nI_pos (by omega)), fun _ => ?_⟩
                    | refine ⟨fun _ => ?_, fun h => absurd (by with_reducible exact nI_0le (by omega)) h⟩
                    | refine ⟨fun h => absurd h (by decide), fun _ => ?_⟩
                    | refine ⟨fun _ => ?_, fun h => absurd (by decide) h⟩
                    | refine ⟨fun _ => ?_, fun h => absurd h (by decide)⟩
                    | refine ⟨fun h => absurd (by decide) h, fun _ => ?_⟩
                    | refine ⟨by decide, ?_⟩
                    | refine ⟨rfl, ?_⟩)
            try (conv => whnf)
            exact hK
          · rw [if_pos (Int32.not_le.mp w)] at hK
            repeat (conv => whnf
                    try dsimp only
                    try simp (decide := true) only [zu_same, zu_ne1, zu_ne2, zu_row, zuL_same, zuL_ne1, zuL_ne2, zrow_n1, zx0, zx1, zx2, zx3, nI_1, Nat.reduceAdd, Nat.reduceMul, Int32.reduceAdd, Int32.reduceSub, Int32.reduceMul]
                    first
                    | refine ⟨vp_inb (by decide), ?_⟩
                    | refine ⟨by with_reducible exact zi (by omega), ?_⟩
                    | refine ⟨fun h => absurd h (by with_reducible exact nI_ge (by omega) (by omega)), fun _ => ?_⟩
                    | refine ⟨fun _ => ?_, fun h => absurd (by with_reducible exact nI_le (by omega) (by omega)) h⟩
                    | refine ⟨fun h => absurd h (by with_reducible exact nI_nlt (by omega) (by omega)), fun _ => ?_⟩
                    | refine ⟨fun _ => ?_, fun h => absurd (by with_reducible exact nI_lt (by omega) (by omega)) h⟩
                    | refine ⟨fun h => absurd h (by with_reducible exact nI_pos (by omega)), fun _ => ?_⟩
                    | refine ⟨fun _ => ?_, fun h => absurd (by with_reducible exact nI_0le (by omega)) h⟩
                    | refine ⟨fun h => absurd h (by decide), fun _ => ?_⟩
                    | refine ⟨fun _ => ?_, fun h => absurd (by decide) h⟩
                    | refine ⟨fun _ => ?_, fun h => absurd h (by decide)⟩
                    | refine ⟨fun h => absurd (by decide) h, fun _ => ?_⟩
                    | refine ⟨by decide, ?_⟩
                    | refine ⟨rfl, ?_⟩)
            try (conv => whnf)
            exact hK

/-! ===== the circles in their order ===== -/
theorem nI_0le {n : Nat} (h : n < 2 ^ 31) : 0 ≤ nI n := Int32.not_lt.mp (nI_pos h)
theorem pAb_congr {R1 R2 : Nat → Int32} {n v : Nat} (h : ∀ j, j < n → R1 j = R2 j) : ∀ m, m ≤ n → pAb R1 v m = pAb R2 v m
  | 0, _ => rfl
  | m + 1, hm => by
    unfold pAb
    rw [h m (by omega), pAb_congr h m (by omega)]
theorem pCi_congr {R1 R2 : Nat → Int32} {n v : Nat} (h : ∀ j, j < n → R1 j = R2 j) (hv : v < n) : pCi n R1 v = pCi n R2 v := by
  unfold pCi pBe
  rw [pAb_congr h n (Nat.le_refl n), h v hv]
theorem pOk_congr {R1 R2 : Nat → Int32} {n v : Nat} {come : Int32} (h : ∀ j, j < n → R1 j = R2 j) (hv : v < n) : pOk n R1 come v = pOk n R2 come v := by
  unfold pOk
  rw [pCi_congr h hv, h v hv]
theorem pNx_congr {R1 R2 : Nat → Int32} {n : Nat} {come : Int32} (h : ∀ j, j < n → R1 j = R2 j) : ∀ f v, v + f ≤ n → pNx n R1 come f v = pNx n R2 come f v
  | 0, _, _ => rfl
  | f + 1, v, hv => by
    unfold pNx
    rw [pOk_congr h (by omega), pNx_congr h f (v + 1) (by omega)]
def spX1_arrange : zSp := zDQ (X := zIn × zLo × Nat) (fun x => match x with | (σ, τ, n) => [.ref 94]) (fun x => match x with | (σ, τ, n) => (119, zSH, zRH, σ, τ)) (fun x => match x with | (σ, τ, n) => σ 86 3 = nI n ∧ n ≤ 16 ∧ ∀ v, v < n → ¬ σ 88 v < 0 → ∃ f, σ 88 v = nI f ∧ f < 60) (fun x r9 μ9 => match x with | (σ, τ, n) => r9 = none ∧ ∃ σ1 : zIn, μ9 = (119, zSH, zRH, σ1, τ) ∧ (∀ r, r < 94 ∨ 99 < r → σ1 r = σ r) ∧ (∀ j, j < n → σ1 95 j = pLe (σ 88) (σ 85) j ∧ σ1 96 j = pRe n (σ 88) (σ 85) j) ∧ σ1 94 7 = nI (pOr n (pRe n (σ 88) (σ 85))).length ∧ ∀ j, j < (pOr n (pRe n (σ 88) (σ 85))).length → σ1 98 j = nI ((pOr n (pRe n (σ 88) (σ 85))).getD j 0) ∧ σ1 97 j = pCi n (pRe n (σ 88) (σ 85)) ((pOr n (pRe n (σ 88) (σ 85))).getD j 0) ∧ σ1 99 j = (if bt (pRe n (σ 88) (σ 85) ((pOr n (pRe n (σ 88) (σ 85))).getD j 0)) ((pOr n (pRe n (σ 88) (σ 85))).getD j 0) = true then 1 else 0))
abbrev rmX1_arrange : Room := ({ frames := 4, cells := 0, slots := 0, locals := 87 } : Room)
set_option maxRecDepth 100000 in
set_option maxHeartbeats 4000000 in
theorem ctX1_arrange (l : Launch) (D : va_G) (cA : Nat → ClassId) : zCt false l D cA yX1_arrange cX1_arrange 4 (none) rmX1_arrange spX1_arrange := by
  refine zct_Q (zCX1_arrange [(36, 0, 0, spX1_findReach, rmX1_findReach.cells, rmX1_findReach.slots), (46, 0, 1, spX1_nextLowest, rmX1_nextLowest.cells, rmX1_nextLowest.slots), (50, 0, 1, spX1_circleWith, rmX1_circleWith.cells, rmX1_circleWith.slots), (53, 1, 2, spX7_isIn, rmX7_isIn.cells, rmX7_isIn.slots)]) zpX1_arrange [13] (by decide +kernel) zkX1_arrange (Or.inr (by decide +kernel)) trivial ⟨by decide +kernel, by decide +kernel⟩ (fun x ad => Nat.le_of_ble_eq_true rfl) ?_ ?_
  · intro p e s m args below meth c A H0 ad0 n0 Q F hml hNw hA hX
    exact ⟨zco_V hX hA F hml hNw (ctX1_findReach l D cA) ⟨⟨zlX1_arrange_36, zwX1_findReach.1.1, zwX1_findReach.1.2⟩, zwX1_findReach.2⟩ zdX1_findReach ⟨Nat.le_of_ble_eq_true rfl, Nat.le_of_ble_eq_true rfl⟩ (ci := 1) (by decide) rfl (by rintro av μ K ⟨x, rfl, rfl, -⟩; exact ⟨_, _, rfl, rfl⟩), zco_V hX hA F hml hNw (ctX1_nextLowest l D cA) ⟨⟨zlX1_arrange_46, zwX1_nextLowest.1.1, zwX1_nextLowest.1.2⟩, zwX1_nextLowest.2⟩ zdX1_nextLowest ⟨Nat.le_of_ble_eq_true rfl, Nat.le_of_ble_eq_true rfl⟩ (ci := 1) (by decide) rfl (by rintro av μ K ⟨x, rfl, rfl, -⟩; exact ⟨_, _, rfl, rfl⟩), zco_V hX hA F hml hNw (ctX1_circleWith l D cA) ⟨⟨zlX1_arrange_50, zwX1_circleWith.1.1, zwX1_circleWith.1.2⟩, zwX1_circleWith.2⟩ zdX1_circleWith ⟨Nat.le_of_ble_eq_true rfl, Nat.le_of_ble_eq_true rfl⟩ (ci := 1) (by decide) rfl (by rintro av μ K ⟨x, rfl, rfl, -⟩; exact ⟨_, _, rfl, rfl⟩), zco_SN hX hA F hml hNw (ctX7_isIn l D cA) ⟨⟨zlX1_arrange_53, zwX7_isIn.1⟩, zwX7_isIn.2⟩ zdX7_isIn ⟨Nat.le_of_ble_eq_true rfl, Nat.le_of_ble_eq_true rfl⟩, trivial⟩
  · rintro ⟨σ, τ, n⟩ Ret hP hK Gl hG
    try dsimp only at hP hK
    show Gl 0 (zent 4 [.ref 94]) [] (0, 0) ((119, zSH, zRH, σ, τ))
    generalize hR : pRe n (σ 88) (σ 85) = R at hK
    obtain ⟨hn, h16, hfo⟩ := id hP
    have loop : ∀ (f k : Nat) (come : Int32) (l3 : Option Value) (σ2 : zIn) (d : List Nat), k + f = n → d.length = k → pOr n R = d ++ pAr n R f come → (∀ r, r < 94 ∨ 99 < r → σ2 r = σ r) → (∀ j, j < n → σ2 95 j = pLe (σ 88) (σ 85) j ∧ σ2 96 j = R j) → σ2 94 7 = nI k →
        (∀ j, j < k → σ2 98 j = nI (d.getD j 0) ∧ σ2 97 j = pCi n R (d.getD j 0) ∧ σ2 99 j = (if bt (R (d.getD j 0)) (d.getD j 0) = true then 1 else 0)) → Gl 13 [some (.ref 94), some (.int come), some (.int (nI k)), l3] [] (0, 0) (119, zSH, zRH, σ2, τ) := by
      intro f
      induction f with
      | zero =>
        intro k come l3 σ2 d hk hd hL hfr h95 h94 hI
        have h86 : σ2 86 3 = nI n := by rw [hfr 86 (by decide)]; exact hn
        have hLd : pOr n R = d := by
          rw [hL]
          exact List.append_nil d
        refine hG 40 _ _ _ _ _ ?_
        repeat (first
          | (conv => whnf
             try dsimp only
             try simp (decide := true) only [h86, zu_same, zu_ne1, zu_ne2, zu_row, zuL_same, zuL_ne1, zuL_ne2, zrow_n1, zx0, zx1, zx2, zx3, nI_1, Nat.reduceAdd, Nat.reduceMul, Int32.reduceAdd, Int32.reduceSub, Int32.reduceMul]
             first
             | refine ⟨vp_inb rfl, ?_⟩
             | refine ⟨zi (by omega), ?_⟩
             | refine ⟨fun h => absurd h (nI_ge (by omega) (by omega)), fun _ => ?_⟩
             | refine ⟨fun _ => ?_, fun h => absurd (nI_le (by omega) (by omega)) h⟩
             | refine ⟨fun h => absurd h (nI_nlt (by omega) (by omega)), fun _ => ?_⟩
             | refine ⟨fun _ => ?_, fun h => absurd (nI_lt (by omega) (by omega)) h⟩
             | refine ⟨fun h => absurd h (nI_pos (by omega)), fun _ => ?_⟩
             | refine ⟨fun _ => ?_, fun h => absurd (nI_0le (by omega)) h⟩
             | refine ⟨fun h => absurd h (of_decide_eq_false rfl), fun _ => ?_⟩
             | refine ⟨fun _ => ?_, fun h => absurd (of_decide_eq_true rfl) h⟩
             | refine ⟨fun _ => ?_, fun h => absurd h (of_decide_eq_false rfl)⟩
             | refine ⟨fun h => absurd (of_decide_eq_true rfl) h, fun _ => ?_⟩
             | refine ⟨of_decide_eq_true rfl, ?_⟩
             | refine ⟨rfl, ?_⟩)
          | (conv => whnf
             fail_if_success refine Exists.intro ?_ ?_
             simp only [h86]))
        try (conv => whnf)
        refine hK _ _ ⟨rfl, σ2, rfl, hfr, h95, ?_, ?_⟩
        · rw [hLd, hd]
          exact h94
        · rw [hLd, hd]
          exact hI
      | succ f ih =>
        intro k come l3 σ2 d hk hd hL hfr h95 h94 hI
        have h86 : σ2 86 3 = nI n := by rw [hfr 86 (by decide)]; exact hn
        have hRR : ∀ j, j < n → σ2 96 j = R j := fun j hj => (h95 j hj).2
        refine hG 100 _ _ _ _ _ ?_
        repeat (first
          | (conv => whnf
             try dsimp only
             try simp (decide := true) only [h86, zu_same, zu_ne1, zu_ne2, zu_row, zuL_same, zuL_ne1, zuL_ne2, zrow_n1, zx0, zx1, zx2, zx3, nI_1, Nat.reduceAdd, Nat.reduceMul, Int32.reduceAdd, Int32.reduceSub, Int32.reduceMul]
             first
             | refine ⟨vp_inb rfl, ?_⟩
             | refine ⟨zi (by omega), ?_⟩
             | refine ⟨fun h => absurd h (nI_ge (by omega) (by omega)), fun _ => ?_⟩
             | refine ⟨fun _ => ?_, fun h => absurd (nI_le (by omega) (by omega)) h⟩
             | refine ⟨fun h => absurd h (nI_nlt (by omega) (by omega)), fun _ => ?_⟩
             | refine ⟨fun _ => ?_, fun h => absurd (nI_lt (by omega) (by omega)) h⟩
             | refine ⟨fun h => absurd h (nI_pos (by omega)), fun _ => ?_⟩
             | refine ⟨fun _ => ?_, fun h => absurd (nI_0le (by omega)) h⟩
             | refine ⟨fun h => absurd h (of_decide_eq_false rfl), fun _ => ?_⟩
             | refine ⟨fun _ => ?_, fun h => absurd (of_decide_eq_true rfl) h⟩
             | refine ⟨fun _ => ?_, fun h => absurd h (of_decide_eq_false rfl)⟩
             | refine ⟨fun h => absurd (of_decide_eq_true rfl) h, fun _ => ?_⟩
             | refine ⟨of_decide_eq_true rfl, ?_⟩
             | refine ⟨rfl, ?_⟩)
          | (conv => whnf
             fail_if_success refine Exists.intro ?_ ?_
             simp only [h86]))
        try (conv => whnf)
        refine ⟨(σ2, τ, n, come), rfl, rfl, ⟨h86, h16⟩, ?_⟩
        try dsimp only
        rw [pNx_congr hRR n 0 (by omega)]
        cases hx : pNx n R come n 0 with
        | none =>
          have hLd : pOr n R = d := by
            rw [hL, show pAr n R (f + 1) come = [] by unfold pAr; rw [hx]]
            exact List.append_nil d
          rw [show pNxI none = -1 from rfl]
          repeat (conv => whnf
                  try dsimp only
                  try simp (decide := true) only [zu_same, zu_ne1, zu_ne2, zu_row, zuL_same, zuL_ne1, zuL_ne2, zrow_n1, zx0, zx1, zx2, zx3, nI_1, Nat.reduceAdd, Nat.reduceMul, Int32.reduceAdd, Int32.reduceSub, Int32.reduceMul]
                  first
                  | refine ⟨vp_inb rfl, ?_⟩
                  | refine ⟨zi (by omega), ?_⟩
                  | refine ⟨fun h => absurd h (nI_ge (by omega) (by omega)), fun _ => ?_⟩
                  | refine ⟨fun _ => ?_, fun h => absurd (nI_le (by omega) (by omega)) h⟩
                  | refine ⟨fun h => absurd h (nI_nlt (by omega) (by omega)), fun _ => ?_⟩
                  | refine ⟨fun _ => ?_, fun h => absurd (nI_lt (by omega) (by omega)) h⟩
                  | refine ⟨fun h => absurd h (nI_pos (by omega)), fun _ => ?_⟩
                  | refine ⟨fun _ => ?_, fun h => absurd (nI_0le (by omega)) h⟩
                  | refine ⟨fun h => absurd h (of_decide_eq_false rfl), fun _ => ?_⟩
                  | refine ⟨fun _ => ?_, fun h => absurd (of_decide_eq_true rfl) h⟩
                  | refine ⟨fun _ => ?_, fun h => absurd h (of_decide_eq_false rfl)⟩
                  | refine ⟨fun h => absurd (of_decide_eq_true rfl) h, fun _ => ?_⟩
                  | refine ⟨of_decide_eq_true rfl, ?_⟩
                  | refine ⟨rfl, ?_⟩)
          try (conv => whnf)
          refine hK _ _ ⟨rfl, σ2, rfl, hfr, h95, ?_, ?_⟩
          · rw [hLd, hd]
            exact h94
          · rw [hLd, hd]
            exact hI
        | some v =>
          obtain ⟨-, hv, -⟩ := pNx_some n 0 v hx
          have hvn : v < n := by omega
          have hcg := pCi_congr (n := n) (v := v) hRR hvn
          have hLd : pOr n R = (d ++ [v]) ++ pAr n R f (come ||| pCi n R v) := by
            rw [hL, show pAr n R (f + 1) come = v :: pAr n R f (come ||| pCi n R v) by
              show (match pNx n R come n 0 with
                | none => []
                | some v => v :: pAr n R f (come ||| pCi n R v)) = _
              rw [hx]]
            simp
          have g1 : ∀ j, j < k → (d ++ [v]).getD j 0 = d.getD j 0 := fun j hj => by
            simp only [List.getD_eq_getElem?_getD]
            rw [List.getElem?_append_left (by omega)]
          have g2 : (d ++ [v]).getD k 0 = v := by
            simp only [List.getD_eq_getElem?_getD]
            rw [List.getElem?_append_right (by omega), hd]
            simp
          have fin : ∀ x, x = (if bt (R v) v = true then 1 else 0) → Gl 13 [some (.ref 94), some (.int (come ||| pCi n R v)), some (.int (nI (k + 1))), some (.int (nI v))] [] (0, 0) (119, zSH, zRH, zu (zu (zu (zu σ2 98 k (nI v)) 97 k (pCi n R v)) 99 k x) 94 7 (nI (k + 1)), τ) := fun x hxx => by
            refine ih (k + 1) _ _ _ (d ++ [v]) (by omega) (by simp [hd]) hLd (fun r hr => ?_) (fun j hj => ?_) zu_same (fun j hj => ?_)
            · rw [zu_row (by omega), zu_row (by omega), zu_row (by omega), zu_row (by omega)]
              exact hfr r hr
            · rw [zu_row (by decide), zu_row (by decide), zu_row (by decide), zu_row (by decide), zu_row (by decide), zu_row (by decide), zu_row (by decide), zu_row (by decide)]
              exact h95 j hj
            · simp (decide := true) only [zu_ne1]
              by_cases e : j = k
              · rw [e, g2, zu_same, zu_same, zu_same]
                exact ⟨rfl, rfl, hxx⟩
              · rw [g1 j (by omega)]
                simp (decide := true) only [zu_ne1, zu_ne2 e]
                exact hI j (by omega)
          rw [show pNxI (some v) = nI v from rfl]
          repeat (first
            | (conv => whnf
               try dsimp only
               try simp (decide := true) only [h86, h94, hRR v hvn, hcg, nI_clamp (show k < 2 ^ 31 by omega), nI_clamp (show v < 2 ^ 31 by omega), zu_same, zu_ne1, zu_ne2, zu_row, zuL_same, zuL_ne1, zuL_ne2, zrow_n1, zx0, zx1, zx2, zx3, nI_1, Nat.reduceAdd, Nat.reduceMul, Int32.reduceAdd, Int32.reduceSub, Int32.reduceMul]
               first
               | refine ⟨vp_inb rfl, ?_⟩
               | refine ⟨zi (by omega), ?_⟩
               | refine ⟨fun h => absurd h (nI_ge (by omega) (by omega)), fun _ => ?_⟩
               | refine ⟨fun _ => ?_, fun h => absurd (nI_le (by omega) (by omega)) h⟩
               | refine ⟨fun h => absurd h (nI_nlt (by omega) (by omega)), fun _ => ?_⟩
               | refine ⟨fun _ => ?_, fun h => absurd (nI_lt (by omega) (by omega)) h⟩
               | refine ⟨fun h => absurd h (nI_pos (by omega)), fun _ => ?_⟩
               | refine ⟨fun _ => ?_, fun h => absurd (nI_0le (by omega)) h⟩
               | refine ⟨fun h => absurd h (of_decide_eq_false rfl), fun _ => ?_⟩
               | refine ⟨fun _ => ?_, fun h => absurd (of_decide_eq_true rfl) h⟩
               | refine ⟨fun _ => ?_, fun h => absurd h (of_decide_eq_false rfl)⟩
               | refine ⟨fun h => absurd (of_decide_eq_true rfl) h, fun _ => ?_⟩
               | refine ⟨of_decide_eq_true rfl, ?_⟩
               | refine ⟨rfl, ?_⟩)
            | (conv => whnf
               fail_if_success refine Exists.intro ?_ ?_
               simp only [h86, h94, hRR v hvn, hcg, nI_clamp (show k < 2 ^ 31 by omega), nI_clamp (show v < 2 ^ 31 by omega)]))
          try (conv => whnf)
          refine ⟨(zu σ2 98 k (nI v), τ, n, v), rfl, rfl, ⟨(zu_ne1 (by decide)).trans h86, h16, by omega⟩, ?_⟩
          try dsimp only
          repeat (first
            | (conv => whnf
               try dsimp only
               try simp (decide := true) only [h86, h94, hRR v hvn, hcg, nI_clamp (show k < 2 ^ 31 by omega), nI_clamp (show v < 2 ^ 31 by omega), zu_same, zu_ne1, zu_ne2, zu_row, zuL_same, zuL_ne1, zuL_ne2, zrow_n1, zx0, zx1, zx2, zx3, nI_1, Nat.reduceAdd, Nat.reduceMul, Int32.reduceAdd, Int32.reduceSub, Int32.reduceMul]
               first
               | refine ⟨vp_inb rfl, ?_⟩
               | refine ⟨zi (by omega), ?_⟩
               | refine ⟨fun h => absurd h (nI_ge (by omega) (by omega)), fun _ => ?_⟩
               | refine ⟨fun _ => ?_, fun h => absurd (nI_le (by omega) (by omega)) h⟩
               | refine ⟨fun h => absurd h (nI_nlt (by omega) (by omega)), fun _ => ?_⟩
               | refine ⟨fun _ => ?_, fun h => absurd (nI_lt (by omega) (by omega)) h⟩
               | refine ⟨fun h => absurd h (nI_pos (by omega)), fun _ => ?_⟩
               | refine ⟨fun _ => ?_, fun h => absurd (nI_0le (by omega)) h⟩
               | refine ⟨fun h => absurd h (of_decide_eq_false rfl), fun _ => ?_⟩
               | refine ⟨fun _ => ?_, fun h => absurd (of_decide_eq_true rfl) h⟩
               | refine ⟨fun _ => ?_, fun h => absurd h (of_decide_eq_false rfl)⟩
               | refine ⟨fun h => absurd (of_decide_eq_true rfl) h, fun _ => ?_⟩
               | refine ⟨of_decide_eq_true rfl, ?_⟩
               | refine ⟨rfl, ?_⟩)
            | (conv => whnf
               fail_if_success refine Exists.intro ?_ ?_
               simp only [h86, h94, hRR v hvn, hcg, nI_clamp (show k < 2 ^ 31 by omega), nI_clamp (show v < 2 ^ 31 by omega)]))
          try (conv => whnf)
          refine ⟨(R v, nI v, (119, zSH, zRH, zu (zu σ2 98 k (nI v)) 97 k (pCi n R v), τ)), rfl, rfl, trivial, ?_⟩
          try dsimp only
          by_cases hb : bt (R v) v = true
          · rw [if_neg (zbt_t (by omega) hb)]
            repeat (first
              | (conv => whnf
                 try dsimp only
                 try simp (decide := true) only [h86, h94, hRR v hvn, hcg, nI_clamp (show k < 2 ^ 31 by omega), nI_clamp (show v < 2 ^ 31 by omega), zu_same, zu_ne1, zu_ne2, zu_row, zuL_same, zuL_ne1, zuL_ne2, zrow_n1, zx0, zx1, zx2, zx3, nI_1, Nat.reduceAdd, Nat.reduceMul, Int32.reduceAdd, Int32.reduceSub, Int32.reduceMul]
                 first
                 | refine ⟨vp_inb rfl, ?_⟩
                 | refine ⟨zi (by omega), ?_⟩
                 | refine ⟨fun h => absurd h (nI_ge (by omega) (by omega)), fun _ => ?_⟩
                 | refine ⟨fun _ => ?_, fun h => absurd (nI_le (by omega) (by omega)) h⟩
                 | refine ⟨fun h => absurd h (nI_nlt (by omega) (by omega)), fun _ => ?_⟩
                 | refine ⟨fun _ => ?_, fun h => absurd (nI_lt (by omega) (by omega)) h⟩
                 | refine ⟨fun h => absurd h (nI_pos (by omega)), fun _ => ?_⟩
                 | refine ⟨fun _ => ?_, fun h => absurd (nI_0le (by omega)) h⟩
                 | refine ⟨fun h => absurd h (of_decide_eq_false rfl), fun _ => ?_⟩
                 | refine ⟨fun _ => ?_, fun h => absurd (of_decide_eq_true rfl) h⟩
                 | refine ⟨fun _ => ?_, fun h => absurd h (of_decide_eq_false rfl)⟩
                 | refine ⟨fun h => absurd (of_decide_eq_true rfl) h, fun _ => ?_⟩
                 | refine ⟨of_decide_eq_true rfl, ?_⟩
                 | refine ⟨rfl, ?_⟩)
              | (conv => whnf
                 fail_if_success refine Exists.intro ?_ ?_
                 simp only [h86, h94, hRR v hvn, hcg, nI_clamp (show k < 2 ^ 31 by omega), nI_clamp (show v < 2 ^ 31 by omega)]))
            try (conv => whnf)
            try dsimp only
            try simp (decide := true) only [zu_same, zu_ne1, zu_ne2, zu_row, zuL_same, zuL_ne1, zuL_ne2, zrow_n1, zx0, zx1, zx2, zx3, nI_1, Nat.reduceAdd, Nat.reduceMul, Int32.reduceAdd, Int32.reduceSub, Int32.reduceMul]
            rw [h94, nI_1]
            exact fin 1 (by rw [if_pos hb])
          · rw [if_pos (zbt_f (by omega) hb)]
            repeat (first
              | (conv => whnf
                 try dsimp only
                 try simp (decide := true) only [h86, h94, hRR v hvn, hcg, nI_clamp (show k < 2 ^ 31 by omega), nI_clamp (show v < 2 ^ 31 by omega), zu_same, zu_ne1, zu_ne2, zu_row, zuL_same, zuL_ne1, zuL_ne2, zrow_n1, zx0, zx1, zx2, zx3, nI_1, Nat.reduceAdd, Nat.reduceMul, Int32.reduceAdd, Int32.reduceSub, Int32.reduceMul]
                 first
                 | refine ⟨vp_inb rfl, ?_⟩
                 | refine ⟨zi (by omega), ?_⟩
                 | refine ⟨fun h => absurd h (nI_ge (by omega) (by omega)), fun _ => ?_⟩
                 | refine ⟨fun _ => ?_, fun h => absurd (nI_le (by omega) (by omega)) h⟩
                 | refine ⟨fun h => absurd h (nI_nlt (by omega) (by omega)), fun _ => ?_⟩
                 | refine ⟨fun _ => ?_, fun h => absurd (nI_lt (by omega) (by omega)) h⟩
                 | refine ⟨fun h => absurd h (nI_pos (by omega)), fun _ => ?_⟩
                 | refine ⟨fun _ => ?_, fun h => absurd (nI_0le (by omega)) h⟩
                 | refine ⟨fun h => absurd h (of_decide_eq_false rfl), fun _ => ?_⟩
                 | refine ⟨fun _ => ?_, fun h => absurd (of_decide_eq_true rfl) h⟩
                 | refine ⟨fun _ => ?_, fun h => absurd h (of_decide_eq_false rfl)⟩
                 | refine ⟨fun h => absurd (of_decide_eq_true rfl) h, fun _ => ?_⟩
                 | refine ⟨of_decide_eq_true rfl, ?_⟩
                 | refine ⟨rfl, ?_⟩)
              | (conv => whnf
                 fail_if_success refine Exists.intro ?_ ?_
                 simp only [h86, h94, hRR v hvn, hcg, nI_clamp (show k < 2 ^ 31 by omega), nI_clamp (show v < 2 ^ 31 by omega)]))
            try (conv => whnf)
            try dsimp only
            try simp (decide := true) only [zu_same, zu_ne1, zu_ne2, zu_row, zuL_same, zuL_ne1, zuL_ne2, zrow_n1, zx0, zx1, zx2, zx3, nI_1, Nat.reduceAdd, Nat.reduceMul, Int32.reduceAdd, Int32.reduceSub, Int32.reduceMul]
            rw [h94, nI_1]
            exact fin 0 (by rw [if_neg hb])
    refine hG 40 _ _ _ _ _ ?_
    repeat (conv => whnf
            try dsimp only
            try simp (decide := true) only [zu_same, zu_ne1, zu_ne2, zu_row, zuL_same, zuL_ne1, zuL_ne2, zrow_n1, zx0, zx1, zx2, zx3, nI_1, Nat.reduceAdd, Nat.reduceMul, Int32.reduceAdd, Int32.reduceSub, Int32.reduceMul]
            first
            | refine ⟨vp_inb rfl, ?_⟩
            | refine ⟨zi (by omega), ?_⟩
            | refine ⟨fun h => absurd h (nI_ge (by omega) (by omega)), fun _ => ?_⟩
            | refine ⟨fun _ => ?_, fun h => absurd (nI_le (by omega) (by omega)) h⟩
            | refine ⟨fun h => absurd h (nI_nlt (by omega) (by omega)), fun _ => ?_⟩
            | refine ⟨fun _ => ?_, fun h => absurd (nI_lt (by omega) (by omega)) h⟩
            | refine ⟨fun h => absurd h (nI_pos (by omega)), fun _ => ?_⟩
            | refine ⟨fun _ => ?_, fun h => absurd (nI_0le (by omega)) h⟩
            | refine ⟨fun h => absurd h (of_decide_eq_false rfl), fun _ => ?_⟩
            | refine ⟨fun _ => ?_, fun h => absurd (of_decide_eq_true rfl) h⟩
            | refine ⟨fun _ => ?_, fun h => absurd h (of_decide_eq_false rfl)⟩
            | refine ⟨fun h => absurd (of_decide_eq_true rfl) h, fun _ => ?_⟩
            | refine ⟨of_decide_eq_true rfl, ?_⟩
            | refine ⟨rfl, ?_⟩)
    try (conv => whnf)
    refine ⟨(σ, τ, n), rfl, rfl, hP, ?_⟩
    try dsimp only
    rintro _ _ ⟨rfl, σ1, rfl, hf1, h1⟩
    simp only [hR] at h1
    repeat (conv => whnf
            try dsimp only
            try simp (decide := true) only [zu_same, zu_ne1, zu_ne2, zu_row, zuL_same, zuL_ne1, zuL_ne2, zrow_n1, zx0, zx1, zx2, zx3, nI_1, Nat.reduceAdd, Nat.reduceMul, Int32.reduceAdd, Int32.reduceSub, Int32.reduceMul]
            first
            | refine ⟨vp_inb rfl, ?_⟩
            | refine ⟨zi (by omega), ?_⟩
            | refine ⟨fun h => absurd h (nI_ge (by omega) (by omega)), fun _ => ?_⟩
            | refine ⟨fun _ => ?_, fun h => absurd (nI_le (by omega) (by omega)) h⟩
            | refine ⟨fun h => absurd h (nI_nlt (by omega) (by omega)), fun _ => ?_⟩
            | refine ⟨fun _ => ?_, fun h => absurd (nI_lt (by omega) (by omega)) h⟩
            | refine ⟨fun h => absurd h (nI_pos (by omega)), fun _ => ?_⟩
            | refine ⟨fun _ => ?_, fun h => absurd (nI_0le (by omega)) h⟩
            | refine ⟨fun h => absurd h (of_decide_eq_false rfl), fun _ => ?_⟩
            | refine ⟨fun _ => ?_, fun h => absurd (of_decide_eq_true rfl) h⟩
            | refine ⟨fun _ => ?_, fun h => absurd h (of_decide_eq_false rfl)⟩
            | refine ⟨fun h => absurd (of_decide_eq_true rfl) h, fun _ => ?_⟩
            | refine ⟨of_decide_eq_true rfl, ?_⟩
            | refine ⟨rfl, ?_⟩)
    try (conv => whnf)
    try dsimp only
    try simp (decide := true) only [zu_same, zu_ne1, zu_ne2, zu_row, zuL_same, zuL_ne1, zuL_ne2, zrow_n1, zx0, zx1, zx2, zx3, nI_1, Nat.reduceAdd, Nat.reduceMul, Int32.reduceAdd, Int32.reduceSub, Int32.reduceMul]
    exact loop n 0 0 none _ [] (by omega) rfl rfl (fun r hr => by rw [zu_row (by omega)]; exact hf1 r (by omega) (by omega)) (fun j hj => by rw [zu_row (by decide), zu_row (by decide)]; exact h1 j hj) zu_same (fun j hj => absurd hj (Nat.not_lt_zero j))
def pGr (T : Nat → Int32) : Nat → Int32
  | 0 => 0
  | k + 1 => if pGr T k < T k then T k else pGr T k
def pBr (A : Nat → Int32) : Nat → Nat
  | 0 => 0
  | k + 1 => if A k = zBRK then pBr A k + 1 else pBr A k
def spX3_greatestTurns : zSp := zD (X := zIn × zLo × Nat) (fun x => match x with | (σ, τ, c) => [.ref 102, .int (nI c)]) (fun x => match x with | (σ, τ, c) => (119, zSH, zRH, σ, τ)) (fun x => match x with | (σ, τ, c) => c ≤ 16) (fun x => match x with | (σ, τ, c) => some (.int (pGr (σ 104) c))) (fun x => match x with | (σ, τ, c) => (119, zSH, zRH, σ, τ))
abbrev rmX3_greatestTurns : Room := ({ frames := 1, cells := 0, slots := 0, locals := 26 } : Room)
set_option maxRecDepth 100000 in
set_option maxHeartbeats 4000000 in
theorem ctX3_greatestTurns (l : Launch) (D : va_G) (cA : Nat → ClassId) : zCt false l D cA yX3_greatestTurns cX3_greatestTurns 4 (some .int) rmX3_greatestTurns spX3_greatestTurns := by
  refine zct_D (zCX3_greatestTurns [(22, 1, 2, spMax, 0, 0)]) zpX3_greatestTurns [4] (by decide +kernel) zkX3_greatestTurns (Or.inr (by decide +kernel)) trivial ⟨by decide +kernel, by decide +kernel⟩ (fun x ad => Nat.le_of_ble_eq_true rfl) ?_ ?_
  · intro p e s m args below meth c A H0 ad0 n0 Q F hml hNw hA hX
    exact ⟨zco_max F hml ⟨zlX3_greatestTurns_22, zlib_max⟩ ⟨Nat.le_of_ble_eq_true rfl, Nat.le_of_ble_eq_true rfl⟩, trivial⟩
  · rintro ⟨σ, τ, c⟩ Ret hP hK Gl hG
    try dsimp only at hP hK
    show Gl 0 (zent 4 [.ref 102, .int (nI c)]) [] (0, 0) ((119, zSH, zRH, σ, τ))
    have loop : ∀ (f k : Nat), k + f = c → Gl 4 [some (.ref 102), some (.int (nI c)), some (.int (pGr (σ 104) k)), some (.int (nI k))] [] (0, 0) (119, zSH, zRH, σ, τ) := by
      intro f
      induction f with
      | zero =>
        intro k hk
        have hkc : k = c := by omega
        rw [hkc]
        refine hG 40 _ _ _ _ _ ?_
        repeat (conv => whnf
                try dsimp only
                try simp (decide := true) only [zu_same, zu_ne1, zu_ne2, zu_row, zuL_same, zuL_ne1, zuL_ne2, zrow_n1, zx0, zx1, zx2, zx3, nI_1, Nat.reduceAdd, Nat.reduceMul, Int32.reduceAdd, Int32.reduceSub, Int32.reduceMul]
                first
                | refine ⟨vp_inb rfl, ?_⟩
                | refine ⟨zi (by omega), ?_⟩
                | refine ⟨fun h => absurd h (nI_ge (by omega) (by omega)), fun _ => ?_⟩
                | refine ⟨fun _ => ?_, fun h => absurd (nI_le (by omega) (by omega)) h⟩
                | refine ⟨fun h => absurd h (nI_nlt (by omega) (by omega)), fun _ => ?_⟩
                | refine ⟨fun _ => ?_, fun h => absurd (nI_lt (by omega) (by omega)) h⟩
                | refine ⟨fun h => absurd h (nI_pos (by omega)), fun _ => ?_⟩
                | refine ⟨fun _ => ?_, fun h => absurd (nI_0le (by omega)) h⟩
                | refine ⟨fun h => absurd h (of_decide_eq_false rfl), fun _ => ?_⟩
                | refine ⟨fun _ => ?_, fun h => absurd (of_decide_eq_true rfl) h⟩
                | refine ⟨fun _ => ?_, fun h => absurd h (of_decide_eq_false rfl)⟩
                | refine ⟨fun h => absurd (of_decide_eq_true rfl) h, fun _ => ?_⟩
                | refine ⟨of_decide_eq_true rfl, ?_⟩
                | refine ⟨rfl, ?_⟩)
        try (conv => whnf)
        exact hK
      | succ f ih =>
        intro k hk
        have h9 := ih (k + 1) (by omega)
        refine hG 40 _ _ _ _ _ ?_
        repeat (first
          | (conv => whnf
             try dsimp only
             try simp (decide := true) only [nI_clamp (show k < 2 ^ 31 by omega), zu_same, zu_ne1, zu_ne2, zu_row, zuL_same, zuL_ne1, zuL_ne2, zrow_n1, zx0, zx1, zx2, zx3, nI_1, Nat.reduceAdd, Nat.reduceMul, Int32.reduceAdd, Int32.reduceSub, Int32.reduceMul]
             first
             | refine ⟨vp_inb rfl, ?_⟩
             | refine ⟨zi (by omega), ?_⟩
             | refine ⟨fun h => absurd h (nI_ge (by omega) (by omega)), fun _ => ?_⟩
             | refine ⟨fun _ => ?_, fun h => absurd (nI_le (by omega) (by omega)) h⟩
             | refine ⟨fun h => absurd h (nI_nlt (by omega) (by omega)), fun _ => ?_⟩
             | refine ⟨fun _ => ?_, fun h => absurd (nI_lt (by omega) (by omega)) h⟩
             | refine ⟨fun h => absurd h (nI_pos (by omega)), fun _ => ?_⟩
             | refine ⟨fun _ => ?_, fun h => absurd (nI_0le (by omega)) h⟩
             | refine ⟨fun h => absurd h (of_decide_eq_false rfl), fun _ => ?_⟩
             | refine ⟨fun _ => ?_, fun h => absurd (of_decide_eq_true rfl) h⟩
             | refine ⟨fun _ => ?_, fun h => absurd h (of_decide_eq_false rfl)⟩
             | refine ⟨fun h => absurd (of_decide_eq_true rfl) h, fun _ => ?_⟩
             | refine ⟨of_decide_eq_true rfl, ?_⟩
             | refine ⟨rfl, ?_⟩)
          | (conv => whnf
             fail_if_success refine Exists.intro ?_ ?_
             simp only [nI_clamp (show k < 2 ^ 31 by omega)]))
        try (conv => whnf)
        refine ⟨_, _, rfl, ?_⟩
        repeat (conv => whnf
                try dsimp only
                try simp (decide := true) only [zu_same, zu_ne1, zu_ne2, zu_row, zuL_same, zuL_ne1, zuL_ne2, zrow_n1, zx0, zx1, zx2, zx3, nI_1, Nat.reduceAdd, Nat.reduceMul, Int32.reduceAdd, Int32.reduceSub, Int32.reduceMul]
                first
                | refine ⟨vp_inb rfl, ?_⟩
                | refine ⟨zi (by omega), ?_⟩
                | refine ⟨fun h => absurd h (nI_ge (by omega) (by omega)), fun _ => ?_⟩
                | refine ⟨fun _ => ?_, fun h => absurd (nI_le (by omega) (by omega)) h⟩
                | refine ⟨fun h => absurd h (nI_nlt (by omega) (by omega)), fun _ => ?_⟩
                | refine ⟨fun _ => ?_, fun h => absurd (nI_lt (by omega) (by omega)) h⟩
                | refine ⟨fun h => absurd h (nI_pos (by omega)), fun _ => ?_⟩
                | refine ⟨fun _ => ?_, fun h => absurd (nI_0le (by omega)) h⟩
                | refine ⟨fun h => absurd h (of_decide_eq_false rfl), fun _ => ?_⟩
                | refine ⟨fun _ => ?_, fun h => absurd (of_decide_eq_true rfl) h⟩
                | refine ⟨fun _ => ?_, fun h => absurd h (of_decide_eq_false rfl)⟩
                | refine ⟨fun h => absurd (of_decide_eq_true rfl) h, fun _ => ?_⟩
                | refine ⟨of_decide_eq_true rfl, ?_⟩
                | refine ⟨rfl, ?_⟩)
        try (conv => whnf)
        try dsimp only
        try simp (decide := true) only [zu_same, zu_ne1, zu_ne2, zu_row, zuL_same, zuL_ne1, zuL_ne2, zrow_n1, zx0, zx1, zx2, zx3, nI_1, Nat.reduceAdd, Nat.reduceMul, Int32.reduceAdd, Int32.reduceSub, Int32.reduceMul]
        exact h9
    refine hG 40 _ _ _ _ _ ?_
    repeat (conv => whnf
            try dsimp only
            try simp (decide := true) only [zu_same, zu_ne1, zu_ne2, zu_row, zuL_same, zuL_ne1, zuL_ne2, zrow_n1, zx0, zx1, zx2, zx3, nI_1, Nat.reduceAdd, Nat.reduceMul, Int32.reduceAdd, Int32.reduceSub, Int32.reduceMul]
            first
            | refine ⟨vp_inb rfl, ?_⟩
            | refine ⟨zi (by omega), ?_⟩
            | refine ⟨fun h => absurd h (nI_ge (by omega) (by omega)), fun _ => ?_⟩
            | refine ⟨fun _ => ?_, fun h => absurd (nI_le (by omega) (by omega)) h⟩
            | refine ⟨fun h => absurd h (nI_nlt (by omega) (by omega)), fun _ => ?_⟩
            | refine ⟨fun _ => ?_, fun h => absurd (nI_lt (by omega) (by omega)) h⟩
            | refine ⟨fun h => absurd h (nI_pos (by omega)), fun _ => ?_⟩
            | refine ⟨fun _ => ?_, fun h => absurd (nI_0le (by omega)) h⟩
            | refine ⟨fun h => absurd h (of_decide_eq_false rfl), fun _ => ?_⟩
            | refine ⟨fun _ => ?_, fun h => absurd (of_decide_eq_true rfl) h⟩
            | refine ⟨fun _ => ?_, fun h => absurd h (of_decide_eq_false rfl)⟩
            | refine ⟨fun h => absurd (of_decide_eq_true rfl) h, fun _ => ?_⟩
            | refine ⟨of_decide_eq_true rfl, ?_⟩
            | refine ⟨rfl, ?_⟩)
    try (conv => whnf)
    exact loop c 0 (by omega)
def spX3_brokenOnes : zSp := zD (X := zIn × zLo × Nat) (fun x => match x with | (σ, τ, c) => [.ref 102, .int (nI c)]) (fun x => match x with | (σ, τ, c) => (119, zSH, zRH, σ, τ)) (fun x => match x with | (σ, τ, c) => c ≤ 16) (fun x => match x with | (σ, τ, c) => some (.int (nI (pBr (σ 103) c)))) (fun x => match x with | (σ, τ, c) => (119, zSH, zRH, σ, τ))
abbrev rmX3_brokenOnes : Room := ({ frames := 0, cells := 0, slots := 0, locals := 0 } : Room)
set_option maxRecDepth 100000 in
set_option maxHeartbeats 4000000 in
theorem ctX3_brokenOnes (l : Launch) (D : va_G) (cA : Nat → ClassId) : zCt false l D cA yX3_brokenOnes cX3_brokenOnes 4 (some .int) rmX3_brokenOnes spX3_brokenOnes := by
  refine zct_D (zCX3_brokenOnes []) zpX3_brokenOnes [4] (by decide +kernel) zkX3_brokenOnes (Or.inr (by decide +kernel)) trivial ⟨by decide +kernel, by decide +kernel⟩ (fun x ad => Nat.le_of_ble_eq_true rfl) ?_ ?_
  · intro p e s m args below meth c A H0 ad0 n0 Q F hml hNw hA hX
    exact trivial
  · rintro ⟨σ, τ, c⟩ Ret hP hK Gl hG
    try dsimp only at hP hK
    show Gl 0 (zent 4 [.ref 102, .int (nI c)]) [] (0, 0) ((119, zSH, zRH, σ, τ))
    have loop : ∀ (f k : Nat), k + f = c → Gl 4 [some (.ref 102), some (.int (nI c)), some (.int (nI (pBr (σ 103) k))), some (.int (nI k))] [] (0, 0) (119, zSH, zRH, σ, τ) := by
      intro f
      induction f with
      | zero =>
        intro k hk
        have hkc : k = c := by omega
        rw [hkc]
        refine hG 40 _ _ _ _ _ ?_
        repeat (conv => whnf
                try dsimp only
                try simp (decide := true) only [zu_same, zu_ne1, zu_ne2, zu_row, zuL_same, zuL_ne1, zuL_ne2, zrow_n1, zx0, zx1, zx2, zx3, nI_1, Nat.reduceAdd, Nat.reduceMul, Int32.reduceAdd, Int32.reduceSub, Int32.reduceMul]
                first
                | refine ⟨vp_inb rfl, ?_⟩
                | refine ⟨zi (by omega), ?_⟩
                | refine ⟨fun h => absurd h (nI_ge (by omega) (by omega)), fun _ => ?_⟩
                | refine ⟨fun _ => ?_, fun h => absurd (nI_le (by omega) (by omega)) h⟩
                | refine ⟨fun h => absurd h (nI_nlt (by omega) (by omega)), fun _ => ?_⟩
                | refine ⟨fun _ => ?_, fun h => absurd (nI_lt (by omega) (by omega)) h⟩
                | refine ⟨fun h => absurd h (nI_pos (by omega)), fun _ => ?_⟩
                | refine ⟨fun _ => ?_, fun h => absurd (nI_0le (by omega)) h⟩
                | refine ⟨fun h => absurd h (of_decide_eq_false rfl), fun _ => ?_⟩
                | refine ⟨fun _ => ?_, fun h => absurd (of_decide_eq_true rfl) h⟩
                | refine ⟨fun _ => ?_, fun h => absurd h (of_decide_eq_false rfl)⟩
                | refine ⟨fun h => absurd (of_decide_eq_true rfl) h, fun _ => ?_⟩
                | refine ⟨of_decide_eq_true rfl, ?_⟩
                | refine ⟨rfl, ?_⟩)
        try (conv => whnf)
        exact hK
      | succ f ih =>
        intro k hk
        have h9 := ih (k + 1) (by omega)
        unfold pBr at h9
        refine hG 40 _ _ _ _ _ ?_
        repeat (first
          | (conv => whnf
             try dsimp only
             try simp (decide := true) only [nI_clamp (show k < 2 ^ 31 by omega), zu_same, zu_ne1, zu_ne2, zu_row, zuL_same, zuL_ne1, zuL_ne2, zrow_n1, zx0, zx1, zx2, zx3, nI_1, Nat.reduceAdd, Nat.reduceMul, Int32.reduceAdd, Int32.reduceSub, Int32.reduceMul]
             first
             | refine ⟨vp_inb rfl, ?_⟩
             | refine ⟨zi (by omega), ?_⟩
             | refine ⟨fun h => absurd h (nI_ge (by omega) (by omega)), fun _ => ?_⟩
             | refine ⟨fun _ => ?_, fun h => absurd (nI_le (by omega) (by omega)) h⟩
             | refine ⟨fun h => absurd h (nI_nlt (by omega) (by omega)), fun _ => ?_⟩
             | refine ⟨fun _ => ?_, fun h => absurd (nI_lt (by omega) (by omega)) h⟩
             | refine ⟨fun h => absurd h (nI_pos (by omega)), fun _ => ?_⟩
             | refine ⟨fun _ => ?_, fun h => absurd (nI_0le (by omega)) h⟩
             | refine ⟨fun h => absurd h (of_decide_eq_false rfl), fun _ => ?_⟩
             | refine ⟨fun _ => ?_, fun h => absurd (of_decide_eq_true rfl) h⟩
             | refine ⟨fun _ => ?_, fun h => absurd h (of_decide_eq_false rfl)⟩
             | refine ⟨fun h => absurd (of_decide_eq_true rfl) h, fun _ => ?_⟩
             | refine ⟨of_decide_eq_true rfl, ?_⟩
             | refine ⟨rfl, ?_⟩)
          | (conv => whnf
             fail_if_success refine Exists.intro ?_ ?_
             simp only [nI_clamp (show k < 2 ^ 31 by omega)]))
        try (conv => whnf)
        refine ⟨fun h => ?_, fun h => ?_⟩
        · rw [if_neg h] at h9
          repeat (conv => whnf
                  try dsimp only
                  try simp (decide := true) only [zu_same, zu_ne1, zu_ne2, zu_row, zuL_same, zuL_ne1, zuL_ne2, zrow_n1, zx0, zx1, zx2, zx3, nI_1, Nat.reduceAdd, Nat.reduceMul, Int32.reduceAdd, Int32.reduceSub, Int32.reduceMul]
                  first
                  | refine ⟨vp_inb rfl, ?_⟩
                  | refine ⟨zi (by omega), ?_⟩
                  | refine ⟨fun h => absurd h (nI_ge (by omega) (by omega)), fun _ => ?_⟩
                  | refine ⟨fun _ => ?_, fun h => absurd (nI_le (by omega) (by omega)) h⟩
                  | refine ⟨fun h => absurd h (nI_nlt (by omega) (by omega)), fun _ => ?_⟩
                  | refine ⟨fun _ => ?_, fun h => absurd (nI_lt (by omega) (by omega)) h⟩
                  | refine ⟨fun h => absurd h (nI_pos (by omega)), fun _ => ?_⟩
                  | refine ⟨fun _ => ?_, fun h => absurd (nI_0le (by omega)) h⟩
                  | refine ⟨fun h => absurd h (of_decide_eq_false rfl), fun _ => ?_⟩
                  | refine ⟨fun _ => ?_, fun h => absurd (of_decide_eq_true rfl) h⟩
                  | refine ⟨fun _ => ?_, fun h => absurd h (of_decide_eq_false rfl)⟩
                  | refine ⟨fun h => absurd (of_decide_eq_true rfl) h, fun _ => ?_⟩
                  | refine ⟨of_decide_eq_true rfl, ?_⟩
                  | refine ⟨rfl, ?_⟩)
          try (conv => whnf)
          try dsimp only
          try simp (decide := true) only [zu_same, zu_ne1, zu_ne2, zu_row, zuL_same, zuL_ne1, zuL_ne2, zrow_n1, zx0, zx1, zx2, zx3, nI_1, Nat.reduceAdd, Nat.reduceMul, Int32.reduceAdd, Int32.reduceSub, Int32.reduceMul]
          exact h9
        · rw [if_pos h] at h9
          repeat (conv => whnf
                  try dsimp only
                  try simp (decide := true) only [zu_same, zu_ne1, zu_ne2, zu_row, zuL_same, zuL_ne1, zuL_ne2, zrow_n1, zx0, zx1, zx2, zx3, nI_1, Nat.reduceAdd, Nat.reduceMul, Int32.reduceAdd, Int32.reduceSub, Int32.reduceMul]
                  first
                  | refine ⟨vp_inb rfl, ?_⟩
                  | refine ⟨zi (by omega), ?_⟩
                  | refine ⟨fun h => absurd h (nI_ge (by omega) (by omega)), fun _ => ?_⟩
                  | refine ⟨fun _ => ?_, fun h => absurd (nI_le (by omega) (by omega)) h⟩
                  | refine ⟨fun h => absurd h (nI_nlt (by omega) (by omega)), fun _ => ?_⟩
                  | refine ⟨fun _ => ?_, fun h => absurd (nI_lt (by omega) (by omega)) h⟩
                  | refine ⟨fun h => absurd h (nI_pos (by omega)), fun _ => ?_⟩
                  | refine ⟨fun _ => ?_, fun h => absurd (nI_0le (by omega)) h⟩
                  | refine ⟨fun h => absurd h (of_decide_eq_false rfl), fun _ => ?_⟩
                  | refine ⟨fun _ => ?_, fun h => absurd (of_decide_eq_true rfl) h⟩
                  | refine ⟨fun _ => ?_, fun h => absurd h (of_decide_eq_false rfl)⟩
                  | refine ⟨fun h => absurd (of_decide_eq_true rfl) h, fun _ => ?_⟩
                  | refine ⟨of_decide_eq_true rfl, ?_⟩
                  | refine ⟨rfl, ?_⟩)
          try (conv => whnf)
          try dsimp only
          try simp (decide := true) only [zu_same, zu_ne1, zu_ne2, zu_row, zuL_same, zuL_ne1, zuL_ne2, zrow_n1, zx0, zx1, zx2, zx3, nI_1, Nat.reduceAdd, Nat.reduceMul, Int32.reduceAdd, Int32.reduceSub, Int32.reduceMul]
          exact h9
    refine hG 40 _ _ _ _ _ ?_
    repeat (conv => whnf
            try dsimp only
            try simp (decide := true) only [zu_same, zu_ne1, zu_ne2, zu_row, zuL_same, zuL_ne1, zuL_ne2, zrow_n1, zx0, zx1, zx2, zx3, nI_1, Nat.reduceAdd, Nat.reduceMul, Int32.reduceAdd, Int32.reduceSub, Int32.reduceMul]
            first
            | refine ⟨vp_inb rfl, ?_⟩
            | refine ⟨zi (by omega), ?_⟩
            | refine ⟨fun h => absurd h (nI_ge (by omega) (by omega)), fun _ => ?_⟩
            | refine ⟨fun _ => ?_, fun h => absurd (nI_le (by omega) (by omega)) h⟩
            | refine ⟨fun h => absurd h (nI_nlt (by omega) (by omega)), fun _ => ?_⟩
            | refine ⟨fun _ => ?_, fun h => absurd (nI_lt (by omega) (by omega)) h⟩
            | refine ⟨fun h => absurd h (nI_pos (by omega)), fun _ => ?_⟩
            | refine ⟨fun _ => ?_, fun h => absurd (nI_0le (by omega)) h⟩
            | refine ⟨fun h => absurd h (of_decide_eq_false rfl), fun _ => ?_⟩
            | refine ⟨fun _ => ?_, fun h => absurd (of_decide_eq_true rfl) h⟩
            | refine ⟨fun _ => ?_, fun h => absurd h (of_decide_eq_false rfl)⟩
            | refine ⟨fun h => absurd (of_decide_eq_true rfl) h, fun _ => ?_⟩
            | refine ⟨of_decide_eq_true rfl, ?_⟩
            | refine ⟨rfl, ?_⟩)
    try (conv => whnf)
    exact loop c 0 (by omega)

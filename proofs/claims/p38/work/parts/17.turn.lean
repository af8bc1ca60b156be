/-! ===== one turn, by the machine ===== -/
abbrev zMG (σ : zIn) : zMd := (zPT σ, σ 88, σ 87, σ 15, σ 16, σ 100 6, σ 100 7, σ 90 7)
/-- what solving needs of the rows that were told -/
def cTu (σ : zIn) (τ : zLo) (n pc : Nat) : Prop := σ 86 3 = nI n ∧ n ≤ 16 ∧ pc ≤ 60 ∧ pNu n pc (zMG σ) ∧ (∀ v, v < n → ¬ σ 88 v < 0 → ∃ f, σ 88 v = nI f ∧ f < pc) ∧ ∀ f, f < pc → pIn σ τ f
theorem zPT_cg {σ σ1 : zIn} (h : ∀ r, 18 ≤ r → r ≤ 21 → σ1 r = σ r) : zPT σ1 = zPT σ := by
  unfold zPT
  rw [h 18 (by decide) (by decide), h 19 (by decide) (by decide), h 20 (by decide) (by decide), h 21 (by decide) (by decide)]
theorem pPk_cg {σ σ1 : zIn} (h : ∀ r, 18 ≤ r → r ≤ 21 → σ1 r = σ r) {k : Nat} (hp : pPk σ k) : pPk σ1 k := by
  unfold pPk
  rw [h 18 (by decide) (by decide), h 19 (by decide) (by decide), h 20 (by decide) (by decide), h 21 (by decide) (by decide)]
  exact hp
theorem pIn_cg {σ σ1 : zIn} {τ : zLo} (h : ∀ r, 18 ≤ r → r ≤ 21 → σ1 r = σ r) {f : Nat} (hp : pIn σ τ f) : pIn σ1 τ f := by
  refine ⟨hp.1, fun k hk hb => ?_⟩
  obtain ⟨a, b, c⟩ := hp.2 k hk hb
  refine ⟨pPk_cg h a, ?_, ?_⟩
  · rw [zPT_cg h]
    exact b
  · rw [h 18 (by decide) (by decide), h 19 (by decide) (by decide), h 20 (by decide) (by decide), h 21 (by decide) (by decide)]
    exact c
theorem pMt_hi {P : zPt} {fo : Nat → Int32} {d m : Int32} {A : Nat → Int32} : ∀ (v : Nat) (g : Int32) (B : Nat → Int32), pMt P fo d m A v = some (g, B) → ∀ u, v ≤ u → B u = A u
  | 0, g, B, h, u, _ => by cases h; rfl
  | v + 1, g, B, h, u, hu => by
    unfold pMt at h
    cases h9 : pMt P fo d m A v with
    | none => rw [h9] at h; cases h
    | some x =>
      obtain ⟨g1, B1⟩ := x
      rw [h9] at h
      dsimp only at h
      have ih := pMt_hi v g1 B1 h9 u (by omega)
      split at h
      · split at h
        · cases h
        · cases h
          show (if u = v then _ else B1 u) = A u
          rw [if_neg (by omega)]
          exact ih
      · cases h
        exact ih
theorem zu_row_eq {σ : zIn} {r j : Nat} {x : Int32} : zu σ r j x r = fun u => if u = j then x else σ r u := by
  funext u
  unfold zu
  by_cases h : u = j
  · rw [if_pos ⟨rfl, h⟩, if_pos h]
  · rw [if_neg (fun q => h q.2), if_neg h]
def spX4_makeTurn : zSp := zDQ (X := Bool × zIn × zLo × Nat × Nat × Int32) (fun x => match x with | (b, σ, τ, n, pc, m) => [.ref 100, .int m, .ref (cond b 103 107)]) (fun x => match x with | (b, σ, τ, n, pc, m) => (119, zSH, zRH, σ, τ)) (fun x => match x with | (b, σ, τ, n, pc, m) => cTu σ τ n pc ∧ (∀ u, u < n → kb (σ (cond b 103 107) u)) ∧ (∀ u, u < n → bt m u = true → kp (σ (cond b 103 107) u))) (fun x r9 μ9 => match x with | (b, σ, τ, n, pc, m) => (pMt (zPT σ) (σ 88) (σ 100 7) m (σ (cond b 103 107)) n = none ∧ r9 = some (.int zBRK) ∧ ∃ σ1 : zIn, μ9 = (119, zSH, zRH, σ1, τ) ∧ (∀ r, r ≠ 101 → r ≠ cond b 103 107 → σ1 r = σ r) ∧ ∀ u, ¬ (u < n ∧ bt m u = true) → σ1 (cond b 103 107) u = σ (cond b 103 107) u) ∨ ∃ g B, pMt (zPT σ) (σ 88) (σ 100 7) m (σ (cond b 103 107)) n = some (g, B) ∧ r9 = some (.int g) ∧ ∃ σ1 : zIn, μ9 = (119, zSH, zRH, σ1, τ) ∧ (∀ r, r ≠ 101 → r ≠ cond b 103 107 → σ1 r = σ r) ∧ σ1 (cond b 103 107) = B)
abbrev rmX4_makeTurn : Room := ({ frames := 3, cells := 0, slots := 0, locals := 76 } : Room)
set_option maxRecDepth 100000 in
set_option maxHeartbeats 4000000 in
theorem ctX4_makeTurn (l : Launch) (D : va_G) (cA : Nat → ClassId) : zCt false l D cA yX4_makeTurn cX4_makeTurn 7 (some .int) rmX4_makeTurn spX4_makeTurn := by
  refine zct_Q (zCX4_makeTurn [(86, 1, 2, spX7_isIn, rmX7_isIn.cells, rmX7_isIn.slots), (90, 0, 1, spX6_isInput, rmX6_isInput.cells, rmX6_isInput.slots), (106, 0, 2, spX4_reckon, rmX4_reckon.cells, rmX4_reckon.slots), (118, 1, 1, spAbs, 0, 0), (124, 1, 2, spMax, 0, 0)]) zpX4_makeTurn [5] (by decide +kernel) zkX4_makeTurn (Or.inr (by decide +kernel)) trivial ⟨by decide +kernel, by decide +kernel⟩ (fun x ad => Nat.le_of_ble_eq_true rfl) ?_ ?_
  · intro p e s m args below meth c A H0 ad0 n0 Q F hml hNw hA hX
    exact ⟨zco_SN hX hA F hml hNw (ctX7_isIn l D cA) ⟨⟨zlX4_makeTurn_86, zwX7_isIn.1⟩, zwX7_isIn.2⟩ zdX7_isIn ⟨Nat.le_of_ble_eq_true rfl, Nat.le_of_ble_eq_true rfl⟩, zco_V hX hA F hml hNw (ctX6_isInput l D cA) ⟨⟨zlX4_makeTurn_90, zwX6_isInput.1.1, zwX6_isInput.1.2⟩, zwX6_isInput.2⟩ zdX6_isInput ⟨Nat.le_of_ble_eq_true rfl, Nat.le_of_ble_eq_true rfl⟩ (ci := 6) (by decide) rfl (by rintro av μ K ⟨x, rfl, rfl, -⟩; exact ⟨_, _, rfl, rfl⟩), zco_V hX hA F hml hNw (ctX4_reckon l D cA) ⟨⟨zlX4_makeTurn_106, zwX4_reckon.1.1, zwX4_reckon.1.2⟩, zwX4_reckon.2⟩ zdX4_reckon ⟨Nat.le_of_ble_eq_true rfl, Nat.le_of_ble_eq_true rfl⟩ (ci := 4) (by decide) rfl (by rintro av μ K ⟨x, rfl, rfl, -⟩; exact ⟨_, _, rfl, rfl⟩), zco_abs F hml ⟨zlX4_makeTurn_118, zlib_abs⟩ ⟨Nat.le_of_ble_eq_true rfl, Nat.le_of_ble_eq_true rfl⟩, zco_max F hml ⟨zlX4_makeTurn_124, zlib_max⟩ ⟨Nat.le_of_ble_eq_true rfl, Nat.le_of_ble_eq_true rfl⟩, trivial⟩
  · rintro ⟨b, σ, τ, n, pc, m⟩ Ret hP hK Gl hG
    try dsimp only at hP hK
    show Gl 0 (zent 7 [.ref 100, .int m, .ref (cond b 103 107)]) [] (0, 0) ((119, zSH, zRH, σ, τ))
    obtain ⟨⟨hn, h16, hp60, hnu, hfo, hin⟩, hkb, hkp⟩ := hP
    cases b
    · try dsimp only [cond_true, cond_false] at *
      have loop : ∀ (f v : Nat) (g : Int32) (B : Nat → Int32) (σ1 : zIn) (l5 l6 : Option Value), v + f = n → pMt (zPT σ) (σ 88) (σ 100 7) m (σ 107) v = some (g, B) → (∀ r, r ≠ 101 → r ≠ 107 → σ1 r = σ r) → σ1 107 = B → Gl 5 [some (.ref 100), some (.int m), some (.ref 107), some (.int g), some (.int (nI v)), l5, l6] [] (0, 0) (119, zSH, zRH, σ1, τ) := by
        intro f
        induction f with
        | zero =>
          intro v g B σ1 l5 l6 hv hM hfr hB
          have hvn : v = n := by omega
          rw [hvn] at hM
          rw [hvn]
          have h86 : σ1 86 3 = nI n := by rw [hfr 86 (by decide) (by decide)]; exact hn
          refine hG 40 _ _ _ _ _ ?_
          repeat (first
            | (conv => whnf
               try dsimp only
               try simp (decide := true) only [h86, zu_same, zu_ne1, zu_ne2, zu_row, zuL_same, zuL_ne1, zuL_ne2, zrow_n1, zx0, zx1, zx2, zx3, nI_1, Nat.reduceAdd, Nat.reduceMul, Int32.reduceAdd, Int32.reduceSub, Int32.reduceMul]
               first
               | refine ⟨vp_inb (by decide), ?_⟩
               | refine ⟨by with_reducible exact zi (by omega), ?_⟩
               | refine ⟨fun h => absurd h (by with_reducible exact nI_ge (by omega) (by omega)), fun _ => ?_⟩
               | refine ⟨fun _ => ?_, fun h => absurd (by with_reducible exact nI_le (by omega) (by omega)) h⟩
               | refine ⟨fun h => absurd h (by with_reducible exact nI_nlt (by omega) (by omega)), fun _ => ?_⟩
               | refine ⟨fun _ => ?_, fun h => absurd (by with_reducible exact nI_lt (by omega) (by omega)) h⟩
               | refine ⟨fun h => absurd h (by with_reducible exact nI_pos (by omega)), fun _ => ?_⟩
               | refine ⟨fun _ => ?_, fun h => absurd (by with_reducible exact nI_0le (by omega)) h⟩
               | refine ⟨fun h => absurd h (by decide), fun _ => ?_⟩
               | refine ⟨fun _ => ?_, fun h => absurd (by decide) h⟩
               | refine ⟨fun _ => ?_, fun h => absurd h (by decide)⟩
               | refine ⟨fun h => absurd (by decide) h, fun _ => ?_⟩
               | refine ⟨by decide, ?_⟩
               | refine ⟨rfl, ?_⟩)
            | (conv => whnf
               fail_if_success refine Exists.intro ?_ ?_
               simp only [h86]))
          try (conv => whnf)
          exact hK _ _ (Or.inr ⟨g, B, hM, rfl, σ1, rfl, hfr, hB⟩)
        | succ f ih =>
          intro v g B σ1 l5 l6 hv hM hfr hB
          have h86 : σ1 86 3 = nI n := by rw [hfr 86 (by decide) (by decide)]; exact hn
          have h88 : σ1 88 = σ 88 := hfr 88 (by decide) (by decide)
          have hda : σ1 100 7 = σ 100 7 := by rw [hfr 100 (by decide) (by decide)]
          have hpt : ∀ r, 18 ≤ r → r ≤ 21 → σ1 r = σ r := fun r h1 h2 => hfr r (by omega) (by omega)
          have hM1 : pMt (zPT σ) (σ 88) (σ 100 7) m (σ 107) (v + 1) = (if bt m v = true ∧ ¬ σ 88 v < 0 then
              (if pW (zPT σ) B (σ 88 v).toNatClampNeg = zBRK then none
               else some (pMx g (pAbs (pCh (pW (zPT σ) B (σ 88 v).toNatClampNeg) (B v) (σ 100 7))), fun u => if u = v then B v + pCh (pW (zPT σ) B (σ 88 v).toNatClampNeg) (B v) (σ 100 7) else B u))
            else some (g, B)) := by
            show (match pMt (zPT σ) (σ 88) (σ 100 7) m (σ 107) v with
              | none => none
              | some (g, B) => _) = _
            rw [hM]
          refine hG 100 _ _ _ _ _ ?_
          repeat (first
            | (conv => whnf
               try dsimp only
               try simp (decide := true) only [h86, zu_same, zu_ne1, zu_ne2, zu_row, zuL_same, zuL_ne1, zuL_ne2, zrow_n1, zx0, zx1, zx2, zx3, nI_1, Nat.reduceAdd, Nat.reduceMul, Int32.reduceAdd, Int32.reduceSub, Int32.reduceMul]
               first
               | refine ⟨vp_inb (by decide), ?_⟩
               | refine ⟨by with_reducible exact zi (by omega), ?_⟩
               | refine ⟨fun h => absurd h (by with_reducible exact nI_ge (by omega) (by omega)), fun _ => ?_⟩
               | refine ⟨fun _ => ?_, fun h => absurd (by with_reducible exact nI_le (by omega) (by omega)) h⟩
               | refine ⟨fun h => absurd h (by with_reducible exact nI_nlt (by omega) (by omega)), fun _ => ?_⟩
               | refine ⟨fun _ => ?_, fun h => absurd (by with_reducible exact nI_lt (by omega) (by omega)) h⟩
               | refine ⟨fun h => absurd h (by with_reducible exact nI_pos (by omega)), fun _ => ?_⟩
               | refine ⟨fun _ => ?_, fun h => absurd (by with_reducible exact nI_0le (by omega)) h⟩
               | refine ⟨fun h => absurd h (by decide), fun _ => ?_⟩
               | refine ⟨fun _ => ?_, fun h => absurd (by decide) h⟩
               | refine ⟨fun _ => ?_, fun h => absurd h (by decide)⟩
               | refine ⟨fun h => absurd (by decide) h, fun _ => ?_⟩
               | refine ⟨by decide, ?_⟩
               | refine ⟨rfl, ?_⟩)
            | (conv => whnf
               fail_if_success refine Exists.intro ?_ ?_
               simp only [h86]))
          try (conv => whnf)
          refine ⟨(m, nI v, (119, zSH, zRH, σ1, τ)), rfl, rfl, trivial, ?_⟩
          try dsimp only
          by_cases hb : bt m v = true
          · rw [if_neg (zbt_t (by omega) hb)]
            repeat (first
              | (conv => whnf
                 try dsimp only
                 try simp (decide := true) only [h86, zu_same, zu_ne1, zu_ne2, zu_row, zuL_same, zuL_ne1, zuL_ne2, zrow_n1, zx0, zx1, zx2, zx3, nI_1, Nat.reduceAdd, Nat.reduceMul, Int32.reduceAdd, Int32.reduceSub, Int32.reduceMul]
                 first
                 | refine ⟨vp_inb (by decide), ?_⟩
                 | refine ⟨by with_reducible exact zi (by omega), ?_⟩
                 | refine ⟨fun h => absurd h (by with_reducible exact nI_ge (by omega) (by omega)), fun _ => ?_⟩
                 | refine ⟨fun _ => ?_, fun h => absurd (by with_reducible exact nI_le (by omega) (by omega)) h⟩
                 | refine ⟨fun h => absurd h (by with_reducible exact nI_nlt (by omega) (by omega)), fun _ => ?_⟩
                 | refine ⟨fun _ => ?_, fun h => absurd (by with_reducible exact nI_lt (by omega) (by omega)) h⟩
                 | refine ⟨fun h => absurd h (by with_reducible exact nI_pos (by omega)), fun _ => ?_⟩
                 | refine ⟨fun _ => ?_, fun h => absurd (by with_reducible exact nI_0le (by omega)) h⟩
                 | refine ⟨fun h => absurd h (by decide), fun _ => ?_⟩
                 | refine ⟨fun _ => ?_, fun h => absurd (by decide) h⟩
                 | refine ⟨fun _ => ?_, fun h => absurd h (by decide)⟩
                 | refine ⟨fun h => absurd (by decide) h, fun _ => ?_⟩
                 | refine ⟨by decide, ?_⟩
                 | refine ⟨rfl, ?_⟩)
              | (conv => whnf
                 fail_if_success refine Exists.intro ?_ ?_
                 simp only [h86]))
            try (conv => whnf)
            refine ⟨(σ1, τ, nI v), rfl, rfl, zi (by omega), ?_⟩
            try dsimp only
            by_cases hc : σ 88 v < 0
            · rw [if_pos (show σ1 88 (nI v).toNatClampNeg < 0 by rw [nI_clamp (by omega), h88]; exact hc)]
              rw [if_neg (fun q => q.2 hc)] at hM1
              repeat (first
                | (conv => whnf
                   try dsimp only
                   try simp (decide := true) only [h86, zu_same, zu_ne1, zu_ne2, zu_row, zuL_same, zuL_ne1, zuL_ne2, zrow_n1, zx0, zx1, zx2, zx3, nI_1, Nat.reduceAdd, Nat.reduceMul, Int32.reduceAdd, Int32.reduceSub, Int32.reduceMul]
                   first
                   | refine ⟨vp_inb (by decide), ?_⟩
                   | refine ⟨by with_reducible exact zi (by omega), ?_⟩
                   | refine ⟨fun h => absurd h (by with_reducible exact nI_ge (by omega) (by omega)), fun _ => ?_⟩
                   | refine ⟨fun _ => ?_, fun h => absurd (by with_reducible exact nI_le (by omega) (by omega)) h⟩
                   | refine ⟨fun h => absurd h (by with_reducible exact nI_nlt (by omega) (by omega)), fun _ => ?_⟩
                   | refine ⟨fun _ => ?_, fun h => absurd (by with_reducible exact nI_lt (by omega) (by omega)) h⟩
                   | refine ⟨fun h => absurd h (by with_reducible exact nI_pos (by omega)), fun _ => ?_⟩
                   | refine ⟨fun _ => ?_, fun h => absurd (by with_reducible exact nI_0le (by omega)) h⟩
                   | refine ⟨fun h => absurd h (by decide), fun _ => ?_⟩
                   | refine ⟨fun _ => ?_, fun h => absurd (by decide) h⟩
                   | refine ⟨fun _ => ?_, fun h => absurd h (by decide)⟩
                   | refine ⟨fun h => absurd (by decide) h, fun _ => ?_⟩
                   | refine ⟨by decide, ?_⟩
                   | refine ⟨rfl, ?_⟩)
                | (conv => whnf
                   fail_if_success refine Exists.intro ?_ ?_
                   simp only [h86]))
              try (conv => whnf)
              try dsimp only
              try simp (decide := true) only [zu_same, zu_ne1, zu_ne2, zu_row, zuL_same, zuL_ne1, zuL_ne2, zrow_n1, zx0, zx1, zx2, zx3, nI_1, Nat.reduceAdd, Nat.reduceMul, Int32.reduceAdd, Int32.reduceSub, Int32.reduceMul]
              exact ih (v + 1) g B σ1 _ _ (by omega) hM1 hfr hB
            · rw [if_neg (show ¬ σ1 88 (nI v).toNatClampNeg < 0 by rw [nI_clamp (by omega), h88]; exact hc)]
              rw [if_pos ⟨hb, hc⟩] at hM1
              obtain ⟨g9, hg9, hg60⟩ := hfo v (by omega) hc
              rw [hg9, nI_clamp (by omega)] at hM1
              repeat (first
                | (conv => whnf
                   try dsimp only
                   try simp (decide := true) only [h86, h88, hg9, nI_clamp (show v < 2 ^ 31 by omega), zu_same, zu_ne1, zu_ne2, zu_row, zuL_same, zuL_ne1, zuL_ne2, zrow_n1, zx0, zx1, zx2, zx3, nI_1, Nat.reduceAdd, Nat.reduceMul, Int32.reduceAdd, Int32.reduceSub, Int32.reduceMul]
                   first
                   | refine ⟨vp_inb (by decide), ?_⟩
                   | refine ⟨by with_reducible exact zi (by omega), ?_⟩
                   | refine ⟨fun h => absurd h (by with_reducible exact nI_ge (by omega) (by omega)), fun _ => ?_⟩
                   | refine ⟨fun _ => ?_, fun h => absurd (by with_reducible exact nI_le (by omega) (by omega)) h⟩
                   | refine ⟨fun h => absurd h (by with_reducible exact nI_nlt (by omega) (by omega)), fun _ => ?_⟩
                   | refine ⟨fun _ => ?_, fun h => absurd (by with_reducible exact nI_lt (by omega) (by omega)) h⟩
                   | refine ⟨fun h => absurd h (by with_reducible exact nI_pos (by omega)), fun _ => ?_⟩
                   | refine ⟨fun _ => ?_, fun h => absurd (by with_reducible exact nI_0le (by omega)) h⟩
                   | refine ⟨fun h => absurd h (by decide), fun _ => ?_⟩
                   | refine ⟨fun _ => ?_, fun h => absurd (by decide) h⟩
                   | refine ⟨fun _ => ?_, fun h => absurd h (by decide)⟩
                   | refine ⟨fun h => absurd (by decide) h, fun _ => ?_⟩
                   | refine ⟨by decide, ?_⟩
                   | refine ⟨rfl, ?_⟩)
                | (conv => whnf
                   fail_if_success refine Exists.intro ?_ ?_
                   simp only [h86, h88, hg9, nI_clamp (show v < 2 ^ 31 by omega)]))
              try (conv => whnf)
              refine ⟨(false, σ1, τ, g9), rfl, rfl, ⟨by omega, pIn_cg hpt (hin g9 hg60)⟩, ?_⟩
              try dsimp only
              rintro _ _ ⟨e9, w, rfl⟩
              rw [show pW (zPT σ1) (σ1 (cond false 103 107)) g9 = pW (zPT σ) B g9 by rw [zPT_cg hpt]; exact congrArg (fun q => pW (zPT σ) q g9) hB] at e9
              subst e9
              generalize hxx : pW (zPT σ) B g9 = x at hM1
              have hBv : ∀ u, σ1 107 u = B u := fun u => congrFun hB u
              by_cases hxb : x = zBRK
              · rw [if_pos hxb] at hM1
                rw [hxb]
                repeat (first
                  | (conv => whnf
                     try dsimp only
                     try simp (decide := true) only [h86, zu_same, zu_ne1, zu_ne2, zu_row, zuL_same, zuL_ne1, zuL_ne2, zrow_n1, zx0, zx1, zx2, zx3, nI_1, Nat.reduceAdd, Nat.reduceMul, Int32.reduceAdd, Int32.reduceSub, Int32.reduceMul]
                     first
                     | refine ⟨vp_inb (by decide), ?_⟩
                     | refine ⟨by with_reducible exact zi (by omega), ?_⟩
                     | refine ⟨fun h => absurd h (by with_reducible exact nI_ge (by omega) (by omega)), fun _ => ?_⟩
                     | refine ⟨fun _ => ?_, fun h => absurd (by with_reducible exact nI_le (by omega) (by omega)) h⟩
                     | refine ⟨fun h => absurd h (by with_reducible exact nI_nlt (by omega) (by omega)), fun _ => ?_⟩
                     | refine ⟨fun _ => ?_, fun h => absurd (by with_reducible exact nI_lt (by omega) (by omega)) h⟩
                     | refine ⟨fun h => absurd h (by with_reducible exact nI_pos (by omega)), fun _ => ?_⟩
                     | refine ⟨fun _ => ?_, fun h => absurd (by with_reducible exact nI_0le (by omega)) h⟩
                     | refine ⟨fun h => absurd h (by decide), fun _ => ?_⟩
                     | refine ⟨fun _ => ?_, fun h => absurd (by decide) h⟩
                     | refine ⟨fun _ => ?_, fun h => absurd h (by decide)⟩
                     | refine ⟨fun h => absurd (by decide) h, fun _ => ?_⟩
                     | refine ⟨by decide, ?_⟩
                     | refine ⟨rfl, ?_⟩)
                  | (conv => whnf
                     fail_if_success refine Exists.intro ?_ ?_
                     simp only [h86]))
                try (conv => whnf)
                have hMn := pMt_none hM1 f
                rw [show v + 1 + f = n by omega] at hMn
                refine hK _ _ (Or.inl ⟨hMn, rfl, _, rfl, fun r h1 h2 => ?_, fun u hu => ?_⟩)
                · rw [← hfr r h1 h2]
                  exact zrow_ne h1
                · show σ1 107 u = σ 107 u
                  rw [hBv]
                  by_cases hun : u < n
                  · have : bt m u = false := by
                      cases hh : bt m u with
                      | false => rfl
                      | true => exact absurd ⟨hun, hh⟩ hu
                    exact pMt_out v g B hM u this
                  · exact pMt_hi v g B hM u (by omega)
              · rw [if_neg hxb] at hM1
                repeat (first
                  | (conv => whnf
                     try dsimp only
                     try simp (decide := true) only [h86, zu_same, zu_ne1, zu_ne2, zu_row, zuL_same, zuL_ne1, zuL_ne2, zrow_n1, zx0, zx1, zx2, zx3, nI_1, Nat.reduceAdd, Nat.reduceMul, Int32.reduceAdd, Int32.reduceSub, Int32.reduceMul]
                     first
                     | refine ⟨vp_inb (by decide), ?_⟩
                     | refine ⟨by with_reducible exact zi (by omega), ?_⟩
                     | refine ⟨fun h => absurd h (by with_reducible exact nI_ge (by omega) (by omega)), fun _ => ?_⟩
                     | refine ⟨fun _ => ?_, fun h => absurd (by with_reducible exact nI_le (by omega) (by omega)) h⟩
                     | refine ⟨fun h => absurd h (by with_reducible exact nI_nlt (by omega) (by omega)), fun _ => ?_⟩
                     | refine ⟨fun _ => ?_, fun h => absurd (by with_reducible exact nI_lt (by omega) (by omega)) h⟩
                     | refine ⟨fun h => absurd h (by with_reducible exact nI_pos (by omega)), fun _ => ?_⟩
                     | refine ⟨fun _ => ?_, fun h => absurd (by with_reducible exact nI_0le (by omega)) h⟩
                     | refine ⟨fun h => absurd h (by decide), fun _ => ?_⟩
                     | refine ⟨fun _ => ?_, fun h => absurd (by decide) h⟩
                     | refine ⟨fun _ => ?_, fun h => absurd h (by decide)⟩
                     | refine ⟨fun h => absurd (by decide) h, fun _ => ?_⟩
                     | refine ⟨by decide, ?_⟩
                     | refine ⟨rfl, ?_⟩)
                  | (conv => whnf
                     fail_if_success refine Exists.intro ?_ ?_
                     simp only [h86]))
                try (conv => whnf)
                refine ⟨fun _ => ?_, fun w => absurd w hxb⟩
                repeat (first
                  | (conv => whnf
                     try dsimp only
                     try simp (decide := true) only [h86, hda, hBv, nI_clamp (show v < 2 ^ 31 by omega), zu_same, zu_ne1, zu_ne2, zu_row, zuL_same, zuL_ne1, zuL_ne2, zrow_n1, zx0, zx1, zx2, zx3, nI_1, Nat.reduceAdd, Nat.reduceMul, Int32.reduceAdd, Int32.reduceSub, Int32.reduceMul]
                     first
                     | refine ⟨vp_inb (by decide), ?_⟩
                     | refine ⟨by with_reducible exact zi (by omega), ?_⟩
                     | refine ⟨fun h => absurd h (by with_reducible exact nI_ge (by omega) (by omega)), fun _ => ?_⟩
                     | refine ⟨fun _ => ?_, fun h => absurd (by with_reducible exact nI_le (by omega) (by omega)) h⟩
                     | refine ⟨fun h => absurd h (by with_reducible exact nI_nlt (by omega) (by omega)), fun _ => ?_⟩
                     | refine ⟨fun _ => ?_, fun h => absurd (by with_reducible exact nI_lt (by omega) (by omega)) h⟩
                     | refine ⟨fun h => absurd h (by with_reducible exact nI_pos (by omega)), fun _ => ?_⟩
                     | refine ⟨fun _ => ?_, fun h => absurd (by with_reducible exact nI_0le (by omega)) h⟩
                     | refine ⟨fun h => absurd h (by decide), fun _ => ?_⟩
                     | refine ⟨fun _ => ?_, fun h => absurd (by decide) h⟩
                     | refine ⟨fun _ => ?_, fun h => absurd h (by decide)⟩
                     | refine ⟨fun h => absurd (by decide) h, fun _ => ?_⟩
                     | refine ⟨by decide, ?_⟩
                     | refine ⟨rfl, ?_⟩)
                  | (conv => whnf
                     fail_if_success refine Exists.intro ?_ ?_
                     simp only [h86, hda, hBv, nI_clamp (show v < 2 ^ 31 by omega)]))
                try (conv => whnf)
                refine ⟨_, rfl, ?_⟩
                repeat (first
                  | (conv => whnf
                     try dsimp only
                     try simp (decide := true) only [h86, hda, hBv, nI_clamp (show v < 2 ^ 31 by omega), zu_same, zu_ne1, zu_ne2, zu_row, zuL_same, zuL_ne1, zuL_ne2, zrow_n1, zx0, zx1, zx2, zx3, nI_1, Nat.reduceAdd, Nat.reduceMul, Int32.reduceAdd, Int32.reduceSub, Int32.reduceMul]
                     first
                     | refine ⟨vp_inb (by decide), ?_⟩
                     | refine ⟨by with_reducible exact zi (by omega), ?_⟩
                     | refine ⟨fun h => absurd h (by with_reducible exact nI_ge (by omega) (by omega)), fun _ => ?_⟩
                     | refine ⟨fun _ => ?_, fun h => absurd (by with_reducible exact nI_le (by omega) (by omega)) h⟩
                     | refine ⟨fun h => absurd h (by with_reducible exact nI_nlt (by omega) (by omega)), fun _ => ?_⟩
                     | refine ⟨fun _ => ?_, fun h => absurd (by with_reducible exact nI_lt (by omega) (by omega)) h⟩
                     | refine ⟨fun h => absurd h (by with_reducible exact nI_pos (by omega)), fun _ => ?_⟩
                     | refine ⟨fun _ => ?_, fun h => absurd (by with_reducible exact nI_0le (by omega)) h⟩
                     | refine ⟨fun h => absurd h (by decide), fun _ => ?_⟩
                     | refine ⟨fun _ => ?_, fun h => absurd (by decide) h⟩
                     | refine ⟨fun _ => ?_, fun h => absurd h (by decide)⟩
                     | refine ⟨fun h => absurd (by decide) h, fun _ => ?_⟩
                     | refine ⟨by decide, ?_⟩
                     | refine ⟨rfl, ?_⟩)
                  | (conv => whnf
                     fail_if_success refine Exists.intro ?_ ?_
                     simp only [h86, hda, hBv, nI_clamp (show v < 2 ^ 31 by omega)]))
                try (conv => whnf)
                refine ⟨_, _, rfl, ?_⟩
                repeat (conv => whnf
                        try dsimp only
                        try simp (decide := true) only [zu_same, zu_ne1, zu_ne2, zu_row, zuL_same, zuL_ne1, zuL_ne2, zrow_n1, zx0, zx1, zx2, zx3, nI_1, Nat.reduceAdd, Nat.reduceMul, Int32.reduceAdd, Int32.reduceSub, Int32.reduceMul]
                        first
                        | refine ⟨vp_inb (by decide), ?_⟩
                        | refine ⟨by with_reducible exact zi (by omega), ?_⟩
                        | refine ⟨fun h => absurd h (by with_reducible exact nI_ge (by omega) (by omega)), fun _ => ?_⟩
                        | refine ⟨fun _ => ?_, fun h => absurd (by with_reducible exact nI_le (by omega) (by omega)) h⟩
                        | refine ⟨fun h => absurd h (by with_reducible exact nI_nlt (by omega) (by omega)), fun _ => ?_⟩
                        | refine ⟨fun _ => ?_, fun h => absurd (by with_reducible exact nI_lt (by omega) (by omega)) h⟩
                        | refine ⟨fun h => absurd h (by with_reducible exact nI_pos (by omega)), fun _ => ?_⟩
                        | refine ⟨fun _ => ?_, fun h => absurd (by with_reducible exact nI_0le (by omega)) h⟩
                        | refine ⟨fun h => absurd h (by decide), fun _ => ?_⟩
                        | refine ⟨fun _ => ?_, fun h => absurd (by decide) h⟩
                        | refine ⟨fun _ => ?_, fun h => absurd h (by decide)⟩
                        | refine ⟨fun h => absurd (by decide) h, fun _ => ?_⟩
                        | refine ⟨by decide, ?_⟩
                        | refine ⟨rfl, ?_⟩)
                try (conv => whnf)
                try dsimp only
                try simp (decide := true) only [zu_same, zu_ne1, zu_ne2, zu_row, zuL_same, zuL_ne1, zuL_ne2, zrow_n1, zx0, zx1, zx2, zx3, nI_1, Nat.reduceAdd, Nat.reduceMul, Int32.reduceAdd, Int32.reduceSub, Int32.reduceMul]
                refine ih (v + 1) _ _ _ _ _ (by omega) hM1 (fun r h1 h2 => ?_) ?_
                · rw [zu_row h2, zrow_ne h1]
                  exact hfr r h1 h2
                · rw [zu_row_eq]
                  funext u
                  show (if u = v then _ else σ1 107 u) = _
                  rw [hBv]
                  rfl
          · rw [if_pos (zbt_f (by omega) hb)]
            rw [if_neg (fun q => hb q.1)] at hM1
            repeat (first
              | (conv => whnf
                 try dsimp only
                 try simp (decide := true) only [h86, zu_same, zu_ne1, zu_ne2, zu_row, zuL_same, zuL_ne1, zuL_ne2, zrow_n1, zx0, zx1, zx2, zx3, nI_1, Nat.reduceAdd, Nat.reduceMul, Int32.reduceAdd, Int32.reduceSub, Int32.reduceMul]
                 first
                 | refine ⟨vp_inb (by decide), ?_⟩
                 | refine ⟨by with_reducible exact zi (by omega), ?_⟩
                 | refine ⟨fun h => absurd h (by with_reducible exact nI_ge (by omega) (by omega)), fun _ => ?_⟩
                 | refine ⟨fun _ => ?_, fun h => absurd (by with_reducible exact nI_le (by omega) (by omega)) h⟩
                 | refine ⟨fun h => absurd h (by with_reducible exact nI_nlt (by omega) (by omega)), fun _ => ?_⟩
                 | refine ⟨fun _ => ?_, fun h => absurd (by with_reducible exact nI_lt (by omega) (by omega)) h⟩
                 | refine ⟨fun h => absurd h (by with_reducible exact nI_pos (by omega)), fun _ => ?_⟩
                 | refine ⟨fun _ => ?_, fun h => absurd (by with_reducible exact nI_0le (by omega)) h⟩
                 | refine ⟨fun h => absurd h (by decide), fun _ => ?_⟩
                 | refine ⟨fun _ => ?_, fun h => absurd (by decide) h⟩
                 | refine ⟨fun _ => ?_, fun h => absurd h (by decide)⟩
                 | refine ⟨fun h => absurd (by decide) h, fun _ => ?_⟩
                 | refine ⟨by decide, ?_⟩
                 | refine ⟨rfl, ?_⟩)
              | (conv => whnf
                 fail_if_success refine Exists.intro ?_ ?_
                 simp only [h86]))
            try (conv => whnf)
            try dsimp only
            try simp (decide := true) only [zu_same, zu_ne1, zu_ne2, zu_row, zuL_same, zuL_ne1, zuL_ne2, zrow_n1, zx0, zx1, zx2, zx3, nI_1, Nat.reduceAdd, Nat.reduceMul, Int32.reduceAdd, Int32.reduceSub, Int32.reduceMul]
            exact ih (v + 1) g B σ1 _ _ (by omega) hM1 hfr hB
      refine hG 40 _ _ _ _ _ ?_
      repeat (conv => whnf
              try dsimp only
              try simp (decide := true) only [zu_same, zu_ne1, zu_ne2, zu_row, zuL_same, zuL_ne1, zuL_ne2, zrow_n1, zx0, zx1, zx2, zx3, nI_1, Nat.reduceAdd, Nat.reduceMul, Int32.reduceAdd, Int32.reduceSub, Int32.reduceMul]
              first
              | refine ⟨vp_inb (by decide), ?_⟩
              | refine ⟨by with_reducible exact zi (by omega), ?_⟩
              | refine ⟨fun h => absurd h (by with_reducible exact nI_ge (by omega) (by omega)), fun _ => ?_⟩
              | refine ⟨fun _ => ?_, fun h => absurd (by with_reducible exact nI_le (by omega) (by omega)) h⟩
              | refine ⟨fun h => absurd h (by with_reducible exact nI_nlt (by omega) (by omega)), fun _ => ?_⟩
              | refine ⟨fun _ => ?_, fun h => absurd (by with_reducible exact nI_lt (by omega) (by omega)) h⟩
              | refine ⟨fun h => absurd h (by with_reducible exact nI_pos (by omega)), fun _ => ?_⟩
              | refine ⟨fun _ => ?_, fun h => absurd (by with_reducible exact nI_0le (by omega)) h⟩
              | refine ⟨fun h => absurd h (by decide), fun _ => ?_⟩
              | refine ⟨fun _ => ?_, fun h => absurd (by decide) h⟩
              | refine ⟨fun _ => ?_, fun h => absurd h (by decide)⟩
              | refine ⟨fun h => absurd (by decide) h, fun _ => ?_⟩
              | refine ⟨by decide, ?_⟩
              | refine ⟨rfl, ?_⟩)
      try (conv => whnf)
      exact loop n 0 0 (σ 107) σ none none (by omega) rfl (fun _ _ _ => rfl) rfl
    · try dsimp only [cond_true, cond_false] at *
      have loop : ∀ (f v : Nat) (g : Int32) (B : Nat → Int32) (σ1 : zIn) (l5 l6 : Option Value), v + f = n → pMt (zPT σ) (σ 88) (σ 100 7) m (σ 103) v = some (g, B) → (∀ r, r ≠ 101 → r ≠ 103 → σ1 r = σ r) → σ1 103 = B → Gl 5 [some (.ref 100), some (.int m), some (.ref 103), some (.int g), some (.int (nI v)), l5, l6] [] (0, 0) (119, zSH, zRH, σ1, τ) := by
        intro f
        induction f with
        | zero =>
          intro v g B σ1 l5 l6 hv hM hfr hB
          have hvn : v = n := by omega
          rw [hvn] at hM
          rw [hvn]
          have h86 : σ1 86 3 = nI n := by rw [hfr 86 (by decide) (by decide)]; exact hn
          refine hG 40 _ _ _ _ _ ?_
          repeat (first
            | (conv => whnf
               try dsimp only
               try simp (decide := true) only [h86, zu_same, zu_ne1, zu_ne2, zu_row, zuL_same, zuL_ne1, zuL_ne2, zrow_n1, zx0, zx1, zx2, zx3, nI_1, Nat.reduceAdd, Nat.reduceMul, Int32.reduceAdd, Int32.reduceSub, Int32.reduceMul]
               first
               | refine ⟨vp_inb (by decide), ?_⟩
               | refine ⟨by with_reducible exact zi (by omega), ?_⟩
               | refine ⟨fun h => absurd h (by with_reducible exact nI_ge (by omega) (by omega)), fun _ => ?_⟩
               | refine ⟨fun _ => ?_, fun h => absurd (by with_reducible exact nI_le (by omega) (by omega)) h⟩
               | refine ⟨fun h => absurd h (by with_reducible exact nI_nlt (by omega) (by omega)), fun _ => ?_⟩
               | refine ⟨fun _ => ?_, fun h => absurd (by with_reducible exact nI_lt (by omega) (by omega)) h⟩
               | refine ⟨fun h => absurd h (by with_reducible exact nI_pos (by omega)), fun _ => ?_⟩
               | refine ⟨fun _ => ?_, fun h => absurd (by with_reducible exact nI_0le (by omega)) h⟩
               | refine ⟨fun h => absurd h (by decide), fun _ => ?_⟩
               | refine ⟨fun _ => ?_, fun h => absurd (by decide) h⟩
               | refine ⟨fun _ => ?_, fun h => absurd h (by decide)⟩
               | refine ⟨fun h => absurd (by decide) h, fun _ => ?_⟩
               | refine ⟨by decide, ?_⟩
               | refine ⟨rfl, ?_⟩)
            | (conv => whnf
               fail_if_success refine Exists.intro ?_ ?_
               simp only [h86]))
          try (conv => whnf)
          exact hK _ _ (Or.inr ⟨g, B, hM, rfl, σ1, rfl, hfr, hB⟩)
        | succ f ih =>
          intro v g B σ1 l5 l6 hv hM hfr hB
          have h86 : σ1 86 3 = nI n := by rw [hfr 86 (by decide) (by decide)]; exact hn
          have h88 : σ1 88 = σ 88 := hfr 88 (by decide) (by decide)
          have hda : σ1 100 7 = σ 100 7 := by rw [hfr 100 (by decide) (by decide)]
          have hpt : ∀ r, 18 ≤ r → r ≤ 21 → σ1 r = σ r := fun r h1 h2 => hfr r (by omega) (by omega)
          have hM1 : pMt (zPT σ) (σ 88) (σ 100 7) m (σ 103) (v + 1) = (if bt m v = true ∧ ¬ σ 88 v < 0 then
              (if pW (zPT σ) B (σ 88 v).toNatClampNeg = zBRK then none
               else some (pMx g (pAbs (pCh (pW (zPT σ) B (σ 88 v).toNatClampNeg) (B v) (σ 100 7))), fun u => if u = v then B v + pCh (pW (zPT σ) B (σ 88 v).toNatClampNeg) (B v) (σ 100 7) else B u))
            else some (g, B)) := by
            show (match pMt (zPT σ) (σ 88) (σ 100 7) m (σ 103) v with
              | none => none
              | some (g, B) => _) = _
            rw [hM]
          refine hG 100 _ _ _ _ _ ?_
          repeat (first
            | (conv => whnf
               try dsimp only
               try simp (decide := true) only [h86, zu_same, zu_ne1, zu_ne2, zu_row, zuL_same, zuL_ne1, zuL_ne2, zrow_n1, zx0, zx1, zx2, zx3, nI_1, Nat.reduceAdd, Nat.reduceMul, Int32.reduceAdd, Int32.reduceSub, Int32.reduceMul]
               first
               | refine ⟨vp_inb (by decide), ?_⟩
               | refine ⟨by with_reducible exact zi (by omega), ?_⟩
               | refine ⟨fun h => absurd h (by with_reducible exact nI_ge (by omega) (by omega)), fun _ => ?_⟩
               | refine ⟨fun _ => ?_, fun h => absurd (by with_reducible exact nI_le (by omega) (by omega)) h⟩
               | refine ⟨fun h => absurd h (by with_reducible exact nI_nlt (by omega) (by omega)), fun _ => ?_⟩
               | refine ⟨fun _ => ?_, fun h => absurd (by with_reducible exact nI_lt (by omega) (by omega)) h⟩
               | refine ⟨fun h => absurd h (by with_reducible exact nI_pos (by omega)), fun _ => ?_⟩
               | refine ⟨fun _ => ?_, fun h => absurd (by with_reducible exact nI_0le (by omega)) h⟩
               | refine ⟨fun h => absurd h (by decide), fun _ => ?_⟩
               | refine ⟨fun _ => ?_, fun h => absurd (by decide) h⟩
               | refine ⟨fun _ => ?_, fun h => absurd h (by decide)⟩
               | refine ⟨fun h => absurd (by decide) h, fun _ => ?_⟩
               | refine ⟨by decide, ?_⟩
               | refine ⟨rfl, ?_⟩)
            | (conv => whnf
               fail_if_success refine Exists.intro ?_ ?_
               simp only [h86]))
          try (conv => whnf)
          refine ⟨(m, nI v, (119, zSH, zRH, σ1, τ)), rfl, rfl, trivial, ?_⟩
          try dsimp only
          by_cases hb : bt m v = true
          · rw [if_neg (zbt_t (by omega) hb)]
            repeat (first
              | (conv => whnf
                 try dsimp only
                 try simp (decide := true) only [h86, zu_same, zu_ne1, zu_ne2, zu_row, zuL_same, zuL_ne1, zuL_ne2, zrow_n1, zx0, zx1, zx2, zx3, nI_1, Nat.reduceAdd, Nat.reduceMul, Int32.reduceAdd, Int32.reduceSub, Int32.reduceMul]
                 first
                 | refine ⟨vp_inb (by decide), ?_⟩
                 | refine ⟨by with_reducible exact zi (by omega), ?_⟩
                 | refine ⟨fun h => absurd h (by with_reducible exact nI_ge (by omega) (by omega)), fun _ => ?_⟩
                 | refine ⟨fun _ => ?_, fun h => absurd (by with_reducible exact nI_le (by omega) (by omega)) h⟩
                 | refine ⟨fun h => absurd h (by with_reducible exact nI_nlt (by omega) (by omega)), fun _ => ?_⟩
                 | refine ⟨fun _ => ?_, fun h => absurd (by with_reducible exact nI_lt (by omega) (by omega)) h⟩
                 | refine ⟨fun h => absurd h (by with_reducible exact nI_pos (by omega)), fun _ => ?_⟩
                 | refine ⟨fun _ => ?_, fun h => absurd (by with_reducible exact nI_0le (by omega)) h⟩
                 | refine ⟨fun h => absurd h (by decide), fun _ => ?_⟩
                 | refine ⟨fun _ => ?_, fun h => absurd (by decide) h⟩
                 | refine ⟨fun _ => ?_, fun h => absurd h (by decide)⟩
                 | refine ⟨fun h => absurd (by decide) h, fun _ => ?_⟩
                 | refine ⟨by decide, ?_⟩
                 | refine ⟨rfl, ?_⟩)
              | (conv => whnf
                 fail_if_success refine Exists.intro ?_ ?_
                 simp only [h86]))
            try (conv => whnf)
            refine ⟨(σ1, τ, nI v), rfl, rfl, zi (by omega), ?_⟩
            try dsimp only
            by_cases hc : σ 88 v < 0
            · rw [if_pos (show σ1 88 (nI v).toNatClampNeg < 0 by rw [nI_clamp (by omega), h88]; exact hc)]
              rw [if_neg (fun q => q.2 hc)] at hM1
              repeat (first
                | (conv => whnf
                   try dsimp only
                   try simp (decide := true) only [h86, zu_same, zu_ne1, zu_ne2, zu_row, zuL_same, zuL_ne1, zuL_ne2, zrow_n1, zx0, zx1, zx2, zx3, nI_1, Nat.reduceAdd, Nat.reduceMul, Int32.reduceAdd, Int32.reduceSub, Int32.reduceMul]
                   first
                   | refine ⟨vp_inb (by decide), ?_⟩
                   | refine ⟨by with_reducible exact zi (by omega), ?_⟩
                   | refine ⟨fun h => absurd h (by with_reducible exact nI_ge (by omega) (by omega)), fun _ => ?_⟩
                   | refine ⟨fun _ => ?_, fun h => absurd (by with_reducible exact nI_le (by omega) (by omega)) h⟩
                   | refine ⟨fun h => absurd h (by with_reducible exact nI_nlt (by omega) (by omega)), fun _ => ?_⟩
                   | refine ⟨fun _ => ?_, fun h => absurd (by with_reducible exact nI_lt (by omega) (by omega)) h⟩
                   | refine ⟨fun h => absurd h (by with_reducible exact nI_pos (by omega)), fun _ => ?_⟩
                   | refine ⟨fun _ => ?_, fun h => absurd (by with_reducible exact nI_0le (by omega)) h⟩
                   | refine ⟨fun h => absurd h (by decide), fun _ => ?_⟩
                   | refine ⟨fun _ => ?_, fun h => absurd (by decide) h⟩
                   | refine ⟨fun _ => ?_, fun h => absurd h (by decide)⟩
                   | refine ⟨fun h => absurd (by decide) h, fun _ => ?_⟩
                   | refine ⟨by decide, ?_⟩
                   | refine ⟨rfl, ?_⟩)
                | (conv => whnf
                   fail_if_success refine Exists.intro ?_ ?_
                   simp only [h86]))
              try (conv => whnf)
              try dsimp only
              try simp (decide := true) only [zu_same, zu_ne1, zu_ne2, zu_row, zuL_same, zuL_ne1, zuL_ne2, zrow_n1, zx0, zx1, zx2, zx3, nI_1, Nat.reduceAdd, Nat.reduceMul, Int32.reduceAdd, Int32.reduceSub, Int32.reduceMul]
              exact ih (v + 1) g B σ1 _ _ (by omega) hM1 hfr hB
            · rw [if_neg (show ¬ σ1 88 (nI v).toNatClampNeg < 0 by rw [nI_clamp (by omega), h88]; exact hc)]
              rw [if_pos ⟨hb, hc⟩] at hM1
              obtain ⟨g9, hg9, hg60⟩ := hfo v (by omega) hc
              rw [hg9, nI_clamp (by omega)] at hM1
              repeat (first
                | (conv => whnf
                   try dsimp only
                   try simp (decide := true) only [h86, h88, hg9, nI_clamp (show v < 2 ^ 31 by omega), zu_same, zu_ne1, zu_ne2, zu_row, zuL_same, zuL_ne1, zuL_ne2, zrow_n1, zx0, zx1, zx2, zx3, nI_1, Nat.reduceAdd, Nat.reduceMul, Int32.reduceAdd, Int32.reduceSub, Int32.reduceMul]
                   first
                   | refine ⟨vp_inb (by decide), ?_⟩
                   | refine ⟨by with_reducible exact zi (by omega), ?_⟩
                   | refine ⟨fun h => absurd h (by with_reducible exact nI_ge (by omega) (by omega)), fun _ => ?_⟩
                   | refine ⟨fun _ => ?_, fun h => absurd (by with_reducible exact nI_le (by omega) (by omega)) h⟩
                   | refine ⟨fun h => absurd h (by with_reducible exact nI_nlt (by omega) (by omega)), fun _ => ?_⟩
                   | refine ⟨fun _ => ?_, fun h => absurd (by with_reducible exact nI_lt (by omega) (by omega)) h⟩
                   | refine ⟨fun h => absurd h (by with_reducible exact nI_pos (by omega)), fun _ => ?_⟩
                   | refine ⟨fun _ => ?_, fun h => absurd (by with_reducible exact nI_0le (by omega)) h⟩
                   | refine ⟨fun h => absurd h (by decide), fun _ => ?_⟩
                   | refine ⟨fun _ => ?_, fun h => absurd (by decide) h⟩
                   | refine ⟨fun _ => ?_, fun h => absurd h (by decide)⟩
                   | refine ⟨fun h => absurd (by decide) h, fun _ => ?_⟩
                   | refine ⟨by decide, ?_⟩
                   | refine ⟨rfl, ?_⟩)
                | (conv => whnf
                   fail_if_success refine Exists.intro ?_ ?_
                   simp only [h86, h88, hg9, nI_clamp (show v < 2 ^ 31 by omega)]))
              try (conv => whnf)
              refine ⟨(true, σ1, τ, g9), rfl, rfl, ⟨by omega, pIn_cg hpt (hin g9 hg60)⟩, ?_⟩
              try dsimp only
              rintro _ _ ⟨e9, w, rfl⟩
              rw [show pW (zPT σ1) (σ1 (cond true 103 107)) g9 = pW (zPT σ) B g9 by rw [zPT_cg hpt]; exact congrArg (fun q => pW (zPT σ) q g9) hB] at e9
              subst e9
              generalize hxx : pW (zPT σ) B g9 = x at hM1
              have hBv : ∀ u, σ1 103 u = B u := fun u => congrFun hB u
              by_cases hxb : x = zBRK
              · rw [if_pos hxb] at hM1
                rw [hxb]
                repeat (first
                  | (conv => whnf
                     try dsimp only
                     try simp (decide := true) only [h86, zu_same, zu_ne1, zu_ne2, zu_row, zuL_same, zuL_ne1, zuL_ne2, zrow_n1, zx0, zx1, zx2, zx3, nI_1, Nat.reduceAdd, Nat.reduceMul, Int32.reduceAdd, Int32.reduceSub, Int32.reduceMul]
                     first
                     | refine ⟨vp_inb (by decide), ?_⟩
                     | refine ⟨by with_reducible exact zi (by omega), ?_⟩
                     | refine ⟨fun h => absurd h (by with_reducible exact nI_ge (by omega) (by omega)), fun _ => ?_⟩
                     | refine ⟨fun _ => ?_, fun h => absurd (by with_reducible exact nI_le (by omega) (by omega)) h⟩
                     | refine ⟨fun h => absurd h (by with_reducible exact nI_nlt (by omega) (by omega)), fun _ => ?_⟩
                     | refine ⟨fun _ => ?_, fun h => absurd (by with_reducible exact nI_lt (by omega) (by omega)) h⟩
                     | refine ⟨fun h => absurd h (by with_reducible exact nI_pos (by omega)), fun _ => ?_⟩
                     | refine ⟨fun _ => ?_, fun h => absurd (by with_reducible exact nI_0le (by omega)) h⟩
                     | refine ⟨fun h => absurd h (by decide), fun _ => ?_⟩
                     | refine ⟨fun _ => ?_, fun h => absurd (by decide) h⟩
                     | refine ⟨fun _ => ?_, fun h => absurd h (by decide)⟩
                     | refine ⟨fun h => absurd (by decide) h, fun _ => ?_⟩
                     | refine ⟨by decide, ?_⟩
                     | refine ⟨rfl, ?_⟩)
                  | (conv => whnf
                     fail_if_success refine Exists.intro ?_ ?_
                     simp only [h86]))
                try (conv => whnf)
                have hMn := pMt_none hM1 f
                rw [show v + 1 + f = n by omega] at hMn
                refine hK _ _ (Or.inl ⟨hMn, rfl, _, rfl, fun r h1 h2 => ?_, fun u hu => ?_⟩)
                · rw [← hfr r h1 h2]
                  exact zrow_ne h1
                · show σ1 103 u = σ 103 u
                  rw [hBv]
                  by_cases hun : u < n
                  · have : bt m u = false := by
                      cases hh : bt m u with
                      | false => rfl
                      | true => exact absurd ⟨hun, hh⟩ hu
                    exact pMt_out v g B hM u this
                  · exact pMt_hi v g B hM u (by omega)
              · rw [if_neg hxb] at hM1
                repeat (first
                  | (conv => whnf
                     try dsimp only
                     try simp (decide := true) only [h86, zu_same, zu_ne1, zu_ne2, zu_row, zuL_same, zuL_ne1, zuL_ne2, zrow_n1, zx0, zx1, zx2, zx3, nI_1, Nat.reduceAdd, Nat.reduceMul, Int32.reduceAdd, Int32.reduceSub, Int32.reduceMul]
                     first
                     | refine ⟨vp_inb (by decide), ?_⟩
                     | refine ⟨by with_reducible exact zi (by omega), ?_⟩
                     | refine ⟨fun h => absurd h (by with_reducible exact nI_ge (by omega) (by omega)), fun _ => ?_⟩
                     | refine ⟨fun _ => ?_, fun h => absurd (by with_reducible exact nI_le (by omega) (by omega)) h⟩
                     | refine ⟨fun h => absurd h (by with_reducible exact nI_nlt (by omega) (by omega)), fun _ => ?_⟩
                     | refine ⟨fun _ => ?_, fun h => absurd (by with_reducible exact nI_lt (by omega) (by omega)) h⟩
                     | refine ⟨fun h => absurd h (by with_reducible exact nI_pos (by omega)), fun _ => ?_⟩
                     | refine ⟨fun _ => ?_, fun h => absurd (by with_reducible exact nI_0le (by omega)) h⟩
                     | refine ⟨fun h => absurd h (by decide), fun _ => ?_⟩
                     | refine ⟨fun _ => ?_, fun h => absurd (by decide) h⟩
                     | refine ⟨fun _ => ?_, fun h => absurd h (by decide)⟩
                     | refine ⟨fun h => absurd (by decide) h, fun _ => ?_⟩
                     | refine ⟨by decide, ?_⟩
                     | refine ⟨rfl, ?_⟩)
                  | (conv => whnf
                     fail_if_success refine Exists.intro ?_ ?_
                     simp only [h86]))
                try (conv => whnf)
                refine ⟨fun _ => ?_, fun w => absurd w hxb⟩
                repeat (first
                  | (conv => whnf
                     try dsimp only
                     try simp (decide := true) only [h86, hda, hBv, nI_clamp (show v < 2 ^ 31 by omega), zu_same, zu_ne1, zu_ne2, zu_row, zuL_same, zuL_ne1, zuL_ne2, zrow_n1, zx0, zx1, zx2, zx3, nI_1, Nat.reduceAdd, Nat.reduceMul, Int32.reduceAdd, Int32.reduceSub, Int32.reduceMul]
                     first
                     | refine ⟨vp_inb (by decide), ?_⟩
                     | refine ⟨by with_reducible exact zi (by omega), ?_⟩
                     | refine ⟨fun h => absurd h (by with_reducible exact nI_ge (by omega) (by omega)), fun _ => ?_⟩
                     | refine ⟨fun _ => ?_, fun h => absurd (by with_reducible exact nI_le (by omega) (by omega)) h⟩
                     | refine ⟨fun h => absurd h (by with_reducible exact nI_nlt (by omega) (by omega)), fun _ => ?_⟩
                     | refine ⟨fun _ => ?_, fun h => absurd (by with_reducible exact nI_lt (by omega) (by omega)) h⟩
                     | refine ⟨fun h => absurd h (by with_reducible exact nI_pos (by omega)), fun _ => ?_⟩
                     | refine ⟨fun _ => ?_, fun h => absurd (by with_reducible exact nI_0le (by omega)) h⟩
                     | refine ⟨fun h => absurd h (by decide), fun _ => ?_⟩
                     | refine ⟨fun _ => ?_, fun h => absurd (by decide) h⟩
                     | refine ⟨fun _ => ?_, fun h => absurd h (by decide)⟩
                     | refine ⟨fun h => absurd (by decide) h, fun _ => ?_⟩
                     | refine ⟨by decide, ?_⟩
                     | refine ⟨rfl, ?_⟩)
                  | (conv => whnf
                     fail_if_success refine Exists.intro ?_ ?_
                     simp only [h86, hda, hBv, nI_clamp (show v < 2 ^ 31 by omega)]))
                try (conv => whnf)
                refine ⟨_, rfl, ?_⟩
                repeat (first
                  | (conv => whnf
                     try dsimp only
                     try simp (decide := true) only [h86, hda, hBv, nI_clamp (show v < 2 ^ 31 by omega), zu_same, zu_ne1, zu_ne2, zu_row, zuL_same, zuL_ne1, zuL_ne2, zrow_n1, zx0, zx1, zx2, zx3, nI_1, Nat.reduceAdd, Nat.reduceMul, Int32.reduceAdd, Int32.reduceSub, Int32.reduceMul]
                     first
                     | refine ⟨vp_inb (by decide), ?_⟩
                     | refine ⟨by with_reducible exact zi (by omega), ?_⟩
                     | refine ⟨fun h => absurd h (by with_reducible exact nI_ge (by omega) (by omega)), fun _ => ?_⟩
                     | refine ⟨fun _ => ?_, fun h => absurd (by with_reducible exact nI_le (by omega) (by omega)) h⟩
                     | refine ⟨fun h => absurd h (by with_reducible exact nI_nlt (by omega) (by omega)), fun _ => ?_⟩
                     | refine ⟨fun _ => ?_, fun h => absurd (by with_reducible exact nI_lt (by omega) (by omega)) h⟩
                     | refine ⟨fun h => absurd h (by with_reducible exact nI_pos (by omega)), fun _ => ?_⟩
                     | refine ⟨fun _ => ?_, fun h => absurd (by with_reducible exact nI_0le (by omega)) h⟩
                     | refine ⟨fun h => absurd h (by decide), fun _ => ?_⟩
                     | refine ⟨fun _ => ?_, fun h => absurd (by decide) h⟩
                     | refine ⟨fun _ => ?_, fun h => absurd h (by decide)⟩
                     | refine ⟨fun h => absurd (by decide) h, fun _ => ?_⟩
                     | refine ⟨by decide, ?_⟩
                     | refine ⟨rfl, ?_⟩)
                  | (conv => whnf
                     fail_if_success refine Exists.intro ?_ ?_
                     simp only [h86, hda, hBv, nI_clamp (show v < 2 ^ 31 by omega)]))
                try (conv => whnf)
                refine ⟨_, _, rfl, ?_⟩
                repeat (conv => whnf
                        try dsimp only
                        try simp (decide := true) only [zu_same, zu_ne1, zu_ne2, zu_row, zuL_same, zuL_ne1, zuL_ne2, zrow_n1, zx0, zx1, zx2, zx3, nI_1, Nat.reduceAdd, Nat.reduceMul, Int32.reduceAdd, Int32.reduceSub, Int32.reduceMul]
                        first
                        | refine ⟨vp_inb (by decide), ?_⟩
                        | refine ⟨by with_reducible exact zi (by omega), ?_⟩
                        | refine ⟨fun h => absurd h (by with_reducible exact nI_ge (by omega) (by omega)), fun _ => ?_⟩
                        | refine ⟨fun _ => ?_, fun h => absurd (by with_reducible exact nI_le (by omega) (by omega)) h⟩
                        | refine ⟨fun h => absurd h (by with_reducible exact nI_nlt (by omega) (by omega)), fun _ => ?_⟩
                        | refine ⟨fun _ => ?_, fun h => absurd (by with_reducible exact nI_lt (by omega) (by omega)) h⟩
                        | refine ⟨fun h => absurd h (by with_reducible exact nI_pos (by omega)), fun _ => ?_⟩
                        | refine ⟨fun _ => ?_, fun h => absurd (by with_reducible exact nI_0le (by omega)) h⟩
                        | refine ⟨fun h => absurd h (by decide), fun _ => ?_⟩
                        | refine ⟨fun _ => ?_, fun h => absurd (by decide) h⟩
                        | refine ⟨fun _ => ?_, fun h => absurd h (by decide)⟩
                        | refine ⟨fun h => absurd (by decide) h, fun _ => ?_⟩
                        | refine ⟨by decide, ?_⟩
                        | refine ⟨rfl, ?_⟩)
                try (conv => whnf)
                try dsimp only
                try simp (decide := true) only [zu_same, zu_ne1, zu_ne2, zu_row, zuL_same, zuL_ne1, zuL_ne2, zrow_n1, zx0, zx1, zx2, zx3, nI_1, Nat.reduceAdd, Nat.reduceMul, Int32.reduceAdd, Int32.reduceSub, Int32.reduceMul]
                refine ih (v + 1) _ _ _ _ _ (by omega) hM1 (fun r h1 h2 => ?_) ?_
                · rw [zu_row h2, zrow_ne h1]
                  exact hfr r h1 h2
                · rw [zu_row_eq]
                  funext u
                  show (if u = v then _ else σ1 103 u) = _
                  rw [hBv]
                  rfl
          · rw [if_pos (zbt_f (by omega) hb)]
            rw [if_neg (fun q => hb q.1)] at hM1
            repeat (first
              | (conv => whnf
                 try dsimp only
                 try simp (decide := true) only [h86, zu_same, zu_ne1, zu_ne2, zu_row, zuL_same, zuL_ne1, zuL_ne2, zrow_n1, zx0, zx1, zx2, zx3, nI_1, Nat.reduceAdd, Nat.reduceMul, Int32.reduceAdd, Int32.reduceSub, Int32.reduceMul]
                 first
                 | refine ⟨vp_inb (by decide), ?_⟩
                 | refine ⟨by with_reducible exact zi (by omega), ?_⟩
                 | refine ⟨fun h => absurd h (by with_reducible exact nI_ge (by omega) (by omega)), fun _ => ?_⟩
                 | refine ⟨fun _ => ?_, fun h => absurd (by with_reducible exact nI_le (by omega) (by omega)) h⟩
                 | refine ⟨fun h => absurd h (by with_reducible exact nI_nlt (by omega) (by omega)), fun _ => ?_⟩
                 | refine ⟨fun _ => ?_, fun h => absurd (by with_reducible exact nI_lt (by omega) (by omega)) h⟩
                 | refine ⟨fun h => absurd h (by with_reducible exact nI_pos (by omega)), fun _ => ?_⟩
                 | refine ⟨fun _ => ?_, fun h => absurd (by with_reducible exact nI_0le (by omega)) h⟩
                 | refine ⟨fun h => absurd h (by decide), fun _ => ?_⟩
                 | refine ⟨fun _ => ?_, fun h => absurd (by decide) h⟩
                 | refine ⟨fun _ => ?_, fun h => absurd h (by decide)⟩
                 | refine ⟨fun h => absurd (by decide) h, fun _ => ?_⟩
                 | refine ⟨by decide, ?_⟩
                 | refine ⟨rfl, ?_⟩)
              | (conv => whnf
                 fail_if_success refine Exists.intro ?_ ?_
                 simp only [h86]))
            try (conv => whnf)
            try dsimp only
            try simp (decide := true) only [zu_same, zu_ne1, zu_ne2, zu_row, zuL_same, zuL_ne1, zuL_ne2, zrow_n1, zx0, zx1, zx2, zx3, nI_1, Nat.reduceAdd, Nat.reduceMul, Int32.reduceAdd, Int32.reduceSub, Int32.reduceMul]
            exact ih (v + 1) g B σ1 _ _ (by omega) hM1 hfr hB
      refine hG 40 _ _ _ _ _ ?_
      repeat (conv => whnf
              try dsimp only
              try simp (decide := true) only [zu_same, zu_ne1, zu_ne2, zu_row, zuL_same, zuL_ne1, zuL_ne2, zrow_n1, zx0, zx1, zx2, zx3, nI_1, Nat.reduceAdd, Nat.reduceMul, Int32.reduceAdd, Int32.reduceSub, Int32.reduceMul]
              first
              | refine ⟨vp_inb (by decide), ?_⟩
              | refine ⟨by with_reducible exact zi (by omega), ?_⟩
              | refine ⟨fun h => absurd h (by with_reducible exact nI_ge (by omega) (by omega)), fun _ => ?_⟩
              | refine ⟨fun _ => ?_, fun h => absurd (by with_reducible exact nI_le (by omega) (by omega)) h⟩
              | refine ⟨fun h => absurd h (by with_reducible exact nI_nlt (by omega) (by omega)), fun _ => ?_⟩
              | refine ⟨fun _ => ?_, fun h => absurd (by with_reducible exact nI_lt (by omega) (by omega)) h⟩
              | refine ⟨fun h => absurd h (by with_reducible exact nI_pos (by omega)), fun _ => ?_⟩
              | refine ⟨fun _ => ?_, fun h => absurd (by with_reducible exact nI_0le (by omega)) h⟩
              | refine ⟨fun h => absurd h (by decide), fun _ => ?_⟩
              | refine ⟨fun _ => ?_, fun h => absurd (by decide) h⟩
              | refine ⟨fun _ => ?_, fun h => absurd h (by decide)⟩
              | refine ⟨fun h => absurd (by decide) h, fun _ => ?_⟩
              | refine ⟨by decide, ?_⟩
              | refine ⟨rfl, ?_⟩)
      try (conv => whnf)
      exact loop n 0 0 (σ 103) σ none none (by omega) rfl (fun _ _ _ => rfl) rfl

/-! ===== the law: what moves an amount ===== -/
set_option maxRecDepth 100000
set_option maxHeartbeats 4000000
theorem fSh_kp {x : Int32} (h : kb x) : fSh x ≤ 1000000000 ∧ -1000000000 ≤ fSh x := by
  have : kp (fSh x) := by
    unfold fSh
    by_cases e : x = zBRK
    · rw [if_pos e]
      exact kp0
    · rw [if_neg e]
      exact kb_kp h e
  exact ⟨Int32.le_iff_toInt_le.mpr this.2, Int32.le_iff_toInt_le.mpr this.1⟩
theorem kp_nb {x : Int32} (h : kp x) : ¬ x = zBRK := fun e => by
  rw [e] at h
  revert h
  unfold kp zBRK
  decide
theorem cW_q {σ σ1 : zIn} {n i v : Nat} {m : Int32} (h : cTq σ σ1) : cW σ1 n i v m = cW σ n i v m := cW_cg h
theorem cSl_q {σ σ1 : zIn} {n i v : Nat} (h : cTq σ σ1) : cSl σ1 n i v = cSl σ n i v := by
  unfold cSl cUp cDn
  rw [cW_q h, cW_q h, h 89 (by decide) (by decide)]
theorem sAt_self {S : Nat → Int32} {j : Nat} : sAt S j (S j) = S := by
  funext u
  unfold sAt
  by_cases e : u = j
  · rw [if_pos e, e]
  · rw [if_neg e]
theorem cW_self {σ : zIn} {τ : zLo} {pc j i : Nat} (h : gS σ τ 6 pc 4) (hi : i < 6) : cW σ 6 j i (σ 89 j) = σ 103 i := by
  unfold cW
  rw [sAt_self, (gS_so h).1 i hi]
/-- an input that is not noted broken has an amount -/
theorem inNb {σ : zIn} {τ : zLo} {pc v : Nat} (h : gS σ τ 6 pc 4) (hv : v < 6) (hf : σ 88 v < 0) : ¬ σ 103 v = zBRK := by
  obtain ⟨c, -, -, -, hb⟩ := gS_ft h
  have hnb : bt (σ 90 7) v = false := by
    cases e : bt (σ 90 7) v with
    | false => rfl
    | true => exact absurd hf (hb v e).2
  have e := pF_input (G := zMG σ) h.1.2.1 (σ 89) hv hf hnb
  rw [(gS_so h).1 v hv]
  unfold cF
  rw [show pF 6 (pRe 6 (σ 88) (σ 85)) (zMG σ) (σ 89) v = _ from e]
  exact kp_nb (fKept_kp _)
theorem notedB {σ : zIn} {τ : zLo} {pc v : Nat} (h : gS σ τ 6 pc 4) (hv : v < 6) (hb : bt (σ 90 7) v = true) : σ 103 v = zBRK := by
  rw [(gS_so h).1 v hv]
  exact pF_noted (G := zMG σ) h.1.2.1 (σ 89) hv hb
theorem sub0 {a b : Int32} : a - b = 0 ↔ a = b := ⟨fun h => by
  have := Int32.sub_add_cancel a b
  rw [h, Int32.zero_add] at this
  exact this.symm, fun h => by rw [h]; exact Int32.sub_self _⟩
theorem slopeF {σ : zIn} {τ : zLo} {pc i j : Nat} (h : gS σ τ 6 pc 4) (hi : i < 6) (hj : j < 6) (hneg : σ 88 j < 0) : (Op.cmpValue (FP.dcmp (cSl σ 6 j i) 0) .l = 0 ↔ bt (σ 112 i) j = false) := by
  have hMo := gS_mo h i hi j
  unfold cSl
  rw [(fp_div _).2, sub0]
  constructor
  · intro e
    cases eb : bt (σ 112 i) j with
    | false => rfl
    | true => exact absurd e (hMo.mp eb).2.2
  · intro e
    by_cases q : fSh (cW σ 6 j i (cUp σ j)) = fSh (cW σ 6 j i (cDn σ j))
    · exact q
    · have := hMo.mpr ⟨hj, hneg, q⟩
      rw [e] at this
      cases this
theorem kp_le {x : Int32} (h : kp x) : -1000000000 ≤ x ∧ x ≤ 1000000000 := ⟨Int32.le_iff_toInt_le.mpr h.1, Int32.le_iff_toInt_le.mpr h.2⟩
theorem lw_H (Gl : zK) (hG : zSt (zCL_lawH calH) [561, 595, 660, 684, 690] Gl) {q ti st m pc dr a b : Nat} {c5 : Int32} {Dg : Int64} (hκ : a ≤ 200000 ∧ b ≤ 2000000) {sh : zSh} {rf : zRf} {σ0 : zIn} {τ : zLo} (hS : lS m 4 6 sh rf) (h0 : gS σ0 τ 6 pc 4) (hq2 : sh q = (102, 16)) {i : Nat} (hi : i < 6)
    (h690 : ∀ (l15 l16 l17 : Option Value) (s : zIn) (t : zLo), wS m pc dr sh rf s t σ0 τ → wQ q s σ0 → Gl 690 [some (.ref zS), some (.int (nI ti)), some (.ref 0), some (.ref 1), some (.int (nI st)), some (.int c5), some (.long Dg), none, some (.int 63), some (.int (pGr (σ0 104) (cL σ0 6).length)), some (.int (nI (pBr (σ0 103) (i + 1)))), some (.ref q), some (.int (nI i)), some (.int (fSh (σ0 103 i))), some (.int (σ0 112 i)), l15, l16, l17] [] (a, b) (m, sh, rf, s, t)) :
    ∀ (l16 l17 : Option Value) (s : zIn) (t : zLo), wS m pc dr sh rf s t σ0 τ → wQ q s σ0 → (let j := 0; Gl 561 [some (.ref zS), some (.int (nI ti)), some (.ref 0), some (.ref 1), some (.int (nI st)), some (.int c5), some (.long Dg), none, some (.int 63), some (.int (pGr (σ0 104) (cL σ0 6).length)), some (.int (nI (pBr (σ0 103) (i + 1)))), some (.ref q), some (.int (nI i)), some (.int (fSh (σ0 103 i))), some (.int (σ0 112 i)), some (.int (nI j)), l16, l17] [] (a, b) (m, sh, rf, s, t)) := by
  obtain ⟨⟨hm, -⟩, hBs, h999, ⟨g0, -, h121, -⟩, ⟨r0, r1, -, r6, -⟩, -, hv9⟩ := id hS
  have hMo := gS_mo h0 i hi
  have h6 : ∀ u, bt (σ0 112 i) u = true → u < 6 := fun u hu => ((hMo u).mp hu).1
  have loop : ∀ (f j : Nat) (l16 l17 : Option Value) (s : zIn) (t : zLo), j + f = 6 → wS m pc dr sh rf s t σ0 τ → wQ q s σ0 → Gl 561 [some (.ref zS), some (.int (nI ti)), some (.ref 0), some (.ref 1), some (.int (nI st)), some (.int c5), some (.long Dg), none, some (.int 63), some (.int (pGr (σ0 104) (cL σ0 6).length)), some (.int (nI (pBr (σ0 103) (i + 1)))), some (.ref q), some (.int (nI i)), some (.int (fSh (σ0 103 i))), some (.int (σ0 112 i)), some (.int (nI j)), l16, l17] [] (a, b) (m, sh, rf, s, t) := by
    intro f
    induction f with
    | zero =>
      intro j l16 l17 s t hj hw hq
      rw [show j = 6 by omega]
      have f5 := (wS_f hw).1
      refine hG 40 _ _ _ _ _ ?_
      repeat (first
        | (conv => whnf
           try dsimp only
           try simp (decide := true) only [g0, f5, zu_same, zu_ne1, zu_ne2, zu_row, zuL_same, zuL_ne1, zuL_ne2, zrow_n1, zx0, zx1, zx2, zx3, nI_1, Nat.reduceAdd, Nat.reduceMul, Int32.reduceAdd, Int32.reduceSub, Int32.reduceMul]
           first
           | refine ⟨zrm (by assumption), ?_⟩
           | refine ⟨vp_inb (by decide), ?_⟩
           | refine ⟨by with_reducible exact zi (by omega), ?_⟩
           | refine ⟨fun h => absurd h (by with_reducible exact nI_ge (by omega) (by omega)), fun _ => ?_⟩
           | refine ⟨fun _ => ?_, fun h => absurd (by with_reducible exact nI_le (by omega) (by omega)) h⟩
           | refine ⟨fun h => absurd h (by with_reducible exact nI_nlt (by omega) (by omega)), fun _ => ?_⟩
           | refine ⟨fun _ => ?_, fun h => absurd (by with_reducible exact nI_lt (by omega) (by omega)) h⟩
           | refine ⟨fun h => absurd h (by with_reducible exact nI_pos (by omega)), fun _ => ?_⟩
           | refine ⟨fun _ => ?_, fun h => absurd (by with_reducible exact nI_0le (by omega)) h⟩
           | refine ⟨fun h => absurd h (by decide), fun _ => ?_⟩
           | refine ⟨fun _ => ?_, fun h => absurd (by decide) h⟩
           | refine ⟨fun _ => ?_, fun h => absurd h (by decide)⟩
           | refine ⟨fun h => absurd (by decide) h, fun _ => ?_⟩
           | refine ⟨by decide, ?_⟩
           | refine ⟨rfl, ?_⟩)
        | (conv => whnf
           fail_if_success refine Exists.intro ?_ ?_
           simp only [g0, f5]))
      try (conv => whnf)
      exact h690 _ _ _ s t hw hq
    | succ f ih =>
      intro j l16 l17 s t hj hw hq
      have hj6 : j < 6 := by omega
      have h684 : ∀ (l16 l17 : Option Value) (s : zIn) (t : zLo), wS m pc dr sh rf s t σ0 τ → wQ q s σ0 → Gl 684 [some (.ref zS), some (.int (nI ti)), some (.ref 0), some (.ref 1), some (.int (nI st)), some (.int c5), some (.long Dg), none, some (.int 63), some (.int (pGr (σ0 104) (cL σ0 6).length)), some (.int (nI (pBr (σ0 103) (i + 1)))), some (.ref q), some (.int (nI i)), some (.int (fSh (σ0 103 i))), some (.int (σ0 112 i)), some (.int (nI j)), l16, l17] [] (a, b) (m, sh, rf, s, t) := by
        intro l16 l17 s t hw hq
        refine hG 40 _ _ _ _ _ ?_
        repeat (conv => whnf
                try dsimp only
                try simp (decide := true) only [zu_same, zu_ne1, zu_ne2, zu_row, zuL_same, zuL_ne1, zuL_ne2, zrow_n1, zx0, zx1, zx2, zx3, nI_1, Nat.reduceAdd, Nat.reduceMul, Int32.reduceAdd, Int32.reduceSub, Int32.reduceMul]
                first
                | refine ⟨zrm (by assumption), ?_⟩
                | refine ⟨vp_inb (by decide), ?_⟩
                | refine ⟨by with_reducible exact zi (by omega), ?_⟩
                | refine ⟨fun h => absurd h (by with_reducible exact nI_ge (by omega) (by omega)), fun _ => ?_⟩
                | refine ⟨fun _ => ?_, fun h => absurd (by with_reducible exact nI_le (by omega) (by omega)) h⟩
                | refine ⟨fun h => absurd h (by with_reducible exact nI_nlt (by omega) (by omega)), fun _ => ?_⟩
                | refine ⟨fun _ => ?_, fun h => absurd (by with_reducible exact nI_lt (by omega) (by omega)) h⟩
                | refine ⟨fun h => absurd h (by with_reducible exact nI_pos (by omega)), fun _ => ?_⟩
                | refine ⟨fun _ => ?_, fun h => absurd (by with_reducible exact nI_0le (by omega)) h⟩
                | refine ⟨fun h => absurd h (by decide), fun _ => ?_⟩
                | refine ⟨fun _ => ?_, fun h => absurd (by decide) h⟩
                | refine ⟨fun _ => ?_, fun h => absurd h (by decide)⟩
                | refine ⟨fun h => absurd (by decide) h, fun _ => ?_⟩
                | refine ⟨by decide, ?_⟩
                | refine ⟨rfl, ?_⟩)
        try (conv => whnf)
        try dsimp only
        try simp (decide := true) only [zu_same, zu_ne1, zu_ne2, zu_row, zuL_same, zuL_ne1, zuL_ne2, zrow_n1, zx0, zx1, zx2, zx3, nI_1, Nat.reduceAdd, Nat.reduceMul, Int32.reduceAdd, Int32.reduceSub, Int32.reduceMul]
        exact ih (j + 1) _ _ s t (by omega) hw hq
      have f5 := (wS_f hw).1
      obtain ⟨w1, w2⟩ := hv9 j hj6
      have y1 := ((wS_f hw).2 j hj6).1
      by_cases hneg : σ0 88 j < 0
      · have h660 : ∀ (l16 l17 : Option Value) (s : zIn) (t : zLo), wS m pc dr sh rf s t σ0 τ → wQ q s σ0 → Gl 660 [some (.ref zS), some (.int (nI ti)), some (.ref 0), some (.ref 1), some (.int (nI st)), some (.int c5), some (.long Dg), none, some (.int 63), some (.int (pGr (σ0 104) (cL σ0 6).length)), some (.int (nI (pBr (σ0 103) (i + 1)))), some (.ref q), some (.int (nI i)), some (.int (fSh (σ0 103 i))), some (.int (σ0 112 i)), some (.int (nI j)), l16, l17] [] (a, b) (m, sh, rf, s, t) := by
          intro l16 l17 s t hw hq
          have y2 := ((wS_f hw).2 j hj6).2
          refine hG 40 _ _ _ _ _ ?_
          repeat (first
            | (conv => whnf
               try dsimp only
               try simp (decide := true) only [g0, r6, h121, w1, w2, y2, nI_clamp (show j < 2 ^ 31 by omega), zu_same, zu_ne1, zu_ne2, zu_row, zuL_same, zuL_ne1, zuL_ne2, zrow_n1, zx0, zx1, zx2, zx3, nI_1, Nat.reduceAdd, Nat.reduceMul, Int32.reduceAdd, Int32.reduceSub, Int32.reduceMul]
               first
               | refine ⟨zrm (by assumption), ?_⟩
               | refine ⟨vp_inb (by decide), ?_⟩
               | refine ⟨by with_reducible exact zi (by omega), ?_⟩
               | refine ⟨fun h => absurd h (by with_reducible exact nI_ge (by omega) (by omega)), fun _ => ?_⟩
               | refine ⟨fun _ => ?_, fun h => absurd (by with_reducible exact nI_le (by omega) (by omega)) h⟩
               | refine ⟨fun h => absurd h (by with_reducible exact nI_nlt (by omega) (by omega)), fun _ => ?_⟩
               | refine ⟨fun _ => ?_, fun h => absurd (by with_reducible exact nI_lt (by omega) (by omega)) h⟩
               | refine ⟨fun h => absurd h (by with_reducible exact nI_pos (by omega)), fun _ => ?_⟩
               | refine ⟨fun _ => ?_, fun h => absurd (by with_reducible exact nI_0le (by omega)) h⟩
               | refine ⟨fun h => absurd h (by decide), fun _ => ?_⟩
               | refine ⟨fun _ => ?_, fun h => absurd (by decide) h⟩
               | refine ⟨fun _ => ?_, fun h => absurd h (by decide)⟩
               | refine ⟨fun h => absurd (by decide) h, fun _ => ?_⟩
               | refine ⟨by decide, ?_⟩
               | refine ⟨rfl, ?_⟩)
            | (conv => whnf
               fail_if_success refine Exists.intro ?_ ?_
               simp only [g0, r6, h121, w1, w2, y2, nI_clamp (show j < 2 ^ 31 by omega)]))
          try (conv => whnf)
          obtain ⟨-, σx, hDx, hqx⟩ := id hw
          refine ⟨[.ref 0, .int (nI j), .int (nI i), .int (σ0 89 j)], σx, τ, rfl, rfl, hBs, hDx.1, (by show 120 ≤ m; omega), (σx, τ, 6, pc, 4, j, i, σ0 89 j), rfl, rfl, ⟨wS_gS h0 hqx, hj6, hi, by rw [hqx 88 (by decide) (by decide)]; exact hneg, kp_le (h0.1.2.2.2.1 j hj6).2⟩, ?_⟩
          try dsimp only
          rintro _ _ ⟨rfl, σ1, rfl, h1q⟩
          refine ⟨σ1, τ, rfl, rfl, fun s2 t2 hc hfr => ?_⟩
          replace hw := wS_q hS hDx hqx hc hfr h1q
          try replace hq := wq_f hfr hq
          clear hc hfr hDx h1q
          rw [cW_q hqx, cW_self h0 hi]
          clear hqx
          repeat (conv => whnf
                  try dsimp only
                  try simp (decide := true) only [zu_same, zu_ne1, zu_ne2, zu_row, zuL_same, zuL_ne1, zuL_ne2, zrow_n1, zx0, zx1, zx2, zx3, nI_1, Nat.reduceAdd, Nat.reduceMul, Int32.reduceAdd, Int32.reduceSub, Int32.reduceMul]
                  first
                  | refine ⟨zrm (by assumption), ?_⟩
                  | refine ⟨vp_inb (by decide), ?_⟩
                  | refine ⟨by with_reducible exact zi (by omega), ?_⟩
                  | refine ⟨fun h => absurd h (by with_reducible exact nI_ge (by omega) (by omega)), fun _ => ?_⟩
                  | refine ⟨fun _ => ?_, fun h => absurd (by with_reducible exact nI_le (by omega) (by omega)) h⟩
                  | refine ⟨fun h => absurd h (by with_reducible exact nI_nlt (by omega) (by omega)), fun _ => ?_⟩
                  | refine ⟨fun _ => ?_, fun h => absurd (by with_reducible exact nI_lt (by omega) (by omega)) h⟩
                  | refine ⟨fun h => absurd h (by with_reducible exact nI_pos (by omega)), fun _ => ?_⟩
                  | refine ⟨fun _ => ?_, fun h => absurd (by with_reducible exact nI_0le (by omega)) h⟩
                  | refine ⟨fun h => absurd h (by decide), fun _ => ?_⟩
                  | refine ⟨fun _ => ?_, fun h => absurd (by decide) h⟩
                  | refine ⟨fun _ => ?_, fun h => absurd h (by decide)⟩
                  | refine ⟨fun h => absurd (by decide) h, fun _ => ?_⟩
                  | refine ⟨by decide, ?_⟩
                  | refine ⟨rfl, ?_⟩)
          try (conv => whnf)
          exact h684 _ _ s2 t2 hw hq
        have h595 : Gl 595 [some (.ref zS), some (.int (nI ti)), some (.ref 0), some (.ref 1), some (.int (nI st)), some (.int c5), some (.long Dg), none, some (.int 63), some (.int (pGr (σ0 104) (cL σ0 6).length)), some (.int (nI (pBr (σ0 103) (i + 1)))), some (.ref q), some (.int (nI i)), some (.int (fSh (σ0 103 i))), some (.int (σ0 112 i)), some (.int (nI j)), l16, l17] [] (a, b) (m, sh, rf, s, t) := by
          refine hG 40 _ _ _ _ _ ?_
          repeat (first
            | (conv => whnf
               try dsimp only
               try simp (decide := true) only [g0, r6, h121, w1, w2, y1, nI_clamp (show j < 2 ^ 31 by omega), zu_same, zu_ne1, zu_ne2, zu_row, zuL_same, zuL_ne1, zuL_ne2, zrow_n1, zx0, zx1, zx2, zx3, nI_1, Nat.reduceAdd, Nat.reduceMul, Int32.reduceAdd, Int32.reduceSub, Int32.reduceMul]
               first
               | refine ⟨zrm (by assumption), ?_⟩
               | refine ⟨vp_inb (by decide), ?_⟩
               | refine ⟨by with_reducible exact zi (by omega), ?_⟩
               | refine ⟨fun h => absurd h (by with_reducible exact nI_ge (by omega) (by omega)), fun _ => ?_⟩
               | refine ⟨fun _ => ?_, fun h => absurd (by with_reducible exact nI_le (by omega) (by omega)) h⟩
               | refine ⟨fun h => absurd h (by with_reducible exact nI_nlt (by omega) (by omega)), fun _ => ?_⟩
               | refine ⟨fun _ => ?_, fun h => absurd (by with_reducible exact nI_lt (by omega) (by omega)) h⟩
               | refine ⟨fun h => absurd h (by with_reducible exact nI_pos (by omega)), fun _ => ?_⟩
               | refine ⟨fun _ => ?_, fun h => absurd (by with_reducible exact nI_0le (by omega)) h⟩
               | refine ⟨fun h => absurd h (by decide), fun _ => ?_⟩
               | refine ⟨fun _ => ?_, fun h => absurd (by decide) h⟩
               | refine ⟨fun _ => ?_, fun h => absurd h (by decide)⟩
               | refine ⟨fun h => absurd (by decide) h, fun _ => ?_⟩
               | refine ⟨by decide, ?_⟩
               | refine ⟨rfl, ?_⟩)
            | (conv => whnf
               fail_if_success refine Exists.intro ?_ ?_
               simp only [g0, r6, h121, w1, w2, y1, nI_clamp (show j < 2 ^ 31 by omega)]))
          try (conv => whnf)
          first | refine ⟨fun h => absurd hneg (Int32.not_lt.mpr h), fun _ => ?_⟩ | refine ⟨fun _ => ?_, fun h => absurd hneg h⟩
          repeat (conv => whnf
                  try dsimp only
                  try simp (decide := true) only [zu_same, zu_ne1, zu_ne2, zu_row, zuL_same, zuL_ne1, zuL_ne2, zrow_n1, zx0, zx1, zx2, zx3, nI_1, Nat.reduceAdd, Nat.reduceMul, Int32.reduceAdd, Int32.reduceSub, Int32.reduceMul]
                  first
                  | refine ⟨zrm (by assumption), ?_⟩
                  | refine ⟨vp_inb (by decide), ?_⟩
                  | refine ⟨by with_reducible exact zi (by omega), ?_⟩
                  | refine ⟨fun h => absurd h (by with_reducible exact nI_ge (by omega) (by omega)), fun _ => ?_⟩
                  | refine ⟨fun _ => ?_, fun h => absurd (by with_reducible exact nI_le (by omega) (by omega)) h⟩
                  | refine ⟨fun h => absurd h (by with_reducible exact nI_nlt (by omega) (by omega)), fun _ => ?_⟩
                  | refine ⟨fun _ => ?_, fun h => absurd (by with_reducible exact nI_lt (by omega) (by omega)) h⟩
                  | refine ⟨fun h => absurd h (by with_reducible exact nI_pos (by omega)), fun _ => ?_⟩
                  | refine ⟨fun _ => ?_, fun h => absurd (by with_reducible exact nI_0le (by omega)) h⟩
                  | refine ⟨fun h => absurd h (by decide), fun _ => ?_⟩
                  | refine ⟨fun _ => ?_, fun h => absurd (by decide) h⟩
                  | refine ⟨fun _ => ?_, fun h => absurd h (by decide)⟩
                  | refine ⟨fun h => absurd (by decide) h, fun _ => ?_⟩
                  | refine ⟨by decide, ?_⟩
                  | refine ⟨rfl, ?_⟩)
          try (conv => whnf)
          refine ⟨fun _ => ?_, fun _ => ?_⟩
          · skip
            repeat (conv => whnf
                    try dsimp only
                    try simp (decide := true) only [zu_same, zu_ne1, zu_ne2, zu_row, zuL_same, zuL_ne1, zuL_ne2, zrow_n1, zx0, zx1, zx2, zx3, nI_1, Nat.reduceAdd, Nat.reduceMul, Int32.reduceAdd, Int32.reduceSub, Int32.reduceMul]
                    first
                    | refine ⟨zrm (by assumption), ?_⟩
                    | refine ⟨vp_inb (by decide), ?_⟩
                    | refine ⟨by with_reducible exact zi (by omega), ?_⟩
                    | refine ⟨fun h => absurd h (by with_reducible exact nI_ge (by omega) (by omega)), fun _ => ?_⟩
                    | refine ⟨fun _ => ?_, fun h => absurd (by with_reducible exact nI_le (by omega) (by omega)) h⟩
                    | refine ⟨fun h => absurd h (by with_reducible exact nI_nlt (by omega) (by omega)), fun _ => ?_⟩
                    | refine ⟨fun _ => ?_, fun h => absurd (by with_reducible exact nI_lt (by omega) (by omega)) h⟩
                    | refine ⟨fun h => absurd h (by with_reducible exact nI_pos (by omega)), fun _ => ?_⟩
                    | refine ⟨fun _ => ?_, fun h => absurd (by with_reducible exact nI_0le (by omega)) h⟩
                    | refine ⟨fun h => absurd h (by decide), fun _ => ?_⟩
                    | refine ⟨fun _ => ?_, fun h => absurd (by decide) h⟩
                    | refine ⟨fun _ => ?_, fun h => absurd h (by decide)⟩
                    | refine ⟨fun h => absurd (by decide) h, fun _ => ?_⟩
                    | refine ⟨by decide, ?_⟩
                    | refine ⟨rfl, ?_⟩)
            try (conv => whnf)
            obtain ⟨-, σx, hDx, hqx⟩ := id hw
            refine ⟨[.ref 0, .int (nI j), .int (nI i), .int 1000], σx, τ, rfl, rfl, hBs, hDx.1, (by show 120 ≤ m; omega), (σx, τ, 6, pc, 4, j, i), rfl, rfl, ⟨wS_gS h0 hqx, hj6, hi, by rw [hqx 88 (by decide) (by decide)]; exact hneg⟩, ?_⟩
            try dsimp only
            rintro _ _ ⟨rfl, σ1, rfl, h1q⟩
            refine ⟨σ1, τ, rfl, rfl, fun s2 t2 hc hfr => ?_⟩
            replace hw := wS_q hS hDx hqx hc hfr h1q
            try replace hq := wq_f hfr hq
            clear hc hfr hDx h1q
            rw [cSl_q hqx]
            clear hqx
            repeat (conv => whnf
                    try dsimp only
                    try simp (decide := true) only [zu_same, zu_ne1, zu_ne2, zu_row, zuL_same, zuL_ne1, zuL_ne2, zrow_n1, zx0, zx1, zx2, zx3, nI_1, Nat.reduceAdd, Nat.reduceMul, Int32.reduceAdd, Int32.reduceSub, Int32.reduceMul]
                    first
                    | refine ⟨zrm (by assumption), ?_⟩
                    | refine ⟨vp_inb (by decide), ?_⟩
                    | refine ⟨by with_reducible exact zi (by omega), ?_⟩
                    | refine ⟨fun h => absurd h (by with_reducible exact nI_ge (by omega) (by omega)), fun _ => ?_⟩
                    | refine ⟨fun _ => ?_, fun h => absurd (by with_reducible exact nI_le (by omega) (by omega)) h⟩
                    | refine ⟨fun h => absurd h (by with_reducible exact nI_nlt (by omega) (by omega)), fun _ => ?_⟩
                    | refine ⟨fun _ => ?_, fun h => absurd (by with_reducible exact nI_lt (by omega) (by omega)) h⟩
                    | refine ⟨fun h => absurd h (by with_reducible exact nI_pos (by omega)), fun _ => ?_⟩
                    | refine ⟨fun _ => ?_, fun h => absurd (by with_reducible exact nI_0le (by omega)) h⟩
                    | refine ⟨fun h => absurd h (by decide), fun _ => ?_⟩
                    | refine ⟨fun _ => ?_, fun h => absurd (by decide) h⟩
                    | refine ⟨fun _ => ?_, fun h => absurd h (by decide)⟩
                    | refine ⟨fun h => absurd (by decide) h, fun _ => ?_⟩
                    | refine ⟨by decide, ?_⟩
                    | refine ⟨rfl, ?_⟩)
            try (conv => whnf)
            rcases sh6 h6 hj6 with ⟨eb, es⟩ | ⟨eb, es⟩
            · refine ⟨fun hz => (by have := (slopeF h0 hi hj6 hneg).mp hz; rw [eb] at this; cases this), fun _ => ?_⟩
              repeat (first
                | (conv => whnf
                   try dsimp only
                   try simp (decide := true) only [es, zu_same, zu_ne1, zu_ne2, zu_row, zuL_same, zuL_ne1, zuL_ne2, zrow_n1, zx0, zx1, zx2, zx3, nI_1, Nat.reduceAdd, Nat.reduceMul, Int32.reduceAdd, Int32.reduceSub, Int32.reduceMul]
                   first
                   | refine ⟨zrm (by assumption), ?_⟩
                   | refine ⟨vp_inb (by decide), ?_⟩
                   | refine ⟨by with_reducible exact zi (by omega), ?_⟩
                   | refine ⟨fun h => absurd h (by with_reducible exact nI_ge (by omega) (by omega)), fun _ => ?_⟩
                   | refine ⟨fun _ => ?_, fun h => absurd (by with_reducible exact nI_le (by omega) (by omega)) h⟩
                   | refine ⟨fun h => absurd h (by with_reducible exact nI_nlt (by omega) (by omega)), fun _ => ?_⟩
                   | refine ⟨fun _ => ?_, fun h => absurd (by with_reducible exact nI_lt (by omega) (by omega)) h⟩
                   | refine ⟨fun h => absurd h (by with_reducible exact nI_pos (by omega)), fun _ => ?_⟩
                   | refine ⟨fun _ => ?_, fun h => absurd (by with_reducible exact nI_0le (by omega)) h⟩
                   | refine ⟨fun h => absurd h (by decide), fun _ => ?_⟩
                   | refine ⟨fun _ => ?_, fun h => absurd (by decide) h⟩
                   | refine ⟨fun _ => ?_, fun h => absurd h (by decide)⟩
                   | refine ⟨fun h => absurd (by decide) h, fun _ => ?_⟩
                   | refine ⟨by decide, ?_⟩
                   | refine ⟨rfl, ?_⟩)
                | (conv => whnf
                   fail_if_success refine Exists.intro ?_ ?_
                   simp only [es]))
              try (conv => whnf)
              exact h660 _ _ s2 t2 hw hq
            · refine ⟨fun _ => ?_, fun hz => absurd ((slopeF h0 hi hj6 hneg).mpr eb) hz⟩
              repeat (first
                | (conv => whnf
                   try dsimp only
                   try simp (decide := true) only [es, zu_same, zu_ne1, zu_ne2, zu_row, zuL_same, zuL_ne1, zuL_ne2, zrow_n1, zx0, zx1, zx2, zx3, nI_1, Nat.reduceAdd, Nat.reduceMul, Int32.reduceAdd, Int32.reduceSub, Int32.reduceMul]
                   first
                   | refine ⟨zrm (by assumption), ?_⟩
                   | refine ⟨vp_inb (by decide), ?_⟩
                   | refine ⟨by with_reducible exact zi (by omega), ?_⟩
                   | refine ⟨fun h => absurd h (by with_reducible exact nI_ge (by omega) (by omega)), fun _ => ?_⟩
                   | refine ⟨fun _ => ?_, fun h => absurd (by with_reducible exact nI_le (by omega) (by omega)) h⟩
                   | refine ⟨fun h => absurd h (by with_reducible exact nI_nlt (by omega) (by omega)), fun _ => ?_⟩
                   | refine ⟨fun _ => ?_, fun h => absurd (by with_reducible exact nI_lt (by omega) (by omega)) h⟩
                   | refine ⟨fun h => absurd h (by with_reducible exact nI_pos (by omega)), fun _ => ?_⟩
                   | refine ⟨fun _ => ?_, fun h => absurd (by with_reducible exact nI_0le (by omega)) h⟩
                   | refine ⟨fun h => absurd h (by decide), fun _ => ?_⟩
                   | refine ⟨fun _ => ?_, fun h => absurd (by decide) h⟩
                   | refine ⟨fun _ => ?_, fun h => absurd h (by decide)⟩
                   | refine ⟨fun h => absurd (by decide) h, fun _ => ?_⟩
                   | refine ⟨by decide, ?_⟩
                   | refine ⟨rfl, ?_⟩)
                | (conv => whnf
                   fail_if_success refine Exists.intro ?_ ?_
                   simp only [es]))
              try (conv => whnf)
              exact h660 _ _ s2 t2 hw hq
          · skip
            repeat (conv => whnf
                    try dsimp only
                    try simp (decide := true) only [zu_same, zu_ne1, zu_ne2, zu_row, zuL_same, zuL_ne1, zuL_ne2, zrow_n1, zx0, zx1, zx2, zx3, nI_1, Nat.reduceAdd, Nat.reduceMul, Int32.reduceAdd, Int32.reduceSub, Int32.reduceMul]
                    first
                    | refine ⟨zrm (by assumption), ?_⟩
                    | refine ⟨vp_inb (by decide), ?_⟩
                    | refine ⟨by with_reducible exact zi (by omega), ?_⟩
                    | refine ⟨fun h => absurd h (by with_reducible exact nI_ge (by omega) (by omega)), fun _ => ?_⟩
                    | refine ⟨fun _ => ?_, fun h => absurd (by with_reducible exact nI_le (by omega) (by omega)) h⟩
                    | refine ⟨fun h => absurd h (by with_reducible exact nI_nlt (by omega) (by omega)), fun _ => ?_⟩
                    | refine ⟨fun _ => ?_, fun h => absurd (by with_reducible exact nI_lt (by omega) (by omega)) h⟩
                    | refine ⟨fun h => absurd h (by with_reducible exact nI_pos (by omega)), fun _ => ?_⟩
                    | refine ⟨fun _ => ?_, fun h => absurd (by with_reducible exact nI_0le (by omega)) h⟩
                    | refine ⟨fun h => absurd h (by decide), fun _ => ?_⟩
                    | refine ⟨fun _ => ?_, fun h => absurd (by decide) h⟩
                    | refine ⟨fun _ => ?_, fun h => absurd h (by decide)⟩
                    | refine ⟨fun h => absurd (by decide) h, fun _ => ?_⟩
                    | refine ⟨by decide, ?_⟩
                    | refine ⟨rfl, ?_⟩)
            try (conv => whnf)
            exact h684 _ _ s t hw hq
        refine hG 40 _ _ _ _ _ ?_
        repeat (first
          | (conv => whnf
             try dsimp only
             try simp (decide := true) only [g0, f5, r6, h121, w1, w2, y1, nI_clamp (show j < 2 ^ 31 by omega), zu_same, zu_ne1, zu_ne2, zu_row, zuL_same, zuL_ne1, zuL_ne2, zrow_n1, zx0, zx1, zx2, zx3, nI_1, Nat.reduceAdd, Nat.reduceMul, Int32.reduceAdd, Int32.reduceSub, Int32.reduceMul]
             first
             | refine ⟨zrm (by assumption), ?_⟩
             | refine ⟨vp_inb (by decide), ?_⟩
             | refine ⟨by with_reducible exact zi (by omega), ?_⟩
             | refine ⟨fun h => absurd h (by with_reducible exact nI_ge (by omega) (by omega)), fun _ => ?_⟩
             | refine ⟨fun _ => ?_, fun h => absurd (by with_reducible exact nI_le (by omega) (by omega)) h⟩
             | refine ⟨fun h => absurd h (by with_reducible exact nI_nlt (by omega) (by omega)), fun _ => ?_⟩
             | refine ⟨fun _ => ?_, fun h => absurd (by with_reducible exact nI_lt (by omega) (by omega)) h⟩
             | refine ⟨fun h => absurd h (by with_reducible exact nI_pos (by omega)), fun _ => ?_⟩
             | refine ⟨fun _ => ?_, fun h => absurd (by with_reducible exact nI_0le (by omega)) h⟩
             | refine ⟨fun h => absurd h (by decide), fun _ => ?_⟩
             | refine ⟨fun _ => ?_, fun h => absurd (by decide) h⟩
             | refine ⟨fun _ => ?_, fun h => absurd h (by decide)⟩
             | refine ⟨fun h => absurd (by decide) h, fun _ => ?_⟩
             | refine ⟨by decide, ?_⟩
             | refine ⟨rfl, ?_⟩)
          | (conv => whnf
             fail_if_success refine Exists.intro ?_ ?_
             simp only [g0, f5, r6, h121, w1, w2, y1, nI_clamp (show j < 2 ^ 31 by omega)]))
        try (conv => whnf)
        first | refine ⟨fun _ => ?_, fun h => absurd hneg h⟩ | refine ⟨fun h => absurd hneg h, fun _ => ?_⟩
        repeat (conv => whnf
                try dsimp only
                try simp (decide := true) only [zu_same, zu_ne1, zu_ne2, zu_row, zuL_same, zuL_ne1, zuL_ne2, zrow_n1, zx0, zx1, zx2, zx3, nI_1, Nat.reduceAdd, Nat.reduceMul, Int32.reduceAdd, Int32.reduceSub, Int32.reduceMul]
                first
                | refine ⟨zrm (by assumption), ?_⟩
                | refine ⟨vp_inb (by decide), ?_⟩
                | refine ⟨by with_reducible exact zi (by omega), ?_⟩
                | refine ⟨fun h => absurd h (by with_reducible exact nI_ge (by omega) (by omega)), fun _ => ?_⟩
                | refine ⟨fun _ => ?_, fun h => absurd (by with_reducible exact nI_le (by omega) (by omega)) h⟩
                | refine ⟨fun h => absurd h (by with_reducible exact nI_nlt (by omega) (by omega)), fun _ => ?_⟩
                | refine ⟨fun _ => ?_, fun h => absurd (by with_reducible exact nI_lt (by omega) (by omega)) h⟩
                | refine ⟨fun h => absurd h (by with_reducible exact nI_pos (by omega)), fun _ => ?_⟩
                | refine ⟨fun _ => ?_, fun h => absurd (by with_reducible exact nI_0le (by omega)) h⟩
                | refine ⟨fun h => absurd h (by decide), fun _ => ?_⟩
                | refine ⟨fun _ => ?_, fun h => absurd (by decide) h⟩
                | refine ⟨fun _ => ?_, fun h => absurd h (by decide)⟩
                | refine ⟨fun h => absurd (by decide) h, fun _ => ?_⟩
                | refine ⟨by decide, ?_⟩
                | refine ⟨rfl, ?_⟩)
        try (conv => whnf)
        exact h595
      · have eb : bt (σ0 112 i) j = false := by
          cases e : bt (σ0 112 i) j with
          | false => rfl
          | true => exact absurd ((hMo j).mp e).2.1 hneg
        have es : σ0 112 i >>> (nI j &&& 31) - σ0 112 i >>> (nI j &&& 31) / 2 * 2 = 0 := by
          rcases sh6 h6 hj6 with ⟨q, -⟩ | ⟨-, q⟩
          · rw [eb] at q
            cases q
          · exact q
        have h595 : Gl 595 [some (.ref zS), some (.int (nI ti)), some (.ref 0), some (.ref 1), some (.int (nI st)), some (.int c5), some (.long Dg), none, some (.int 63), some (.int (pGr (σ0 104) (cL σ0 6).length)), some (.int (nI (pBr (σ0 103) (i + 1)))), some (.ref q), some (.int (nI i)), some (.int (fSh (σ0 103 i))), some (.int (σ0 112 i)), some (.int (nI j)), l16, l17] [] (a, b) (m, sh, rf, s, t) := by
          refine hG 40 _ _ _ _ _ ?_
          repeat (first
            | (conv => whnf
               try dsimp only
               try simp (decide := true) only [g0, r6, h121, w1, w2, y1, nI_clamp (show j < 2 ^ 31 by omega), zu_same, zu_ne1, zu_ne2, zu_row, zuL_same, zuL_ne1, zuL_ne2, zrow_n1, zx0, zx1, zx2, zx3, nI_1, Nat.reduceAdd, Nat.reduceMul, Int32.reduceAdd, Int32.reduceSub, Int32.reduceMul]
               first
               | refine ⟨zrm (by assumption), ?_⟩
               | refine ⟨vp_inb (by decide), ?_⟩
               | refine ⟨by with_reducible exact zi (by omega), ?_⟩
               | refine ⟨fun h => absurd h (by with_reducible exact nI_ge (by omega) (by omega)), fun _ => ?_⟩
               | refine ⟨fun _ => ?_, fun h => absurd (by with_reducible exact nI_le (by omega) (by omega)) h⟩
               | refine ⟨fun h => absurd h (by with_reducible exact nI_nlt (by omega) (by omega)), fun _ => ?_⟩
               | refine ⟨fun _ => ?_, fun h => absurd (by with_reducible exact nI_lt (by omega) (by omega)) h⟩
               | refine ⟨fun h => absurd h (by with_reducible exact nI_pos (by omega)), fun _ => ?_⟩
               | refine ⟨fun _ => ?_, fun h => absurd (by with_reducible exact nI_0le (by omega)) h⟩
               | refine ⟨fun h => absurd h (by decide), fun _ => ?_⟩
               | refine ⟨fun _ => ?_, fun h => absurd (by decide) h⟩
               | refine ⟨fun _ => ?_, fun h => absurd h (by decide)⟩
               | refine ⟨fun h => absurd (by decide) h, fun _ => ?_⟩
               | refine ⟨by decide, ?_⟩
               | refine ⟨rfl, ?_⟩)
            | (conv => whnf
               fail_if_success refine Exists.intro ?_ ?_
               simp only [g0, r6, h121, w1, w2, y1, nI_clamp (show j < 2 ^ 31 by omega)]))
          try (conv => whnf)
          first | refine ⟨fun _ => ?_, fun h => absurd (Int32.not_lt.mp hneg) h⟩ | refine ⟨fun h => absurd h hneg, fun _ => ?_⟩
          repeat (conv => whnf
                  try dsimp only
                  try simp (decide := true) only [zu_same, zu_ne1, zu_ne2, zu_row, zuL_same, zuL_ne1, zuL_ne2, zrow_n1, zx0, zx1, zx2, zx3, nI_1, Nat.reduceAdd, Nat.reduceMul, Int32.reduceAdd, Int32.reduceSub, Int32.reduceMul]
                  first
                  | refine ⟨zrm (by assumption), ?_⟩
                  | refine ⟨vp_inb (by decide), ?_⟩
                  | refine ⟨by with_reducible exact zi (by omega), ?_⟩
                  | refine ⟨fun h => absurd h (by with_reducible exact nI_ge (by omega) (by omega)), fun _ => ?_⟩
                  | refine ⟨fun _ => ?_, fun h => absurd (by with_reducible exact nI_le (by omega) (by omega)) h⟩
                  | refine ⟨fun h => absurd h (by with_reducible exact nI_nlt (by omega) (by omega)), fun _ => ?_⟩
                  | refine ⟨fun _ => ?_, fun h => absurd (by with_reducible exact nI_lt (by omega) (by omega)) h⟩
                  | refine ⟨fun h => absurd h (by with_reducible exact nI_pos (by omega)), fun _ => ?_⟩
                  | refine ⟨fun _ => ?_, fun h => absurd (by with_reducible exact nI_0le (by omega)) h⟩
                  | refine ⟨fun h => absurd h (by decide), fun _ => ?_⟩
                  | refine ⟨fun _ => ?_, fun h => absurd (by decide) h⟩
                  | refine ⟨fun _ => ?_, fun h => absurd h (by decide)⟩
                  | refine ⟨fun h => absurd (by decide) h, fun _ => ?_⟩
                  | refine ⟨by decide, ?_⟩
                  | refine ⟨rfl, ?_⟩)
          try (conv => whnf)
          exact h684 _ _ s t hw hq
        refine hG 40 _ _ _ _ _ ?_
        repeat (first
          | (conv => whnf
             try dsimp only
             try simp (decide := true) only [g0, f5, r6, h121, w1, w2, y1, nI_clamp (show j < 2 ^ 31 by omega), zu_same, zu_ne1, zu_ne2, zu_row, zuL_same, zuL_ne1, zuL_ne2, zrow_n1, zx0, zx1, zx2, zx3, nI_1, Nat.reduceAdd, Nat.reduceMul, Int32.reduceAdd, Int32.reduceSub, Int32.reduceMul]
             first
             | refine ⟨zrm (by assumption), ?_⟩
             | refine ⟨vp_inb (by decide), ?_⟩
             | refine ⟨by with_reducible exact zi (by omega), ?_⟩
             | refine ⟨fun h => absurd h (by with_reducible exact nI_ge (by omega) (by omega)), fun _ => ?_⟩
             | refine ⟨fun _ => ?_, fun h => absurd (by with_reducible exact nI_le (by omega) (by omega)) h⟩
             | refine ⟨fun h => absurd h (by with_reducible exact nI_nlt (by omega) (by omega)), fun _ => ?_⟩
             | refine ⟨fun _ => ?_, fun h => absurd (by with_reducible exact nI_lt (by omega) (by omega)) h⟩
             | refine ⟨fun h => absurd h (by with_reducible exact nI_pos (by omega)), fun _ => ?_⟩
             | refine ⟨fun _ => ?_, fun h => absurd (by with_reducible exact nI_0le (by omega)) h⟩
             | refine ⟨fun h => absurd h (by decide), fun _ => ?_⟩
             | refine ⟨fun _ => ?_, fun h => absurd (by decide) h⟩
             | refine ⟨fun _ => ?_, fun h => absurd h (by decide)⟩
             | refine ⟨fun h => absurd (by decide) h, fun _ => ?_⟩
             | refine ⟨by decide, ?_⟩
             | refine ⟨rfl, ?_⟩)
          | (conv => whnf
             fail_if_success refine Exists.intro ?_ ?_
             simp only [g0, f5, r6, h121, w1, w2, y1, nI_clamp (show j < 2 ^ 31 by omega)]))
        try (conv => whnf)
        first | refine ⟨fun h => absurd h hneg, fun _ => ?_⟩ | refine ⟨fun _ => ?_, fun h => absurd h hneg⟩
        repeat (first
          | (conv => whnf
             try dsimp only
             try simp (decide := true) only [es, zu_same, zu_ne1, zu_ne2, zu_row, zuL_same, zuL_ne1, zuL_ne2, zrow_n1, zx0, zx1, zx2, zx3, nI_1, Nat.reduceAdd, Nat.reduceMul, Int32.reduceAdd, Int32.reduceSub, Int32.reduceMul]
             first
             | refine ⟨zrm (by assumption), ?_⟩
             | refine ⟨vp_inb (by decide), ?_⟩
             | refine ⟨by with_reducible exact zi (by omega), ?_⟩
             | refine ⟨fun h => absurd h (by with_reducible exact nI_ge (by omega) (by omega)), fun _ => ?_⟩
             | refine ⟨fun _ => ?_, fun h => absurd (by with_reducible exact nI_le (by omega) (by omega)) h⟩
             | refine ⟨fun h => absurd h (by with_reducible exact nI_nlt (by omega) (by omega)), fun _ => ?_⟩
             | refine ⟨fun _ => ?_, fun h => absurd (by with_reducible exact nI_lt (by omega) (by omega)) h⟩
             | refine ⟨fun h => absurd h (by with_reducible exact nI_pos (by omega)), fun _ => ?_⟩
             | refine ⟨fun _ => ?_, fun h => absurd (by with_reducible exact nI_0le (by omega)) h⟩
             | refine ⟨fun h => absurd h (by decide), fun _ => ?_⟩
             | refine ⟨fun _ => ?_, fun h => absurd (by decide) h⟩
             | refine ⟨fun _ => ?_, fun h => absurd h (by decide)⟩
             | refine ⟨fun h => absurd (by decide) h, fun _ => ?_⟩
             | refine ⟨by decide, ?_⟩
             | refine ⟨rfl, ?_⟩)
          | (conv => whnf
             fail_if_success refine Exists.intro ?_ ?_
             simp only [es]))
        try (conv => whnf)
        exact h595
  intro l16 l17 s t hw hq
  exact loop 6 0 _ _ s t rfl hw hq

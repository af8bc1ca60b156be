/-! ===== the law: the circles ===== -/
theorem zRw {P : Int32 → Prop} {x y : Int32} (h : x = y) (p : P y) : P x := h ▸ p
set_option maxRecDepth 100000
set_option maxHeartbeats 4000000
theorem lw_D (Gl : zK) (hG : zSt (zCL_lawD calD) [134, 226, 236, 299, 354, 375] Gl) {ti st m pc dr a b : Nat} {c5 : Int32} {Dg : Int64} (hκ : a ≤ 200000 ∧ b ≤ 2000000) {sh : zSh} {rf : zRf} {σ0 : zIn} {τ : zLo} (hS : lS m 4 6 sh rf) (h0 : gS σ0 τ 6 pc 4)
    (h375 : ∀ (l11 l12 l13 l14 l15 l16 l17 : Option Value) (s : zIn) (t : zLo), wS m pc dr sh rf s t σ0 τ → Gl 375 [some (.ref zS), some (.int (nI ti)), some (.ref 0), some (.ref 1), some (.int (nI st)), some (.int c5), some (.long Dg), none, some (.int 63), some (.int (pGr (σ0 104) (cL σ0 6).length)), some (.int 0), l11, l12, l13, l14, l15, l16, l17] [] (a, b) (m, sh, rf, s, t)) :
    ∀ (f k : Nat) (come : Int32) (l12 l13 l14 l15 l16 l17 : Option Value) (s : zIn) (t : zLo), k + f = (cL σ0 6).length → pLs 6 (lR σ0) come ((cL σ0 6).drop k) → (∀ i, bt come i = true → i < 6) → wS m pc dr sh rf s t σ0 τ → Gl 134 [some (.ref zS), some (.int (nI ti)), some (.ref 0), some (.ref 1), some (.int (nI st)), some (.int c5), some (.long Dg), none, some (.int come), some (.int (pGr (σ0 104) k)), some (.int 0), some (.int (nI k)), l12, l13, l14, l15, l16, l17] [] (a, b) (m, sh, rf, s, t) := by
  obtain ⟨⟨hm, -⟩, hBs, h999, ⟨g0, -, h121, -⟩, ⟨r0, r1, -, r6, -⟩, -, hv9⟩ := id hS
  obtain ⟨hlen, hl16⟩ := gS_len h0
  intro f
  induction f with
  | zero =>
    intro k come l12 l13 l14 l15 l16 l17 s t hk hls hcb hw
    have hkl : k = (cL σ0 6).length := by omega
    subst hkl
    rw [List.drop_length] at hls
    have h63 := full6 hls hcb
    subst h63
    refine hG 40 _ _ _ _ _ ?_
    repeat (conv => whnf
            try dsimp only
            try simp (decide := true) only [zu_same, zu_ne1, zu_ne2, zu_row, zuL_same, zuL_ne1, zuL_ne2, zrow_n1, zx0, zx1, zx2, zx3, nI_1, Nat.reduceAdd, Nat.reduceMul, Int32.reduceAdd, Int32.reduceSub, Int32.reduceMul]
            first
            | refine ⟨zrm (by assumption), ?_⟩
            | refine ⟨vp_inb (by decide), ?_⟩
            | refine ⟨by with_reducible exact zi (by omega), ?_⟩
            | refine ⟨fun h => absurd h (by with_reducible exact nI_ge (by omega) (by omega)), fun _ => ?_⟩
            | refine ⟨fun _ => ?_, fun h => absurd (by with_reducible exact nI_le (by omega) (by omega)) h⟩
            | refine ⟨fun h => absurd h (by with_reducible exact nI_nlt (by omega) (by omega)), fun _ => ?_⟩
            | refine ⟨fun _ => ?_, fun h => absurd (by with_reducible exact nI_lt (by omega) (by omega)) h⟩
            | refine ⟨fun h => absurd h (by with_reducible exact nI_pos (by omega)), fun _ => ?_⟩
            | refine ⟨fun _ => ?_, fun h => absurd (by with_reducible exact nI_0le (by omega)) h⟩
            | refine ⟨fun h => absurd h (by decide), fun _ => ?_⟩
            | refine ⟨fun _ => ?_, fun h => absurd (by decide) h⟩
            | refine ⟨fun _ => ?_, fun h => absurd h (by decide)⟩
            | refine ⟨fun h => absurd (by decide) h, fun _ => ?_⟩
            | refine ⟨by decide, ?_⟩
            | refine ⟨rfl, ?_⟩)
    try (conv => whnf)
    obtain ⟨-, σx, hDx, hqx⟩ := id hw
    refine ⟨[.ref 0], σx, τ, rfl, rfl, hBs, hDx.1, (by show 120 ≤ m; omega), (σx, τ, 6, pc, 4), rfl, rfl, wS_gS h0 hqx, ?_⟩
    try dsimp only
    refine ⟨σx, τ, rfl, rfl, fun s2 t2 hc hfr => ?_⟩
    replace hw := wS_q hS hDx hqx hc hfr cTq_r
    try replace hq := wq_f hfr hq
    clear hc hfr hDx
    rw [qL hqx]
    clear hqx
    repeat (conv => whnf
            try dsimp only
            try simp (decide := true) only [zu_same, zu_ne1, zu_ne2, zu_row, zuL_same, zuL_ne1, zuL_ne2, zrow_n1, zx0, zx1, zx2, zx3, nI_1, Nat.reduceAdd, Nat.reduceMul, Int32.reduceAdd, Int32.reduceSub, Int32.reduceMul]
            first
            | refine ⟨zrm (by assumption), ?_⟩
            | refine ⟨vp_inb (by decide), ?_⟩
            | refine ⟨by with_reducible exact zi (by omega), ?_⟩
            | refine ⟨fun h => absurd h (by with_reducible exact nI_ge (by omega) (by omega)), fun _ => ?_⟩
            | refine ⟨fun _ => ?_, fun h => absurd (by with_reducible exact nI_le (by omega) (by omega)) h⟩
            | refine ⟨fun h => absurd h (by with_reducible exact nI_nlt (by omega) (by omega)), fun _ => ?_⟩
            | refine ⟨fun _ => ?_, fun h => absurd (by with_reducible exact nI_lt (by omega) (by omega)) h⟩
            | refine ⟨fun h => absurd h (by with_reducible exact nI_pos (by omega)), fun _ => ?_⟩
            | refine ⟨fun _ => ?_, fun h => absurd (by with_reducible exact nI_0le (by omega)) h⟩
            | refine ⟨fun h => absurd h (by decide), fun _ => ?_⟩
            | refine ⟨fun _ => ?_, fun h => absurd (by decide) h⟩
            | refine ⟨fun _ => ?_, fun h => absurd h (by decide)⟩
            | refine ⟨fun h => absurd (by decide) h, fun _ => ?_⟩
            | refine ⟨by decide, ?_⟩
            | refine ⟨rfl, ?_⟩)
    try (conv => whnf)
    try dsimp only
    try simp (decide := true) only [zu_same, zu_ne1, zu_ne2, zu_row, zuL_same, zuL_ne1, zuL_ne2, zrow_n1, zx0, zx1, zx2, zx3, nI_1, Nat.reduceAdd, Nat.reduceMul, Int32.reduceAdd, Int32.reduceSub, Int32.reduceMul]
    exact h375 _ _ _ _ _ _ _ _ _ hw
  | succ f ih =>
    intro k come l12 l13 l14 l15 l16 l17 s t hk hls hcb hw
    have hk' : k < (cL σ0 6).length := by omega
    obtain ⟨w, hwL⟩ : ∃ w, (cL σ0 6).getD k 0 = w := ⟨_, rfl⟩
    have hwm : w ∈ cL σ0 6 := by
      have := dropL hk' hwL
      exact List.mem_of_mem_drop (i := k) (by rw [this]; exact List.mem_cons_self)
    rw [dropL hk' hwL] at hls
    obtain ⟨hw6, hcw, hin, hnew, hls'⟩ := hls
    obtain ⟨e0, e1, tt, ht40, e2, ht0, e3⟩ := cirF h0 hk' hwL
    obtain ⟨c0, hc0⟩ : ∃ c0, pCi 6 (lR σ0) w = c0 := ⟨_, rfl⟩
    have hself : bt c0 w = true := by rw [← hc0]; exact pCi_self (by omega) (by decide)
    have hc06 : ∀ i, bt c0 i = true → i < 6 := by rw [← hc0]; exact ci6 hw6
    have hcne : ¬ c0 = 0 := fun q => by rw [q, bt_zero] at hself; cases hself
    have hdis : c0 &&& come = 0 := and0 (by rw [← hc0]; exact hnew)
    have hcb' : ∀ i, bt (come ||| c0) i = true → i < 6 := fun i hi => by
      rw [bt_or, Bool.or_eq_true] at hi
      exact hi.elim (hcb i) (hc06 i)
    have hle : ∀ v, v < 6 → bt c0 v = true → pLe (σ0 88) (σ0 85) v &&& ((come ||| c0) ^^^ -1) = 0 := fun v hv hb => by
      rw [← hc0] at hb ⊢
      exact leanIn h0 hv hw6 hb hin
    have hone : bt (lR σ0 w) w = false → ∀ v, bt c0 v = true → v = w := fun hr v hb => by
      rw [← hc0] at hb
      exact pCi_one (by decide) (pWf_tr (G := zMG σ0) h0.1.2.1) hw6 hr hb
    rw [hc0] at hls' e0
    have eG : (if pGr (σ0 104) k < nI tt then nI tt else pGr (σ0 104) k) = pGr (σ0 104) (k + 1) := by
      show _ = (if pGr (σ0 104) k < σ0 104 k then σ0 104 k else pGr (σ0 104) k)
      rw [ge_k e2]
    have h236 : ∀ (g v : Nat) (l15 l16 l17 : Option Value) (s : zIn) (t : zLo), v + g = 6 → wS m pc dr sh rf s t σ0 τ → Gl 236 [some (.ref zS), some (.int (nI ti)), some (.ref 0), some (.ref 1), some (.int (nI st)), some (.int c5), some (.long Dg), none, some (.int (come ||| c0)), some (.int (pGr (σ0 104) k)), some (.int 0), some (.int (nI k)), some (.int c0), some (.int (nI tt)), some (.int (nI v)), l15, l16, l17] [] (a, b) (m, sh, rf, s, t) := by
      intro g
      induction g with
      | zero =>
        intro v l15 l16 l17 s t hv hw
        rw [show v = 6 by omega]
        have f5 := (wS_f hw).1
        refine hG 40 _ _ _ _ _ ?_
        repeat (first
          | (conv => whnf
             try dsimp only
             try simp (decide := true) only [g0, f5, zu_same, zu_ne1, zu_ne2, zu_row, zuL_same, zuL_ne1, zuL_ne2, zrow_n1, zx0, zx1, zx2, zx3, nI_1, Nat.reduceAdd, Nat.reduceMul, Int32.reduceAdd, Int32.reduceSub, Int32.reduceMul]
             first
             | refine ⟨zrm (by assumption), ?_⟩
             | refine ⟨vp_inb (by decide), ?_⟩
             | refine ⟨by with_reducible exact zi (by omega), ?_⟩
             | refine ⟨fun h => absurd h (by with_reducible exact nI_ge (by omega) (by omega)), fun _ => ?_⟩
             | refine ⟨fun _ => ?_, fun h => absurd (by with_reducible exact nI_le (by omega) (by omega)) h⟩
             | refine ⟨fun h => absurd h (by with_reducible exact nI_nlt (by omega) (by omega)), fun _ => ?_⟩
             | refine ⟨fun _ => ?_, fun h => absurd (by with_reducible exact nI_lt (by omega) (by omega)) h⟩
             | refine ⟨fun h => absurd h (by with_reducible exact nI_pos (by omega)), fun _ => ?_⟩
             | refine ⟨fun _ => ?_, fun h => absurd (by with_reducible exact nI_0le (by omega)) h⟩
             | refine ⟨fun h => absurd h (by decide), fun _ => ?_⟩
             | refine ⟨fun _ => ?_, fun h => absurd (by decide) h⟩
             | refine ⟨fun _ => ?_, fun h => absurd h (by decide)⟩
             | refine ⟨fun h => absurd (by decide) h, fun _ => ?_⟩
             | refine ⟨by decide, ?_⟩
             | refine ⟨rfl, ?_⟩)
          | (conv => whnf
             fail_if_success refine Exists.intro ?_ ?_
             simp only [g0, f5]))
        try (conv => whnf)
        refine ⟨_, _, rfl, ?_⟩
        rw [eG]
        repeat (conv => whnf
                try dsimp only
                try simp (decide := true) only [zu_same, zu_ne1, zu_ne2, zu_row, zuL_same, zuL_ne1, zuL_ne2, zrow_n1, zx0, zx1, zx2, zx3, nI_1, Nat.reduceAdd, Nat.reduceMul, Int32.reduceAdd, Int32.reduceSub, Int32.reduceMul]
                first
                | refine ⟨zrm (by assumption), ?_⟩
                | refine ⟨vp_inb (by decide), ?_⟩
                | refine ⟨by with_reducible exact zi (by omega), ?_⟩
                | refine ⟨fun h => absurd h (by with_reducible exact nI_ge (by omega) (by omega)), fun _ => ?_⟩
                | refine ⟨fun _ => ?_, fun h => absurd (by with_reducible exact nI_le (by omega) (by omega)) h⟩
                | refine ⟨fun h => absurd h (by with_reducible exact nI_nlt (by omega) (by omega)), fun _ => ?_⟩
                | refine ⟨fun _ => ?_, fun h => absurd (by with_reducible exact nI_lt (by omega) (by omega)) h⟩
                | refine ⟨fun h => absurd h (by with_reducible exact nI_pos (by omega)), fun _ => ?_⟩
                | refine ⟨fun _ => ?_, fun h => absurd (by with_reducible exact nI_0le (by omega)) h⟩
                | refine ⟨fun h => absurd h (by decide), fun _ => ?_⟩
                | refine ⟨fun _ => ?_, fun h => absurd (by decide) h⟩
                | refine ⟨fun _ => ?_, fun h => absurd h (by decide)⟩
                | refine ⟨fun h => absurd (by decide) h, fun _ => ?_⟩
                | refine ⟨by decide, ?_⟩
                | refine ⟨rfl, ?_⟩)
        try (conv => whnf)
        try dsimp only
        try simp (decide := true) only [zu_same, zu_ne1, zu_ne2, zu_row, zuL_same, zuL_ne1, zuL_ne2, zrow_n1, zx0, zx1, zx2, zx3, nI_1, Nat.reduceAdd, Nat.reduceMul, Int32.reduceAdd, Int32.reduceSub, Int32.reduceMul]
        exact ih (k + 1) _ _ _ _ _ _ _ s t (by omega) hls' hcb' hw
      | succ g ihg =>
        intro v l15 l16 l17 s t hv hw
        have hv6 : v < 6 := by omega
        have f5 := (wS_f hw).1
        have h354 : ∀ (l15 l16 l17 : Option Value) (s : zIn) (t : zLo), wS m pc dr sh rf s t σ0 τ → Gl 354 [some (.ref zS), some (.int (nI ti)), some (.ref 0), some (.ref 1), some (.int (nI st)), some (.int c5), some (.long Dg), none, some (.int (come ||| c0)), some (.int (pGr (σ0 104) k)), some (.int 0), some (.int (nI k)), some (.int c0), some (.int (nI tt)), some (.int (nI v)), l15, l16, l17] [] (a, b) (m, sh, rf, s, t) := by
          intro l15 l16 l17 s t hw
          refine hG 40 _ _ _ _ _ ?_
          repeat (conv => whnf
                  try dsimp only
                  try simp (decide := true) only [zu_same, zu_ne1, zu_ne2, zu_row, zuL_same, zuL_ne1, zuL_ne2, zrow_n1, zx0, zx1, zx2, zx3, nI_1, Nat.reduceAdd, Nat.reduceMul, Int32.reduceAdd, Int32.reduceSub, Int32.reduceMul]
                  first
                  | refine ⟨zrm (by assumption), ?_⟩
                  | refine ⟨vp_inb (by decide), ?_⟩
                  | refine ⟨by with_reducible exact zi (by omega), ?_⟩
                  | refine ⟨fun h => absurd h (by with_reducible exact nI_ge (by omega) (by omega)), fun _ => ?_⟩
                  | refine ⟨fun _ => ?_, fun h => absurd (by with_reducible exact nI_le (by omega) (by omega)) h⟩
                  | refine ⟨fun h => absurd h (by with_reducible exact nI_nlt (by omega) (by omega)), fun _ => ?_⟩
                  | refine ⟨fun _ => ?_, fun h => absurd (by with_reducible exact nI_lt (by omega) (by omega)) h⟩
                  | refine ⟨fun h => absurd h (by with_reducible exact nI_pos (by omega)), fun _ => ?_⟩
                  | refine ⟨fun _ => ?_, fun h => absurd (by with_reducible exact nI_0le (by omega)) h⟩
                  | refine ⟨fun h => absurd h (by decide), fun _ => ?_⟩
                  | refine ⟨fun _ => ?_, fun h => absurd (by decide) h⟩
                  | refine ⟨fun _ => ?_, fun h => absurd h (by decide)⟩
                  | refine ⟨fun h => absurd (by decide) h, fun _ => ?_⟩
                  | refine ⟨by decide, ?_⟩
                  | refine ⟨rfl, ?_⟩)
          try (conv => whnf)
          try dsimp only
          try simp (decide := true) only [zu_same, zu_ne1, zu_ne2, zu_row, zuL_same, zuL_ne1, zuL_ne2, zrow_n1, zx0, zx1, zx2, zx3, nI_1, Nat.reduceAdd, Nat.reduceMul, Int32.reduceAdd, Int32.reduceSub, Int32.reduceMul]
          exact ihg (v + 1) _ _ _ s t (by omega) hw
        rcases sh6 hc06 hv6 with ⟨hb, es⟩ | ⟨hb, es⟩
        · have hle0 := hle v hv6 hb
          have h299 : ∀ (l15 l16 l17 : Option Value) (s : zIn) (t : zLo), wS m pc dr sh rf s t σ0 τ → Gl 299 [some (.ref zS), some (.int (nI ti)), some (.ref 0), some (.ref 1), some (.int (nI st)), some (.int c5), some (.long Dg), none, some (.int (come ||| c0)), some (.int (pGr (σ0 104) k)), some (.int 0), some (.int (nI k)), some (.int c0), some (.int (nI tt)), some (.int (nI v)), l15, l16, l17] [] (a, b) (m, sh, rf, s, t) := by
            intro l15 l16 l17 s t hw
            refine hG 40 _ _ _ _ _ ?_
            repeat (conv => whnf
                    try dsimp only
                    try simp (decide := true) only [zu_same, zu_ne1, zu_ne2, zu_row, zuL_same, zuL_ne1, zuL_ne2, zrow_n1, zx0, zx1, zx2, zx3, nI_1, Nat.reduceAdd, Nat.reduceMul, Int32.reduceAdd, Int32.reduceSub, Int32.reduceMul]
                    first
                    | refine ⟨zrm (by assumption), ?_⟩
                    | refine ⟨vp_inb (by decide), ?_⟩
                    | refine ⟨by with_reducible exact zi (by omega), ?_⟩
                    | refine ⟨fun h => absurd h (by with_reducible exact nI_ge (by omega) (by omega)), fun _ => ?_⟩
                    | refine ⟨fun _ => ?_, fun h => absurd (by with_reducible exact nI_le (by omega) (by omega)) h⟩
                    | refine ⟨fun h => absurd h (by with_reducible exact nI_nlt (by omega) (by omega)), fun _ => ?_⟩
                    | refine ⟨fun _ => ?_, fun h => absurd (by with_reducible exact nI_lt (by omega) (by omega)) h⟩
                    | refine ⟨fun h => absurd h (by with_reducible exact nI_pos (by omega)), fun _ => ?_⟩
                    | refine ⟨fun _ => ?_, fun h => absurd (by with_reducible exact nI_0le (by omega)) h⟩
                    | refine ⟨fun h => absurd h (by decide), fun _ => ?_⟩
                    | refine ⟨fun _ => ?_, fun h => absurd (by decide) h⟩
                    | refine ⟨fun _ => ?_, fun h => absurd h (by decide)⟩
                    | refine ⟨fun h => absurd (by decide) h, fun _ => ?_⟩
                    | refine ⟨by decide, ?_⟩
                    | refine ⟨rfl, ?_⟩)
            try (conv => whnf)
            obtain ⟨-, σx, hDx, hqx⟩ := id hw
            refine ⟨[.ref 0, .int (nI k), .int 1], σx, τ, rfl, rfl, hBs, hDx.1, (by show 120 ≤ m; omega), (σx, τ, 6, pc, 4, k, 1), rfl, rfl, ⟨wS_gS h0 hqx, by rw [qL hqx]; exact hk', by decide⟩, ?_⟩
            try dsimp only
            refine ⟨σx, τ, rfl, rfl, fun s2 t2 hc hfr => ?_⟩
            replace hw := wS_q hS hDx hqx hc hfr cTq_r
            try replace hq := wq_f hfr hq
            clear hc hfr hDx
            rw [qT hqx, e1]
            clear hqx
            cases hr : bt (lR σ0 w) w with
            | true =>
              rw [if_pos rfl]
              repeat (conv => whnf
                      try dsimp only
                      try simp (decide := true) only [zu_same, zu_ne1, zu_ne2, zu_row, zuL_same, zuL_ne1, zuL_ne2, zrow_n1, zx0, zx1, zx2, zx3, nI_1, Nat.reduceAdd, Nat.reduceMul, Int32.reduceAdd, Int32.reduceSub, Int32.reduceMul]
                      first
                      | refine ⟨zrm (by assumption), ?_⟩
                      | refine ⟨vp_inb (by decide), ?_⟩
                      | refine ⟨by with_reducible exact zi (by omega), ?_⟩
                      | refine ⟨fun h => absurd h (by with_reducible exact nI_ge (by omega) (by omega)), fun _ => ?_⟩
                      | refine ⟨fun _ => ?_, fun h => absurd (by with_reducible exact nI_le (by omega) (by omega)) h⟩
                      | refine ⟨fun h => absurd h (by with_reducible exact nI_nlt (by omega) (by omega)), fun _ => ?_⟩
                      | refine ⟨fun _ => ?_, fun h => absurd (by with_reducible exact nI_lt (by omega) (by omega)) h⟩
                      | refine ⟨fun h => absurd h (by with_reducible exact nI_pos (by omega)), fun _ => ?_⟩
                      | refine ⟨fun _ => ?_, fun h => absurd (by with_reducible exact nI_0le (by omega)) h⟩
                      | refine ⟨fun h => absurd h (by decide), fun _ => ?_⟩
                      | refine ⟨fun _ => ?_, fun h => absurd (by decide) h⟩
                      | refine ⟨fun _ => ?_, fun h => absurd h (by decide)⟩
                      | refine ⟨fun h => absurd (by decide) h, fun _ => ?_⟩
                      | refine ⟨by decide, ?_⟩
                      | refine ⟨rfl, ?_⟩)
              try (conv => whnf)
              exact h354 _ _ _ _ _ hw
            | false =>
              rw [if_neg (by decide)]
              have hvw : v = w := hone hr v hb
              obtain ⟨w1, w2⟩ := hv9 v hv6
              have y1 := ((wS_f hw).2 v hv6).1
              by_cases hneg : σ0 88 v < 0
              · skip
                repeat (first
                  | (conv => whnf
                     try dsimp only
                     try simp (decide := true) only [g0, r6, h121, w1, w2, y1, nI_clamp (show v < 2 ^ 31 by omega), zu_same, zu_ne1, zu_ne2, zu_row, zuL_same, zuL_ne1, zuL_ne2, zrow_n1, zx0, zx1, zx2, zx3, nI_1, Nat.reduceAdd, Nat.reduceMul, Int32.reduceAdd, Int32.reduceSub, Int32.reduceMul]
                     first
                     | refine ⟨zrm (by assumption), ?_⟩
                     | refine ⟨vp_inb (by decide), ?_⟩
                     | refine ⟨by with_reducible exact zi (by omega), ?_⟩
                     | refine ⟨fun h => absurd h (by with_reducible exact nI_ge (by omega) (by omega)), fun _ => ?_⟩
                     | refine ⟨fun _ => ?_, fun h => absurd (by with_reducible exact nI_le (by omega) (by omega)) h⟩
                     | refine ⟨fun h => absurd h (by with_reducible exact nI_nlt (by omega) (by omega)), fun _ => ?_⟩
                     | refine ⟨fun _ => ?_, fun h => absurd (by with_reducible exact nI_lt (by omega) (by omega)) h⟩
                     | refine ⟨fun h => absurd h (by with_reducible exact nI_pos (by omega)), fun _ => ?_⟩
                     | refine ⟨fun _ => ?_, fun h => absurd (by with_reducible exact nI_0le (by omega)) h⟩
                     | refine ⟨fun h => absurd h (by decide), fun _ => ?_⟩
                     | refine ⟨fun _ => ?_, fun h => absurd (by decide) h⟩
                     | refine ⟨fun _ => ?_, fun h => absurd h (by decide)⟩
                     | refine ⟨fun h => absurd (by decide) h, fun _ => ?_⟩
                     | refine ⟨by decide, ?_⟩
                     | refine ⟨rfl, ?_⟩)
                  | (conv => whnf
                     fail_if_success refine Exists.intro ?_ ?_
                     simp only [g0, r6, h121, w1, w2, y1, nI_clamp (show v < 2 ^ 31 by omega)]))
                try (conv => whnf)
                first | refine ⟨fun h => absurd hneg h, fun _ => ?_⟩ | refine ⟨fun _ => ?_, fun h => absurd hneg h⟩ | refine ⟨fun h => absurd hneg (Int32.not_lt.mpr h), fun _ => ?_⟩
                repeat (conv => whnf
                        try dsimp only
                        try simp (decide := true) only [zu_same, zu_ne1, zu_ne2, zu_row, zuL_same, zuL_ne1, zuL_ne2, zrow_n1, zx0, zx1, zx2, zx3, nI_1, Nat.reduceAdd, Nat.reduceMul, Int32.reduceAdd, Int32.reduceSub, Int32.reduceMul]
                        first
                        | refine ⟨zrm (by assumption), ?_⟩
                        | refine ⟨vp_inb (by decide), ?_⟩
                        | refine ⟨by with_reducible exact zi (by omega), ?_⟩
                        | refine ⟨fun h => absurd h (by with_reducible exact nI_ge (by omega) (by omega)), fun _ => ?_⟩
                        | refine ⟨fun _ => ?_, fun h => absurd (by with_reducible exact nI_le (by omega) (by omega)) h⟩
                        | refine ⟨fun h => absurd h (by with_reducible exact nI_nlt (by omega) (by omega)), fun _ => ?_⟩
                        | refine ⟨fun _ => ?_, fun h => absurd (by with_reducible exact nI_lt (by omega) (by omega)) h⟩
                        | refine ⟨fun h => absurd h (by with_reducible exact nI_pos (by omega)), fun _ => ?_⟩
                        | refine ⟨fun _ => ?_, fun h => absurd (by with_reducible exact nI_0le (by omega)) h⟩
                        | refine ⟨fun h => absurd h (by decide), fun _ => ?_⟩
                        | refine ⟨fun _ => ?_, fun h => absurd (by decide) h⟩
                        | refine ⟨fun _ => ?_, fun h => absurd h (by decide)⟩
                        | refine ⟨fun h => absurd (by decide) h, fun _ => ?_⟩
                        | refine ⟨by decide, ?_⟩
                        | refine ⟨rfl, ?_⟩)
                try (conv => whnf)
                exact h354 _ _ _ _ _ hw
              · obtain ⟨fo, hfo, hfp⟩ := h0.1.1.2.2.2.2.1 v hv6 hneg
                rw [hfo] at y1
                have hp60 : pc ≤ 60 := h0.1.1.2.2.1
                repeat (first
                  | (conv => whnf
                     try dsimp only
                     try simp (decide := true) only [g0, r6, h121, w1, w2, y1, nI_clamp (show v < 2 ^ 31 by omega), zu_same, zu_ne1, zu_ne2, zu_row, zuL_same, zuL_ne1, zuL_ne2, zrow_n1, zx0, zx1, zx2, zx3, nI_1, Nat.reduceAdd, Nat.reduceMul, Int32.reduceAdd, Int32.reduceSub, Int32.reduceMul]
                     first
                     | refine ⟨zrm (by assumption), ?_⟩
                     | refine ⟨vp_inb (by decide), ?_⟩
                     | refine ⟨by with_reducible exact zi (by omega), ?_⟩
                     | refine ⟨fun h => absurd h (by with_reducible exact nI_ge (by omega) (by omega)), fun _ => ?_⟩
                     | refine ⟨fun _ => ?_, fun h => absurd (by with_reducible exact nI_le (by omega) (by omega)) h⟩
                     | refine ⟨fun h => absurd h (by with_reducible exact nI_nlt (by omega) (by omega)), fun _ => ?_⟩
                     | refine ⟨fun _ => ?_, fun h => absurd (by with_reducible exact nI_lt (by omega) (by omega)) h⟩
                     | refine ⟨fun h => absurd h (by with_reducible exact nI_pos (by omega)), fun _ => ?_⟩
                     | refine ⟨fun _ => ?_, fun h => absurd (by with_reducible exact nI_0le (by omega)) h⟩
                     | refine ⟨fun h => absurd h (by decide), fun _ => ?_⟩
                     | refine ⟨fun _ => ?_, fun h => absurd (by decide) h⟩
                     | refine ⟨fun _ => ?_, fun h => absurd h (by decide)⟩
                     | refine ⟨fun h => absurd (by decide) h, fun _ => ?_⟩
                     | refine ⟨by decide, ?_⟩
                     | refine ⟨rfl, ?_⟩)
                  | (conv => whnf
                     fail_if_success refine Exists.intro ?_ ?_
                     simp only [g0, r6, h121, w1, w2, y1, nI_clamp (show v < 2 ^ 31 by omega)]))
                try (conv => whnf)
                by_cases hbr : σ0 103 v = zBRK
                · skip
                  obtain ⟨-, σx, hDx, hqx⟩ := id hw
                  refine ⟨[.ref 0, .int (nI v)], σx, τ, rfl, rfl, hBs, hDx.1, (by show 120 ≤ m; omega), (σx, τ, 6, pc, 4, v), rfl, rfl, ⟨wS_gS h0 hqx, hv6⟩, ?_⟩
                  try dsimp only
                  refine ⟨σx, τ, rfl, rfl, fun s2 t2 hc hfr => ?_⟩
                  replace hw := wS_q hS hDx hqx hc hfr cTq_r
                  try replace hq := wq_f hfr hq
                  clear hc hfr hDx
                  rw [if_pos (show σx 103 v = zBRK by rw [hqx 103 (by decide) (by decide)]; exact hbr)]
                  clear hqx
                  repeat (conv => whnf
                          try dsimp only
                          try simp (decide := true) only [zu_same, zu_ne1, zu_ne2, zu_row, zuL_same, zuL_ne1, zuL_ne2, zrow_n1, zx0, zx1, zx2, zx3, nI_1, Nat.reduceAdd, Nat.reduceMul, Int32.reduceAdd, Int32.reduceSub, Int32.reduceMul]
                          first
                          | refine ⟨zrm (by assumption), ?_⟩
                          | refine ⟨vp_inb (by decide), ?_⟩
                          | refine ⟨by with_reducible exact zi (by omega), ?_⟩
                          | refine ⟨fun h => absurd h (by with_reducible exact nI_ge (by omega) (by omega)), fun _ => ?_⟩
                          | refine ⟨fun _ => ?_, fun h => absurd (by with_reducible exact nI_le (by omega) (by omega)) h⟩
                          | refine ⟨fun h => absurd h (by with_reducible exact nI_nlt (by omega) (by omega)), fun _ => ?_⟩
                          | refine ⟨fun _ => ?_, fun h => absurd (by with_reducible exact nI_lt (by omega) (by omega)) h⟩
                          | refine ⟨fun h => absurd h (by with_reducible exact nI_pos (by omega)), fun _ => ?_⟩
                          | refine ⟨fun _ => ?_, fun h => absurd (by with_reducible exact nI_0le (by omega)) h⟩
                          | refine ⟨fun h => absurd h (by decide), fun _ => ?_⟩
                          | refine ⟨fun _ => ?_, fun h => absurd (by decide) h⟩
                          | refine ⟨fun _ => ?_, fun h => absurd h (by decide)⟩
                          | refine ⟨fun h => absurd (by decide) h, fun _ => ?_⟩
                          | refine ⟨by decide, ?_⟩
                          | refine ⟨rfl, ?_⟩)
                  try (conv => whnf)
                  exact h354 _ _ _ _ _ hw
                · skip
                  obtain ⟨-, σx, hDx, hqx⟩ := id hw
                  refine ⟨[.ref 0, .int (nI v)], σx, τ, rfl, rfl, hBs, hDx.1, (by show 120 ≤ m; omega), (σx, τ, 6, pc, 4, v), rfl, rfl, ⟨wS_gS h0 hqx, hv6⟩, ?_⟩
                  try dsimp only
                  refine ⟨σx, τ, rfl, rfl, fun s2 t2 hc hfr => ?_⟩
                  replace hw := wS_q hS hDx hqx hc hfr cTq_r
                  try replace hq := wq_f hfr hq
                  clear hc hfr hDx
                  rw [if_neg (show ¬ σx 103 v = zBRK by rw [hqx 103 (by decide) (by decide)]; exact hbr)]
                  clear hqx
                  repeat (conv => whnf
                          try dsimp only
                          try simp (decide := true) only [zu_same, zu_ne1, zu_ne2, zu_row, zuL_same, zuL_ne1, zuL_ne2, zrow_n1, zx0, zx1, zx2, zx3, nI_1, Nat.reduceAdd, Nat.reduceMul, Int32.reduceAdd, Int32.reduceSub, Int32.reduceMul]
                          first
                          | refine ⟨zrm (by assumption), ?_⟩
                          | refine ⟨vp_inb (by decide), ?_⟩
                          | refine ⟨by with_reducible exact zi (by omega), ?_⟩
                          | refine ⟨fun h => absurd h (by with_reducible exact nI_ge (by omega) (by omega)), fun _ => ?_⟩
                          | refine ⟨fun _ => ?_, fun h => absurd (by with_reducible exact nI_le (by omega) (by omega)) h⟩
                          | refine ⟨fun h => absurd h (by with_reducible exact nI_nlt (by omega) (by omega)), fun _ => ?_⟩
                          | refine ⟨fun _ => ?_, fun h => absurd (by with_reducible exact nI_lt (by omega) (by omega)) h⟩
                          | refine ⟨fun h => absurd h (by with_reducible exact nI_pos (by omega)), fun _ => ?_⟩
                          | refine ⟨fun _ => ?_, fun h => absurd (by with_reducible exact nI_0le (by omega)) h⟩
                          | refine ⟨fun h => absurd h (by decide), fun _ => ?_⟩
                          | refine ⟨fun _ => ?_, fun h => absurd (by decide) h⟩
                          | refine ⟨fun _ => ?_, fun h => absurd h (by decide)⟩
                          | refine ⟨fun h => absurd (by decide) h, fun _ => ?_⟩
                          | refine ⟨by decide, ?_⟩
                          | refine ⟨rfl, ?_⟩)
                  try (conv => whnf)
                  obtain ⟨-, σx, hDx, hqx⟩ := id hw
                  refine ⟨[.ref 0, .int (nI v)], σx, τ, rfl, rfl, hBs, hDx.1, (by show 120 ≤ m; omega), (σx, τ, 6, pc, 4, v), rfl, rfl, ⟨wS_gS h0 hqx, hv6⟩, ?_⟩
                  try dsimp only
                  refine ⟨σx, τ, rfl, rfl, fun s2 t2 hc hfr => ?_⟩
                  replace hw := wS_q hS hDx hqx hc hfr cTq_r
                  try replace hq := wq_f hfr hq
                  clear hc hfr hDx
                  rw [hqx 103 (by decide) (by decide)]
                  clear hqx
                  have y1 := ((wS_f hw).2 v hv6).1
                  rw [hfo] at y1
                  repeat (first
                    | (conv => whnf
                       try dsimp only
                       try simp (decide := true) only [g0, r6, h121, w1, w2, y1, nI_clamp (show v < 2 ^ 31 by omega), zu_same, zu_ne1, zu_ne2, zu_row, zuL_same, zuL_ne1, zuL_ne2, zrow_n1, zx0, zx1, zx2, zx3, nI_1, Nat.reduceAdd, Nat.reduceMul, Int32.reduceAdd, Int32.reduceSub, Int32.reduceMul]
                       first
                       | refine ⟨zrm (by assumption), ?_⟩
                       | refine ⟨vp_inb (by decide), ?_⟩
                       | refine ⟨by with_reducible exact zi (by omega), ?_⟩
                       | refine ⟨fun h => absurd h (by with_reducible exact nI_ge (by omega) (by omega)), fun _ => ?_⟩
                       | refine ⟨fun _ => ?_, fun h => absurd (by with_reducible exact nI_le (by omega) (by omega)) h⟩
                       | refine ⟨fun h => absurd h (by with_reducible exact nI_nlt (by omega) (by omega)), fun _ => ?_⟩
                       | refine ⟨fun _ => ?_, fun h => absurd (by with_reducible exact nI_lt (by omega) (by omega)) h⟩
                       | refine ⟨fun h => absurd h (by with_reducible exact nI_pos (by omega)), fun _ => ?_⟩
                       | refine ⟨fun _ => ?_, fun h => absurd (by with_reducible exact nI_0le (by omega)) h⟩
                       | refine ⟨fun h => absurd h (by decide), fun _ => ?_⟩
                       | refine ⟨fun _ => ?_, fun h => absurd (by decide) h⟩
                       | refine ⟨fun _ => ?_, fun h => absurd h (by decide)⟩
                       | refine ⟨fun h => absurd (by decide) h, fun _ => ?_⟩
                       | refine ⟨by decide, ?_⟩
                       | refine ⟨rfl, ?_⟩)
                    | (conv => whnf
                       fail_if_success refine Exists.intro ?_ ?_
                       simp only [g0, r6, h121, w1, w2, y1, nI_clamp (show v < 2 ^ 31 by omega)]))
                  try (conv => whnf)
                  obtain ⟨-, σx, hDx, hqx⟩ := id hw
                  have hg := wS_gS h0 hqx
                  have eW : pW (zPT σx) (σx 103) fo = σ0 103 v := by
                    have e3 : σx 103 = σ0 103 := hqx 103 (by decide) (by decide)
                    have e8 : σx 88 = σ0 88 := hqx 88 (by decide) (by decide)
                    have e5 : σx 85 = σ0 85 := hqx 85 (by decide) (by decide)
                    have := worF hg hv6 (by rw [qL hqx, hvw]; exact hwm) (f := fo) (by rw [e8]; exact hfo) (by have := hg.1.1.2.2.1; omega) (by unfold lR; rw [e8, e5, hvw]; exact hr) (by rw [e3]; exact hbr)
                    rw [this, e3]
                  refine ⟨[.ref 0, .int (nI fo)], σx, τ, rfl, rfl, hBs, hDx.1, (by show 120 ≤ m; omega), (σx, τ, 6, pc, 4, fo), rfl, rfl, ⟨hg, hfp⟩, ?_⟩
                  try dsimp only
                  rintro _ _ ⟨rfl, σ1, rfl, hf1⟩
                  refine ⟨σ1, τ, rfl, rfl, fun s2 t2 hc hfr => ?_⟩
                  replace hw := wS_q hS hDx hqx hc hfr (σ1 := σ1) (fun r h1 _ => hf1 r h1)
                  rw [eW]
                  repeat (conv => whnf
                          try dsimp only
                          try simp (decide := true) only [zu_same, zu_ne1, zu_ne2, zu_row, zuL_same, zuL_ne1, zuL_ne2, zrow_n1, zx0, zx1, zx2, zx3, nI_1, Nat.reduceAdd, Nat.reduceMul, Int32.reduceAdd, Int32.reduceSub, Int32.reduceMul]
                          first
                          | refine ⟨zrm (by assumption), ?_⟩
                          | refine ⟨vp_inb (by decide), ?_⟩
                          | refine ⟨by with_reducible exact zi (by omega), ?_⟩
                          | refine ⟨fun h => absurd h (by with_reducible exact nI_ge (by omega) (by omega)), fun _ => ?_⟩
                          | refine ⟨fun _ => ?_, fun h => absurd (by with_reducible exact nI_le (by omega) (by omega)) h⟩
                          | refine ⟨fun h => absurd h (by with_reducible exact nI_nlt (by omega) (by omega)), fun _ => ?_⟩
                          | refine ⟨fun _ => ?_, fun h => absurd (by with_reducible exact nI_lt (by omega) (by omega)) h⟩
                          | refine ⟨fun h => absurd h (by with_reducible exact nI_pos (by omega)), fun _ => ?_⟩
                          | refine ⟨fun _ => ?_, fun h => absurd (by with_reducible exact nI_0le (by omega)) h⟩
                          | refine ⟨fun h => absurd h (by decide), fun _ => ?_⟩
                          | refine ⟨fun _ => ?_, fun h => absurd (by decide) h⟩
                          | refine ⟨fun _ => ?_, fun h => absurd h (by decide)⟩
                          | refine ⟨fun h => absurd (by decide) h, fun _ => ?_⟩
                          | refine ⟨by decide, ?_⟩
                          | refine ⟨rfl, ?_⟩)
                  try (conv => whnf)
                  exact h354 _ _ _ _ _ hw
          refine hG 40 _ _ _ _ _ ?_
          repeat (first
            | (conv => whnf
               try dsimp only
               try simp (decide := true) only [g0, f5, es, zu_same, zu_ne1, zu_ne2, zu_row, zuL_same, zuL_ne1, zuL_ne2, zrow_n1, zx0, zx1, zx2, zx3, nI_1, Nat.reduceAdd, Nat.reduceMul, Int32.reduceAdd, Int32.reduceSub, Int32.reduceMul]
               first
               | refine ⟨zrm (by assumption), ?_⟩
               | refine ⟨vp_inb (by decide), ?_⟩
               | refine ⟨by with_reducible exact zi (by omega), ?_⟩
               | refine ⟨fun h => absurd h (by with_reducible exact nI_ge (by omega) (by omega)), fun _ => ?_⟩
               | refine ⟨fun _ => ?_, fun h => absurd (by with_reducible exact nI_le (by omega) (by omega)) h⟩
               | refine ⟨fun h => absurd h (by with_reducible exact nI_nlt (by omega) (by omega)), fun _ => ?_⟩
               | refine ⟨fun _ => ?_, fun h => absurd (by with_reducible exact nI_lt (by omega) (by omega)) h⟩
               | refine ⟨fun h => absurd h (by with_reducible exact nI_pos (by omega)), fun _ => ?_⟩
               | refine ⟨fun _ => ?_, fun h => absurd (by with_reducible exact nI_0le (by omega)) h⟩
               | refine ⟨fun h => absurd h (by decide), fun _ => ?_⟩
               | refine ⟨fun _ => ?_, fun h => absurd (by decide) h⟩
               | refine ⟨fun _ => ?_, fun h => absurd h (by decide)⟩
               | refine ⟨fun h => absurd (by decide) h, fun _ => ?_⟩
               | refine ⟨by decide, ?_⟩
               | refine ⟨rfl, ?_⟩)
            | (conv => whnf
               fail_if_success refine Exists.intro ?_ ?_
               simp only [g0, f5, es]))
          try (conv => whnf)
          obtain ⟨-, σx, hDx, hqx⟩ := id hw
          refine ⟨[.ref 0, .int (nI v)], σx, τ, rfl, rfl, hBs, hDx.1, (by show 120 ≤ m; omega), (σx, τ, 6, pc, 4, v), rfl, rfl, ⟨wS_gS h0 hqx, hv6⟩, ?_⟩
          try dsimp only
          refine ⟨σx, τ, rfl, rfl, fun s2 t2 hc hfr => ?_⟩
          replace hw := wS_q hS hDx hqx hc hfr cTq_r
          try replace hq := wq_f hfr hq
          clear hc hfr hDx
          rw [hqx 95 (by decide) (by decide), leF h0 hv6]
          clear hqx
          repeat (first
            | (conv => whnf
               try dsimp only
               try simp (decide := true) only [hle0, zu_same, zu_ne1, zu_ne2, zu_row, zuL_same, zuL_ne1, zuL_ne2, zrow_n1, zx0, zx1, zx2, zx3, nI_1, Nat.reduceAdd, Nat.reduceMul, Int32.reduceAdd, Int32.reduceSub, Int32.reduceMul]
               first
               | refine ⟨zrm (by assumption), ?_⟩
               | refine ⟨vp_inb (by decide), ?_⟩
               | refine ⟨by with_reducible exact zi (by omega), ?_⟩
               | refine ⟨fun h => absurd h (by with_reducible exact nI_ge (by omega) (by omega)), fun _ => ?_⟩
               | refine ⟨fun _ => ?_, fun h => absurd (by with_reducible exact nI_le (by omega) (by omega)) h⟩
               | refine ⟨fun h => absurd h (by with_reducible exact nI_nlt (by omega) (by omega)), fun _ => ?_⟩
               | refine ⟨fun _ => ?_, fun h => absurd (by with_reducible exact nI_lt (by omega) (by omega)) h⟩
               | refine ⟨fun h => absurd h (by with_reducible exact nI_pos (by omega)), fun _ => ?_⟩
               | refine ⟨fun _ => ?_, fun h => absurd (by with_reducible exact nI_0le (by omega)) h⟩
               | refine ⟨fun h => absurd h (by decide), fun _ => ?_⟩
               | refine ⟨fun _ => ?_, fun h => absurd (by decide) h⟩
               | refine ⟨fun _ => ?_, fun h => absurd h (by decide)⟩
               | refine ⟨fun h => absurd (by decide) h, fun _ => ?_⟩
               | refine ⟨by decide, ?_⟩
               | refine ⟨rfl, ?_⟩)
            | (conv => whnf
               fail_if_success refine Exists.intro ?_ ?_
               simp only [hle0]))
          try (conv => whnf)
          obtain ⟨-, σx, hDx, hqx⟩ := id hw
          refine ⟨[.ref 0, .int (nI k), .int 1], σx, τ, rfl, rfl, hBs, hDx.1, (by show 120 ≤ m; omega), (σx, τ, 6, pc, 4, k, 1), rfl, rfl, ⟨wS_gS h0 hqx, by rw [qL hqx]; exact hk', by decide⟩, ?_⟩
          try dsimp only
          refine ⟨σx, τ, rfl, rfl, fun s2 t2 hc hfr => ?_⟩
          replace hw := wS_q hS hDx hqx hc hfr cTq_r
          try replace hq := wq_f hfr hq
          clear hc hfr hDx
          rw [qT hqx, e1]
          clear hqx
          cases hr : bt (lR σ0 w) w with
          | true =>
            rw [if_pos rfl]
            repeat (conv => whnf
                    try dsimp only
                    try simp (decide := true) only [zu_same, zu_ne1, zu_ne2, zu_row, zuL_same, zuL_ne1, zuL_ne2, zrow_n1, zx0, zx1, zx2, zx3, nI_1, Nat.reduceAdd, Nat.reduceMul, Int32.reduceAdd, Int32.reduceSub, Int32.reduceMul]
                    first
                    | refine ⟨zrm (by assumption), ?_⟩
                    | refine ⟨vp_inb (by decide), ?_⟩
                    | refine ⟨by with_reducible exact zi (by omega), ?_⟩
                    | refine ⟨fun h => absurd h (by with_reducible exact nI_ge (by omega) (by omega)), fun _ => ?_⟩
                    | refine ⟨fun _ => ?_, fun h => absurd (by with_reducible exact nI_le (by omega) (by omega)) h⟩
                    | refine ⟨fun h => absurd h (by with_reducible exact nI_nlt (by omega) (by omega)), fun _ => ?_⟩
                    | refine ⟨fun _ => ?_, fun h => absurd (by with_reducible exact nI_lt (by omega) (by omega)) h⟩
                    | refine ⟨fun h => absurd h (by with_reducible exact nI_pos (by omega)), fun _ => ?_⟩
                    | refine ⟨fun _ => ?_, fun h => absurd (by with_reducible exact nI_0le (by omega)) h⟩
                    | refine ⟨fun h => absurd h (by decide), fun _ => ?_⟩
                    | refine ⟨fun _ => ?_, fun h => absurd (by decide) h⟩
                    | refine ⟨fun _ => ?_, fun h => absurd h (by decide)⟩
                    | refine ⟨fun h => absurd (by decide) h, fun _ => ?_⟩
                    | refine ⟨by decide, ?_⟩
                    | refine ⟨rfl, ?_⟩)
            try (conv => whnf)
            exact h299 _ _ _ _ _ hw
          | false =>
            rw [if_neg (by decide)]
            have hvw : v = w := hone hr v hb
            have el : pLe (σ0 88) (σ0 85) v >>> (nI v &&& 31) - pLe (σ0 88) (σ0 85) v >>> (nI v &&& 31) / 2 * 2 = 0 := by
              rcases sh6 (le6 h0 hv6) hv6 with ⟨q, -⟩ | ⟨-, q⟩
              · have := leS h0 hv6 v q
                rw [hvw, hr] at this
                cases this
              · exact q
            repeat (first
              | (conv => whnf
                 try dsimp only
                 try simp (decide := true) only [el, zu_same, zu_ne1, zu_ne2, zu_row, zuL_same, zuL_ne1, zuL_ne2, zrow_n1, zx0, zx1, zx2, zx3, nI_1, Nat.reduceAdd, Nat.reduceMul, Int32.reduceAdd, Int32.reduceSub, Int32.reduceMul]
                 first
                 | refine ⟨zrm (by assumption), ?_⟩
                 | refine ⟨vp_inb (by decide), ?_⟩
                 | refine ⟨by with_reducible exact zi (by omega), ?_⟩
                 | refine ⟨fun h => absurd h (by with_reducible exact nI_ge (by omega) (by omega)), fun _ => ?_⟩
                 | refine ⟨fun _ => ?_, fun h => absurd (by with_reducible exact nI_le (by omega) (by omega)) h⟩
                 | refine ⟨fun h => absurd h (by with_reducible exact nI_nlt (by omega) (by omega)), fun _ => ?_⟩
                 | refine ⟨fun _ => ?_, fun h => absurd (by with_reducible exact nI_lt (by omega) (by omega)) h⟩
                 | refine ⟨fun h => absurd h (by with_reducible exact nI_pos (by omega)), fun _ => ?_⟩
                 | refine ⟨fun _ => ?_, fun h => absurd (by with_reducible exact nI_0le (by omega)) h⟩
                 | refine ⟨fun h => absurd h (by decide), fun _ => ?_⟩
                 | refine ⟨fun _ => ?_, fun h => absurd (by decide) h⟩
                 | refine ⟨fun _ => ?_, fun h => absurd h (by decide)⟩
                 | refine ⟨fun h => absurd (by decide) h, fun _ => ?_⟩
                 | refine ⟨by decide, ?_⟩
                 | refine ⟨rfl, ?_⟩)
              | (conv => whnf
                 fail_if_success refine Exists.intro ?_ ?_
                 simp only [el]))
            try (conv => whnf)
            exact h299 _ _ _ _ _ hw
        · refine hG 40 _ _ _ _ _ ?_
          repeat (first
            | (conv => whnf
               try dsimp only
               try simp (decide := true) only [g0, f5, es, zu_same, zu_ne1, zu_ne2, zu_row, zuL_same, zuL_ne1, zuL_ne2, zrow_n1, zx0, zx1, zx2, zx3, nI_1, Nat.reduceAdd, Nat.reduceMul, Int32.reduceAdd, Int32.reduceSub, Int32.reduceMul]
               first
               | refine ⟨zrm (by assumption), ?_⟩
               | refine ⟨vp_inb (by decide), ?_⟩
               | refine ⟨by with_reducible exact zi (by omega), ?_⟩
               | refine ⟨fun h => absurd h (by with_reducible exact nI_ge (by omega) (by omega)), fun _ => ?_⟩
               | refine ⟨fun _ => ?_, fun h => absurd (by with_reducible exact nI_le (by omega) (by omega)) h⟩
               | refine ⟨fun h => absurd h (by with_reducible exact nI_nlt (by omega) (by omega)), fun _ => ?_⟩
               | refine ⟨fun _ => ?_, fun h => absurd (by with_reducible exact nI_lt (by omega) (by omega)) h⟩
               | refine ⟨fun h => absurd h (by with_reducible exact nI_pos (by omega)), fun _ => ?_⟩
               | refine ⟨fun _ => ?_, fun h => absurd (by with_reducible exact nI_0le (by omega)) h⟩
               | refine ⟨fun h => absurd h (by decide), fun _ => ?_⟩
               | refine ⟨fun _ => ?_, fun h => absurd (by decide) h⟩
               | refine ⟨fun _ => ?_, fun h => absurd h (by decide)⟩
               | refine ⟨fun h => absurd (by decide) h, fun _ => ?_⟩
               | refine ⟨by decide, ?_⟩
               | refine ⟨rfl, ?_⟩)
            | (conv => whnf
               fail_if_success refine Exists.intro ?_ ?_
               simp only [g0, f5, es]))
          try (conv => whnf)
          exact h354 _ _ _ _ _ hw
    have h226 : ∀ (l14 l15 l16 l17 : Option Value) (s : zIn) (t : zLo), wS m pc dr sh rf s t σ0 τ → Gl 226 [some (.ref zS), some (.int (nI ti)), some (.ref 0), some (.ref 1), some (.int (nI st)), some (.int c5), some (.long Dg), none, some (.int come), some (.int (pGr (σ0 104) k)), some (.int 0), some (.int (nI k)), some (.int c0), some (.int (nI tt)), l14, l15, l16, l17] [] (a, b) (m, sh, rf, s, t) := by
      intro l14 l15 l16 l17 s t hw
      refine hG 40 _ _ _ _ _ ?_
      repeat (conv => whnf
              try dsimp only
              try simp (decide := true) only [zu_same, zu_ne1, zu_ne2, zu_row, zuL_same, zuL_ne1, zuL_ne2, zrow_n1, zx0, zx1, zx2, zx3, nI_1, Nat.reduceAdd, Nat.reduceMul, Int32.reduceAdd, Int32.reduceSub, Int32.reduceMul]
              first
              | refine ⟨zrm (by assumption), ?_⟩
              | refine ⟨vp_inb (by decide), ?_⟩
              | refine ⟨by with_reducible exact zi (by omega), ?_⟩
              | refine ⟨fun h => absurd h (by with_reducible exact nI_ge (by omega) (by omega)), fun _ => ?_⟩
              | refine ⟨fun _ => ?_, fun h => absurd (by with_reducible exact nI_le (by omega) (by omega)) h⟩
              | refine ⟨fun h => absurd h (by with_reducible exact nI_nlt (by omega) (by omega)), fun _ => ?_⟩
              | refine ⟨fun _ => ?_, fun h => absurd (by with_reducible exact nI_lt (by omega) (by omega)) h⟩
              | refine ⟨fun h => absurd h (by with_reducible exact nI_pos (by omega)), fun _ => ?_⟩
              | refine ⟨fun _ => ?_, fun h => absurd (by with_reducible exact nI_0le (by omega)) h⟩
              | refine ⟨fun h => absurd h (by decide), fun _ => ?_⟩
              | refine ⟨fun _ => ?_, fun h => absurd (by decide) h⟩
              | refine ⟨fun _ => ?_, fun h => absurd h (by decide)⟩
              | refine ⟨fun h => absurd (by decide) h, fun _ => ?_⟩
              | refine ⟨by decide, ?_⟩
              | refine ⟨rfl, ?_⟩)
      try (conv => whnf)
      exact h236 6 0 _ _ _ s t rfl hw
    refine hG 100 _ _ _ _ _ ?_
    repeat (conv => whnf
            try dsimp only
            try simp (decide := true) only [zu_same, zu_ne1, zu_ne2, zu_row, zuL_same, zuL_ne1, zuL_ne2, zrow_n1, zx0, zx1, zx2, zx3, nI_1, Nat.reduceAdd, Nat.reduceMul, Int32.reduceAdd, Int32.reduceSub, Int32.reduceMul]
            first
            | refine ⟨zrm (by assumption), ?_⟩
            | refine ⟨vp_inb (by decide), ?_⟩
            | refine ⟨by with_reducible exact zi (by omega), ?_⟩
            | refine ⟨fun h => absurd h (by with_reducible exact nI_ge (by omega) (by omega)), fun _ => ?_⟩
            | refine ⟨fun _ => ?_, fun h => absurd (by with_reducible exact nI_le (by omega) (by omega)) h⟩
            | refine ⟨fun h => absurd h (by with_reducible exact nI_nlt (by omega) (by omega)), fun _ => ?_⟩
            | refine ⟨fun _ => ?_, fun h => absurd (by with_reducible exact nI_lt (by omega) (by omega)) h⟩
            | refine ⟨fun h => absurd h (by with_reducible exact nI_pos (by omega)), fun _ => ?_⟩
            | refine ⟨fun _ => ?_, fun h => absurd (by with_reducible exact nI_0le (by omega)) h⟩
            | refine ⟨fun h => absurd h (by decide), fun _ => ?_⟩
            | refine ⟨fun _ => ?_, fun h => absurd (by decide) h⟩
            | refine ⟨fun _ => ?_, fun h => absurd h (by decide)⟩
            | refine ⟨fun h => absurd (by decide) h, fun _ => ?_⟩
            | refine ⟨by decide, ?_⟩
            | refine ⟨rfl, ?_⟩)
    try (conv => whnf)
    obtain ⟨-, σx, hDx, hqx⟩ := id hw
    refine ⟨[.ref 0], σx, τ, rfl, rfl, hBs, hDx.1, (by show 120 ≤ m; omega), (σx, τ, 6, pc, 4), rfl, rfl, wS_gS h0 hqx, ?_⟩
    try dsimp only
    refine ⟨σx, τ, rfl, rfl, fun s2 t2 hc hfr => ?_⟩
    replace hw := wS_q hS hDx hqx hc hfr cTq_r
    try replace hq := wq_f hfr hq
    clear hc hfr hDx
    rw [qL hqx]
    clear hqx
    repeat (conv => whnf
            try dsimp only
            try simp (decide := true) only [zu_same, zu_ne1, zu_ne2, zu_row, zuL_same, zuL_ne1, zuL_ne2, zrow_n1, zx0, zx1, zx2, zx3, nI_1, Nat.reduceAdd, Nat.reduceMul, Int32.reduceAdd, Int32.reduceSub, Int32.reduceMul]
            first
            | refine ⟨zrm (by assumption), ?_⟩
            | refine ⟨vp_inb (by decide), ?_⟩
            | refine ⟨by with_reducible exact zi (by omega), ?_⟩
            | refine ⟨fun h => absurd h (by with_reducible exact nI_ge (by omega) (by omega)), fun _ => ?_⟩
            | refine ⟨fun _ => ?_, fun h => absurd (by with_reducible exact nI_le (by omega) (by omega)) h⟩
            | refine ⟨fun h => absurd h (by with_reducible exact nI_nlt (by omega) (by omega)), fun _ => ?_⟩
            | refine ⟨fun _ => ?_, fun h => absurd (by with_reducible exact nI_lt (by omega) (by omega)) h⟩
            | refine ⟨fun h => absurd h (by with_reducible exact nI_pos (by omega)), fun _ => ?_⟩
            | refine ⟨fun _ => ?_, fun h => absurd (by with_reducible exact nI_0le (by omega)) h⟩
            | refine ⟨fun h => absurd h (by decide), fun _ => ?_⟩
            | refine ⟨fun _ => ?_, fun h => absurd (by decide) h⟩
            | refine ⟨fun _ => ?_, fun h => absurd h (by decide)⟩
            | refine ⟨fun h => absurd (by decide) h, fun _ => ?_⟩
            | refine ⟨by decide, ?_⟩
            | refine ⟨rfl, ?_⟩)
    try (conv => whnf)
    obtain ⟨-, σx, hDx, hqx⟩ := id hw
    refine ⟨[.ref 0, .int (nI k), .int 0], σx, τ, rfl, rfl, hBs, hDx.1, (by show 120 ≤ m; omega), (σx, τ, 6, pc, 4, k, 0), rfl, rfl, ⟨wS_gS h0 hqx, by rw [qL hqx]; exact hk', by decide⟩, ?_⟩
    try dsimp only
    refine ⟨σx, τ, rfl, rfl, fun s2 t2 hc hfr => ?_⟩
    replace hw := wS_q hS hDx hqx hc hfr cTq_r
    try replace hq := wq_f hfr hq
    clear hc hfr hDx
    rw [qT hqx, e0]
    clear hqx
    repeat (conv => whnf
            try dsimp only
            try simp (decide := true) only [zu_same, zu_ne1, zu_ne2, zu_row, zuL_same, zuL_ne1, zuL_ne2, zrow_n1, zx0, zx1, zx2, zx3, nI_1, Nat.reduceAdd, Nat.reduceMul, Int32.reduceAdd, Int32.reduceSub, Int32.reduceMul]
            first
            | refine ⟨zrm (by assumption), ?_⟩
            | refine ⟨vp_inb (by decide), ?_⟩
            | refine ⟨by with_reducible exact zi (by omega), ?_⟩
            | refine ⟨fun h => absurd h (by with_reducible exact nI_ge (by omega) (by omega)), fun _ => ?_⟩
            | refine ⟨fun _ => ?_, fun h => absurd (by with_reducible exact nI_le (by omega) (by omega)) h⟩
            | refine ⟨fun h => absurd h (by with_reducible exact nI_nlt (by omega) (by omega)), fun _ => ?_⟩
            | refine ⟨fun _ => ?_, fun h => absurd (by with_reducible exact nI_lt (by omega) (by omega)) h⟩
            | refine ⟨fun h => absurd h (by with_reducible exact nI_pos (by omega)), fun _ => ?_⟩
            | refine ⟨fun _ => ?_, fun h => absurd (by with_reducible exact nI_0le (by omega)) h⟩
            | refine ⟨fun h => absurd h (by decide), fun _ => ?_⟩
            | refine ⟨fun _ => ?_, fun h => absurd (by decide) h⟩
            | refine ⟨fun _ => ?_, fun h => absurd h (by decide)⟩
            | refine ⟨fun h => absurd (by decide) h, fun _ => ?_⟩
            | refine ⟨by decide, ?_⟩
            | refine ⟨rfl, ?_⟩)
    try (conv => whnf)
    obtain ⟨-, σx, hDx, hqx⟩ := id hw
    refine ⟨[.ref 0, .int (nI k), .int 2], σx, τ, rfl, rfl, hBs, hDx.1, (by show 120 ≤ m; omega), (σx, τ, 6, pc, 4, k, 2), rfl, rfl, ⟨wS_gS h0 hqx, by rw [qL hqx]; exact hk', by decide⟩, ?_⟩
    try dsimp only
    refine ⟨σx, τ, rfl, rfl, fun s2 t2 hc hfr => ?_⟩
    replace hw := wS_q hS hDx hqx hc hfr cTq_r
    try replace hq := wq_f hfr hq
    clear hc hfr hDx
    rw [qT hqx, e2]
    clear hqx
    repeat (conv => whnf
            try dsimp only
            try simp (decide := true) only [zu_same, zu_ne1, zu_ne2, zu_row, zuL_same, zuL_ne1, zuL_ne2, zrow_n1, zx0, zx1, zx2, zx3, nI_1, Nat.reduceAdd, Nat.reduceMul, Int32.reduceAdd, Int32.reduceSub, Int32.reduceMul]
            first
            | refine ⟨zrm (by assumption), ?_⟩
            | refine ⟨vp_inb (by decide), ?_⟩
            | refine ⟨by with_reducible exact zi (by omega), ?_⟩
            | refine ⟨fun h => absurd h (by with_reducible exact nI_ge (by omega) (by omega)), fun _ => ?_⟩
            | refine ⟨fun _ => ?_, fun h => absurd (by with_reducible exact nI_le (by omega) (by omega)) h⟩
            | refine ⟨fun h => absurd h (by with_reducible exact nI_nlt (by omega) (by omega)), fun _ => ?_⟩
            | refine ⟨fun _ => ?_, fun h => absurd (by with_reducible exact nI_lt (by omega) (by omega)) h⟩
            | refine ⟨fun h => absurd h (by with_reducible exact nI_pos (by omega)), fun _ => ?_⟩
            | refine ⟨fun _ => ?_, fun h => absurd (by with_reducible exact nI_0le (by omega)) h⟩
            | refine ⟨fun h => absurd h (by decide), fun _ => ?_⟩
            | refine ⟨fun _ => ?_, fun h => absurd (by decide) h⟩
            | refine ⟨fun _ => ?_, fun h => absurd h (by decide)⟩
            | refine ⟨fun h => absurd (by decide) h, fun _ => ?_⟩
            | refine ⟨by decide, ?_⟩
            | refine ⟨rfl, ?_⟩)
    try (conv => whnf)
    first | refine ⟨fun h => absurd h hcne, fun _ => ?_⟩ | refine ⟨fun _ => ?_, fun h => absurd h hcne⟩
    repeat (first
      | (conv => whnf
         try dsimp only
         try simp (decide := true) only [hdis, show (40 : Int32) = nI 40 from rfl, zu_same, zu_ne1, zu_ne2, zu_row, zuL_same, zuL_ne1, zuL_ne2, zrow_n1, zx0, zx1, zx2, zx3, nI_1, Nat.reduceAdd, Nat.reduceMul, Int32.reduceAdd, Int32.reduceSub, Int32.reduceMul]
         first
         | refine ⟨zrm (by assumption), ?_⟩
         | refine ⟨vp_inb (by decide), ?_⟩
         | refine ⟨by with_reducible exact zi (by omega), ?_⟩
         | refine ⟨fun h => absurd h (by with_reducible exact nI_ge (by omega) (by omega)), fun _ => ?_⟩
         | refine ⟨fun _ => ?_, fun h => absurd (by with_reducible exact nI_le (by omega) (by omega)) h⟩
         | refine ⟨fun h => absurd h (by with_reducible exact nI_nlt (by omega) (by omega)), fun _ => ?_⟩
         | refine ⟨fun _ => ?_, fun h => absurd (by with_reducible exact nI_lt (by omega) (by omega)) h⟩
         | refine ⟨fun h => absurd h (by with_reducible exact nI_pos (by omega)), fun _ => ?_⟩
         | refine ⟨fun _ => ?_, fun h => absurd (by with_reducible exact nI_0le (by omega)) h⟩
         | refine ⟨fun h => absurd h (by decide), fun _ => ?_⟩
         | refine ⟨fun _ => ?_, fun h => absurd (by decide) h⟩
         | refine ⟨fun _ => ?_, fun h => absurd h (by decide)⟩
         | refine ⟨fun h => absurd (by decide) h, fun _ => ?_⟩
         | refine ⟨by decide, ?_⟩
         | refine ⟨rfl, ?_⟩)
      | (conv => whnf
         fail_if_success refine Exists.intro ?_ ?_
         simp only [hdis, show (40 : Int32) = nI 40 from rfl]))
    try (conv => whnf)
    obtain ⟨-, σx, hDx, hqx⟩ := id hw
    refine ⟨[.ref 0, .int (nI k), .int 1], σx, τ, rfl, rfl, hBs, hDx.1, (by show 120 ≤ m; omega), (σx, τ, 6, pc, 4, k, 1), rfl, rfl, ⟨wS_gS h0 hqx, by rw [qL hqx]; exact hk', by decide⟩, ?_⟩
    try dsimp only
    refine ⟨σx, τ, rfl, rfl, fun s2 t2 hc hfr => ?_⟩
    replace hw := wS_q hS hDx hqx hc hfr cTq_r
    try replace hq := wq_f hfr hq
    clear hc hfr hDx
    rw [qT hqx, e1]
    clear hqx
    cases hr : bt (lR σ0 w) w with
    | true =>
      rw [if_pos rfl]
      repeat (conv => whnf
              try dsimp only
              try simp (decide := true) only [zu_same, zu_ne1, zu_ne2, zu_row, zuL_same, zuL_ne1, zuL_ne2, zrow_n1, zx0, zx1, zx2, zx3, nI_1, Nat.reduceAdd, Nat.reduceMul, Int32.reduceAdd, Int32.reduceSub, Int32.reduceMul]
              first
              | refine ⟨zrm (by assumption), ?_⟩
              | refine ⟨vp_inb (by decide), ?_⟩
              | refine ⟨by with_reducible exact zi (by omega), ?_⟩
              | refine ⟨fun h => absurd h (by with_reducible exact nI_ge (by omega) (by omega)), fun _ => ?_⟩
              | refine ⟨fun _ => ?_, fun h => absurd (by with_reducible exact nI_le (by omega) (by omega)) h⟩
              | refine ⟨fun h => absurd h (by with_reducible exact nI_nlt (by omega) (by omega)), fun _ => ?_⟩
              | refine ⟨fun _ => ?_, fun h => absurd (by with_reducible exact nI_lt (by omega) (by omega)) h⟩
              | refine ⟨fun h => absurd h (by with_reducible exact nI_pos (by omega)), fun _ => ?_⟩
              | refine ⟨fun _ => ?_, fun h => absurd (by with_reducible exact nI_0le (by omega)) h⟩
              | refine ⟨fun h => absurd h (by decide), fun _ => ?_⟩
              | refine ⟨fun _ => ?_, fun h => absurd (by decide) h⟩
              | refine ⟨fun _ => ?_, fun h => absurd h (by decide)⟩
              | refine ⟨fun h => absurd (by decide) h, fun _ => ?_⟩
              | refine ⟨by decide, ?_⟩
              | refine ⟨rfl, ?_⟩)
      try (conv => whnf)
      obtain ⟨-, σx, hDx, hqx⟩ := id hw
      refine ⟨[.ref 0, .int (nI k), .int 3], σx, τ, rfl, rfl, hBs, hDx.1, (by show 120 ≤ m; omega), (σx, τ, 6, pc, 4, k, 3), rfl, rfl, ⟨wS_gS h0 hqx, by rw [qL hqx]; exact hk', by decide⟩, ?_⟩
      try dsimp only
      refine ⟨σx, τ, rfl, rfl, fun s2 t2 hc hfr => ?_⟩
      replace hw := wS_q hS hDx hqx hc hfr cTq_r
      try replace hq := wq_f hfr hq
      clear hc hfr hDx
      rw [qT hqx]
      clear hqx
      rcases e3 with q | ⟨q, ht, -⟩
      · rw [q]
        repeat (conv => whnf
                try dsimp only
                try simp (decide := true) only [zu_same, zu_ne1, zu_ne2, zu_row, zuL_same, zuL_ne1, zuL_ne2, zrow_n1, zx0, zx1, zx2, zx3, nI_1, Nat.reduceAdd, Nat.reduceMul, Int32.reduceAdd, Int32.reduceSub, Int32.reduceMul]
                first
                | refine ⟨zrm (by assumption), ?_⟩
                | refine ⟨vp_inb (by decide), ?_⟩
                | refine ⟨by with_reducible exact zi (by omega), ?_⟩
                | refine ⟨fun h => absurd h (by with_reducible exact nI_ge (by omega) (by omega)), fun _ => ?_⟩
                | refine ⟨fun _ => ?_, fun h => absurd (by with_reducible exact nI_le (by omega) (by omega)) h⟩
                | refine ⟨fun h => absurd h (by with_reducible exact nI_nlt (by omega) (by omega)), fun _ => ?_⟩
                | refine ⟨fun _ => ?_, fun h => absurd (by with_reducible exact nI_lt (by omega) (by omega)) h⟩
                | refine ⟨fun h => absurd h (by with_reducible exact nI_pos (by omega)), fun _ => ?_⟩
                | refine ⟨fun _ => ?_, fun h => absurd (by with_reducible exact nI_0le (by omega)) h⟩
                | refine ⟨fun h => absurd h (by decide), fun _ => ?_⟩
                | refine ⟨fun _ => ?_, fun h => absurd (by decide) h⟩
                | refine ⟨fun _ => ?_, fun h => absurd h (by decide)⟩
                | refine ⟨fun h => absurd (by decide) h, fun _ => ?_⟩
                | refine ⟨by decide, ?_⟩
                | refine ⟨rfl, ?_⟩)
        try (conv => whnf)
        exact h226 _ _ _ _ _ _ hw
      · rw [q]
        subst ht
        repeat (first
          | (conv => whnf
             try dsimp only
             try simp (decide := true) only [show nI 40 = 40 from rfl, zu_same, zu_ne1, zu_ne2, zu_row, zuL_same, zuL_ne1, zuL_ne2, zrow_n1, zx0, zx1, zx2, zx3, nI_1, Nat.reduceAdd, Nat.reduceMul, Int32.reduceAdd, Int32.reduceSub, Int32.reduceMul]
             first
             | refine ⟨zrm (by assumption), ?_⟩
             | refine ⟨vp_inb (by decide), ?_⟩
             | refine ⟨by with_reducible exact zi (by omega), ?_⟩
             | refine ⟨fun h => absurd h (by with_reducible exact nI_ge (by omega) (by omega)), fun _ => ?_⟩
             | refine ⟨fun _ => ?_, fun h => absurd (by with_reducible exact nI_le (by omega) (by omega)) h⟩
             | refine ⟨fun h => absurd h (by with_reducible exact nI_nlt (by omega) (by omega)), fun _ => ?_⟩
             | refine ⟨fun _ => ?_, fun h => absurd (by with_reducible exact nI_lt (by omega) (by omega)) h⟩
             | refine ⟨fun h => absurd h (by with_reducible exact nI_pos (by omega)), fun _ => ?_⟩
             | refine ⟨fun _ => ?_, fun h => absurd (by with_reducible exact nI_0le (by omega)) h⟩
             | refine ⟨fun h => absurd h (by decide), fun _ => ?_⟩
             | refine ⟨fun _ => ?_, fun h => absurd (by decide) h⟩
             | refine ⟨fun _ => ?_, fun h => absurd h (by decide)⟩
             | refine ⟨fun h => absurd (by decide) h, fun _ => ?_⟩
             | refine ⟨by decide, ?_⟩
             | refine ⟨rfl, ?_⟩)
          | (conv => whnf
             fail_if_success refine Exists.intro ?_ ?_
             simp only [show nI 40 = 40 from rfl]))
        try (conv => whnf)
        obtain ⟨-, σx, hDx, hqx⟩ := id hw
        refine ⟨[.ref 0, .int (nI k), .int 1], σx, τ, rfl, rfl, hBs, hDx.1, (by show 120 ≤ m; omega), (σx, τ, 6, pc, 4, k, 1), rfl, rfl, ⟨wS_gS h0 hqx, by rw [qL hqx]; exact hk', by decide⟩, ?_⟩
        try dsimp only
        refine ⟨σx, τ, rfl, rfl, fun s2 t2 hc hfr => ?_⟩
        replace hw := wS_q hS hDx hqx hc hfr cTq_r
        try replace hq := wq_f hfr hq
        clear hc hfr hDx
        rw [qT hqx, e1, hr, if_pos rfl]
        clear hqx
        repeat (conv => whnf
                try dsimp only
                try simp (decide := true) only [zu_same, zu_ne1, zu_ne2, zu_row, zuL_same, zuL_ne1, zuL_ne2, zrow_n1, zx0, zx1, zx2, zx3, nI_1, Nat.reduceAdd, Nat.reduceMul, Int32.reduceAdd, Int32.reduceSub, Int32.reduceMul]
                first
                | refine ⟨zrm (by assumption), ?_⟩
                | refine ⟨vp_inb (by decide), ?_⟩
                | refine ⟨by with_reducible exact zi (by omega), ?_⟩
                | refine ⟨fun h => absurd h (by with_reducible exact nI_ge (by omega) (by omega)), fun _ => ?_⟩
                | refine ⟨fun _ => ?_, fun h => absurd (by with_reducible exact nI_le (by omega) (by omega)) h⟩
                | refine ⟨fun h => absurd h (by with_reducible exact nI_nlt (by omega) (by omega)), fun _ => ?_⟩
                | refine ⟨fun _ => ?_, fun h => absurd (by with_reducible exact nI_lt (by omega) (by omega)) h⟩
                | refine ⟨fun h => absurd h (by with_reducible exact nI_pos (by omega)), fun _ => ?_⟩
                | refine ⟨fun _ => ?_, fun h => absurd (by with_reducible exact nI_0le (by omega)) h⟩
                | refine ⟨fun h => absurd h (by decide), fun _ => ?_⟩
                | refine ⟨fun _ => ?_, fun h => absurd (by decide) h⟩
                | refine ⟨fun _ => ?_, fun h => absurd h (by decide)⟩
                | refine ⟨fun h => absurd (by decide) h, fun _ => ?_⟩
                | refine ⟨by decide, ?_⟩
                | refine ⟨rfl, ?_⟩)
        try (conv => whnf)
        exact h226 _ _ _ _ _ _ hw
    | false =>
      rw [if_neg (by decide)]
      have h00 := ht0 hr
      subst h00
      have q : pTc σ0 k 3 = 0 := e3.elim id (fun z => by rw [hr] at z; cases z.2.2)
      repeat (first
        | (conv => whnf
           try dsimp only
           try simp (decide := true) only [show nI 0 = 0 from rfl, zu_same, zu_ne1, zu_ne2, zu_row, zuL_same, zuL_ne1, zuL_ne2, zrow_n1, zx0, zx1, zx2, zx3, nI_1, Nat.reduceAdd, Nat.reduceMul, Int32.reduceAdd, Int32.reduceSub, Int32.reduceMul]
           first
           | refine ⟨zrm (by assumption), ?_⟩
           | refine ⟨vp_inb (by decide), ?_⟩
           | refine ⟨by with_reducible exact zi (by omega), ?_⟩
           | refine ⟨fun h => absurd h (by with_reducible exact nI_ge (by omega) (by omega)), fun _ => ?_⟩
           | refine ⟨fun _ => ?_, fun h => absurd (by with_reducible exact nI_le (by omega) (by omega)) h⟩
           | refine ⟨fun h => absurd h (by with_reducible exact nI_nlt (by omega) (by omega)), fun _ => ?_⟩
           | refine ⟨fun _ => ?_, fun h => absurd (by with_reducible exact nI_lt (by omega) (by omega)) h⟩
           | refine ⟨fun h => absurd h (by with_reducible exact nI_pos (by omega)), fun _ => ?_⟩
           | refine ⟨fun _ => ?_, fun h => absurd (by with_reducible exact nI_0le (by omega)) h⟩
           | refine ⟨fun h => absurd h (by decide), fun _ => ?_⟩
           | refine ⟨fun _ => ?_, fun h => absurd (by decide) h⟩
           | refine ⟨fun _ => ?_, fun h => absurd h (by decide)⟩
           | refine ⟨fun h => absurd (by decide) h, fun _ => ?_⟩
           | refine ⟨by decide, ?_⟩
           | refine ⟨rfl, ?_⟩)
        | (conv => whnf
           fail_if_success refine Exists.intro ?_ ?_
           simp only [show nI 0 = 0 from rfl]))
      try (conv => whnf)
      obtain ⟨-, σx, hDx, hqx⟩ := id hw
      refine ⟨[.ref 0, .int (nI k), .int 3], σx, τ, rfl, rfl, hBs, hDx.1, (by show 120 ≤ m; omega), (σx, τ, 6, pc, 4, k, 3), rfl, rfl, ⟨wS_gS h0 hqx, by rw [qL hqx]; exact hk', by decide⟩, ?_⟩
      try dsimp only
      refine ⟨σx, τ, rfl, rfl, fun s2 t2 hc hfr => ?_⟩
      replace hw := wS_q hS hDx hqx hc hfr cTq_r
      try replace hq := wq_f hfr hq
      clear hc hfr hDx
      rw [qT hqx, q]
      clear hqx
      repeat (conv => whnf
              try dsimp only
              try simp (decide := true) only [zu_same, zu_ne1, zu_ne2, zu_row, zuL_same, zuL_ne1, zuL_ne2, zrow_n1, zx0, zx1, zx2, zx3, nI_1, Nat.reduceAdd, Nat.reduceMul, Int32.reduceAdd, Int32.reduceSub, Int32.reduceMul]
              first
              | refine ⟨zrm (by assumption), ?_⟩
              | refine ⟨vp_inb (by decide), ?_⟩
              | refine ⟨by with_reducible exact zi (by omega), ?_⟩
              | refine ⟨fun h => absurd h (by with_reducible exact nI_ge (by omega) (by omega)), fun _ => ?_⟩
              | refine ⟨fun _ => ?_, fun h => absurd (by with_reducible exact nI_le (by omega) (by omega)) h⟩
              | refine ⟨fun h => absurd h (by with_reducible exact nI_nlt (by omega) (by omega)), fun _ => ?_⟩
              | refine ⟨fun _ => ?_, fun h => absurd (by with_reducible exact nI_lt (by omega) (by omega)) h⟩
              | refine ⟨fun h => absurd h (by with_reducible exact nI_pos (by omega)), fun _ => ?_⟩
              | refine ⟨fun _ => ?_, fun h => absurd (by with_reducible exact nI_0le (by omega)) h⟩
              | refine ⟨fun h => absurd h (by decide), fun _ => ?_⟩
              | refine ⟨fun _ => ?_, fun h => absurd (by decide) h⟩
              | refine ⟨fun _ => ?_, fun h => absurd h (by decide)⟩
              | refine ⟨fun h => absurd (by decide) h, fun _ => ?_⟩
              | refine ⟨by decide, ?_⟩
              | refine ⟨rfl, ?_⟩)
      try (conv => whnf)
      exact h226 _ _ _ _ _ _ hw

/-! ===== the law: the faults ===== -/
set_option maxRecDepth 100000
set_option maxHeartbeats 4000000
/-- what the law holds of a row of its own -/
def wQ (q : Nat) (s : zIn) (σ0 : zIn) : Prop := 135 ≤ q ∧ ∀ v, v < 16 → ¬ s q v = 0 → bt (σ0 90 7) v = true
theorem wq_f {q : Nat} {s s1 : zIn} {t t1 : zLo} {σ0 : zIn} (hf : ∀ k, k = 0 ∨ 120 ≤ k → s1 k = s k ∧ t1 k = t k) (h : wQ q s σ0) : wQ q s1 σ0 :=
  ⟨h.1, fun v hv hn => h.2 v hv (by rw [← (hf q (Or.inr (by have := h.1; omega))).1]; exact hn)⟩
theorem wS_new {m pc dr : Nat} {sh sh1 : zSh} {rf rf1 : zRf} {s s1 : zIn} {t t1 : zLo} {σ0 : zIn} {τ : zLo} (h : wS m pc dr sh rf s t σ0 τ) (hm : m < 100000) (e1 : ∀ j, j ≠ m → sh1 j = sh j) (e2 : ∀ j, j ≠ m → rf1 j = rf j) (e3 : ∀ r, r ≠ m → s1 r = s r) (e4 : ∀ r, r ≠ m → t1 r = t r) : wS (m + 1) pc dr sh1 rf1 s1 t1 σ0 τ :=
  ⟨lS_new h.1 hm e1 e2, by obtain ⟨hS, σ, hD, hq⟩ := h; exact ⟨σ, lD_new hS hD e3 e4, hq⟩⟩
theorem wS_row {m pc dr q j : Nat} {x : Int32} {sh : zSh} {rf : zRf} {s : zIn} {t : zLo} {σ0 : zIn} {τ : zLo} (h : wS m pc dr sh rf s t σ0 τ) (hq : 135 ≤ q) : wS m pc dr sh rf (zu s q j x) t σ0 τ := by
  obtain ⟨hS, σ, hD, hq9⟩ := h
  refine ⟨hS, σ, ⟨zBc_zu (Or.inr (by omega)) hD.1, ?_, fun u hu => ?_, fun v hv => ?_⟩, hq9⟩
  · rw [zu_row (by omega)]
    exact hD.2.1
  · rw [zu_row (by omega)]
    exact hD.2.2.1 u hu
  · rw [zu_row (by omega)]
    exact hD.2.2.2 v hv
theorem wQ_zu {q v : Nat} {x : Int32} {s : zIn} {σ0 : zIn} (h : wQ q s σ0) (hb : bt (σ0 90 7) v = true) : wQ q (zu s q v x) σ0 := by
  refine ⟨h.1, fun u hu hn => ?_⟩
  by_cases e : u = v
  · rw [e]
    exact hb
  · rw [zu_ne2 e] at hn
    exact h.2 u hu hn
theorem lw_E (Gl : zK) (hG : zSt (zCL_lawE calE) [375, 408] Gl) {ti st m pc dr a b : Nat} {c5 : Int32} {Dg : Int64} (hκ : a ≤ 200000 ∧ b ≤ 2000000) (hκ1 : a + 1 ≤ 200000 ∧ b + 16 ≤ 2000000) (hm9 : m < 100000) {sh : zSh} {rf : zRf} {σ0 : zIn} {τ : zLo} (hS : lS m 4 6 sh rf) (h0 : gS σ0 τ 6 pc 4)
    (h408 : ∀ (l13 l14 l15 l16 l17 : Option Value) (q : Nat) (sh : zSh) (rf : zRf) (s : zIn) (t : zLo), wS (m + 1) pc dr sh rf s t σ0 τ → sh q = (102, 16) → wQ q s σ0 → (let i := 0; Gl 408 [some (.ref zS), some (.int (nI ti)), some (.ref 0), some (.ref 1), some (.int (nI st)), some (.int c5), some (.long Dg), none, some (.int 63), some (.int (pGr (σ0 104) (cL σ0 6).length)), some (.int 0), some (.ref q), some (.int (nI i)), l13, l14, l15, l16, l17] [] (a + 1, b + 16) (m + 1, sh, rf, s, t))) :
    ∀ (l11 l12 l13 l14 l15 l16 l17 : Option Value) (s : zIn) (t : zLo), wS m pc dr sh rf s t σ0 τ → Gl 375 [some (.ref zS), some (.int (nI ti)), some (.ref 0), some (.ref 1), some (.int (nI st)), some (.int c5), some (.long Dg), none, some (.int 63), some (.int (pGr (σ0 104) (cL σ0 6).length)), some (.int 0), l11, l12, l13, l14, l15, l16, l17] [] (a, b) (m, sh, rf, s, t) := by
  obtain ⟨⟨hm, -, hm2, -⟩, hBs, h999, ⟨g0, -, h121, -⟩, ⟨r0, r1, -, r6, -⟩, -, hv9⟩ := id hS
  intro l11 l12 l13 l14 l15 l16 l17 s t hw
  have f5 := (wS_f hw).1
  have e63 : (1 : Int32) <<< (nI 6 &&& 31) - 1 = 63 := by decide +kernel
  refine hG 40 _ _ _ _ _ ?_
  repeat (first
    | (conv => whnf
       try dsimp only
       try simp (decide := true) only [g0, f5, e63, zu_same, zu_ne1, zu_ne2, zu_row, zuL_same, zuL_ne1, zuL_ne2, zrow_n1, zx0, zx1, zx2, zx3, nI_1, Nat.reduceAdd, Nat.reduceMul, Int32.reduceAdd, Int32.reduceSub, Int32.reduceMul]
       first
       | refine ⟨zrm (by assumption), ?_⟩
       | refine ⟨vp_inb (by decide), ?_⟩
       | refine ⟨by with_reducible exact zi (by omega), ?_⟩
       | refine ⟨fun h => absurd h (by with_reducible exact nI_ge (by omega) (by omega)), fun _ => ?_⟩
       | refine ⟨fun _ => ?_, fun h => absurd (by with_reducible exact nI_le (by omega) (by omega)) h⟩
       | refine ⟨fun h => absurd h (by with_reducible exact nI_nlt (by omega) (by omega)), fun _ => ?_⟩
       | refine ⟨fun _ => ?_, fun h => absurd (by with_reducible exact nI_lt (by omega) (by omega)) h⟩
       | refine ⟨fun h => absurd h (by with_reducible exact nI_pos (by omega)), fun _ => ?_⟩
       | refine ⟨fun _ => ?_, fun h => absurd (by with_reducible exact nI_0le (by omega)) h⟩
       | refine ⟨fun h => absurd h (by decide), fun _ => ?_⟩
       | refine ⟨fun _ => ?_, fun h => absurd (by decide) h⟩
       | refine ⟨fun _ => ?_, fun h => absurd h (by decide)⟩
       | refine ⟨fun h => absurd (by decide) h, fun _ => ?_⟩
       | refine ⟨by decide, ?_⟩
       | refine ⟨rfl, ?_⟩)
    | (conv => whnf
       fail_if_success refine Exists.intro ?_ ?_
       simp only [g0, f5, e63]))
  try (conv => whnf)
  obtain ⟨-, σx, hDx, hqx⟩ := id hw
  refine ⟨[.ref 0], σx, τ, rfl, rfl, hBs, hDx.1, (by show 120 ≤ m; omega), (σx, τ, 6, pc, 4), rfl, rfl, wS_gS h0 hqx, ?_⟩
  try dsimp only
  refine ⟨σx, τ, rfl, rfl, fun s2 t2 hc hfr => ?_⟩
  replace hw := wS_q hS hDx hqx hc hfr cTq_r
  try replace hq := wq_f hfr hq
  clear hc hfr hDx
  rw [hqx 104 (by decide) (by decide), qL hqx]
  clear hqx
  repeat (conv => whnf
          try dsimp only
          try simp (decide := true) only [zu_same, zu_ne1, zu_ne2, zu_row, zuL_same, zuL_ne1, zuL_ne2, zrow_n1, zx0, zx1, zx2, zx3, nI_1, Nat.reduceAdd, Nat.reduceMul, Int32.reduceAdd, Int32.reduceSub, Int32.reduceMul]
          first
          | refine ⟨zrm (by assumption), ?_⟩
          | refine ⟨vp_inb (by decide), ?_⟩
          | refine ⟨by with_reducible exact zi (by omega), ?_⟩
          | refine ⟨fun h => absurd h (by with_reducible exact nI_ge (by omega) (by omega)), fun _ => ?_⟩
          | refine ⟨fun _ => ?_, fun h => absurd (by with_reducible exact nI_le (by omega) (by omega)) h⟩
          | refine ⟨fun h => absurd h (by with_reducible exact nI_nlt (by omega) (by omega)), fun _ => ?_⟩
          | refine ⟨fun _ => ?_, fun h => absurd (by with_reducible exact nI_lt (by omega) (by omega)) h⟩
          | refine ⟨fun h => absurd h (by with_reducible exact nI_pos (by omega)), fun _ => ?_⟩
          | refine ⟨fun _ => ?_, fun h => absurd (by with_reducible exact nI_0le (by omega)) h⟩
          | refine ⟨fun h => absurd h (by decide), fun _ => ?_⟩
          | refine ⟨fun _ => ?_, fun h => absurd (by decide) h⟩
          | refine ⟨fun _ => ?_, fun h => absurd h (by decide)⟩
          | refine ⟨fun h => absurd (by decide) h, fun _ => ?_⟩
          | refine ⟨by decide, ?_⟩
          | refine ⟨rfl, ?_⟩)
  try (conv => whnf)
  refine ⟨⟨by decide, by decide, show a + 0 + 1 ≤ 600074 from by omega, show b + 0 + 16 ≤ 7301550 from by omega⟩, ?_⟩
  repeat (conv => whnf
          try dsimp only
          try simp (decide := true) only [zu_same, zu_ne1, zu_ne2, zu_row, zuL_same, zuL_ne1, zuL_ne2, zrow_n1, zx0, zx1, zx2, zx3, nI_1, Nat.reduceAdd, Nat.reduceMul, Int32.reduceAdd, Int32.reduceSub, Int32.reduceMul]
          first
          | refine ⟨zrm (by assumption), ?_⟩
          | refine ⟨vp_inb (by decide), ?_⟩
          | refine ⟨by with_reducible exact zi (by omega), ?_⟩
          | refine ⟨fun h => absurd h (by with_reducible exact nI_ge (by omega) (by omega)), fun _ => ?_⟩
          | refine ⟨fun _ => ?_, fun h => absurd (by with_reducible exact nI_le (by omega) (by omega)) h⟩
          | refine ⟨fun h => absurd h (by with_reducible exact nI_nlt (by omega) (by omega)), fun _ => ?_⟩
          | refine ⟨fun _ => ?_, fun h => absurd (by with_reducible exact nI_lt (by omega) (by omega)) h⟩
          | refine ⟨fun h => absurd h (by with_reducible exact nI_pos (by omega)), fun _ => ?_⟩
          | refine ⟨fun _ => ?_, fun h => absurd (by with_reducible exact nI_0le (by omega)) h⟩
          | refine ⟨fun h => absurd h (by decide), fun _ => ?_⟩
          | refine ⟨fun _ => ?_, fun h => absurd (by decide) h⟩
          | refine ⟨fun _ => ?_, fun h => absurd h (by decide)⟩
          | refine ⟨fun h => absurd (by decide) h, fun _ => ?_⟩
          | refine ⟨by decide, ?_⟩
          | refine ⟨rfl, ?_⟩)
  try (conv => whnf)
  try dsimp only
  try simp (decide := true) only [zu_same, zu_ne1, zu_ne2, zu_row, zuL_same, zuL_ne1, zuL_ne2, zrow_n1, zx0, zx1, zx2, zx3, nI_1, Nat.reduceAdd, Nat.reduceMul, Int32.reduceAdd, Int32.reduceSub, Int32.reduceMul]
  exact h408 _ _ _ _ _ m (zuS sh m (102, 16)) (zrowR rf m (fun _ => none)) (zrow s2 m (fun _ => 0)) (zrowL t2 m (fun _ => 0)) (wS_new hw hm9 zuS_ne (fun j hj => if_neg hj) (fun r hr => zrow_ne hr) (fun r hr => if_neg hr)) zuS_same ⟨by have := hm2 (by decide); omega, fun v hv hn => absurd (by rw [zrow_self]) hn⟩
theorem lw_F (Gl : zK) (hG : zSt (zCL_lawF calF) [408, 437] Gl) {q ti st m pc dr a b : Nat} {c5 : Int32} {Dg : Int64} (hκ : a ≤ 200000 ∧ b ≤ 2000000) {sh : zSh} {rf : zRf} {σ0 : zIn} {τ : zLo} (hS : lS m 4 6 sh rf) (h0 : gS σ0 τ 6 pc 4) (hq2 : sh q = (102, 16))
    (h437 : ∀ (l13 l14 l15 l16 l17 : Option Value) (s : zIn) (t : zLo), wS m pc dr sh rf s t σ0 τ → wQ q s σ0 → (let i := 0; Gl 437 [some (.ref zS), some (.int (nI ti)), some (.ref 0), some (.ref 1), some (.int (nI st)), some (.int c5), some (.long Dg), none, some (.int 63), some (.int (pGr (σ0 104) (cL σ0 6).length)), some (.int 0), some (.ref q), some (.int (nI i)), l13, l14, l15, l16, l17] [] (a, b) (m, sh, rf, s, t))) :
    ∀ (l13 l14 l15 l16 l17 : Option Value) (s : zIn) (t : zLo), wS m pc dr sh rf s t σ0 τ → wQ q s σ0 → (let i := 0; Gl 408 [some (.ref zS), some (.int (nI ti)), some (.ref 0), some (.ref 1), some (.int (nI st)), some (.int c5), some (.long Dg), none, some (.int 63), some (.int (pGr (σ0 104) (cL σ0 6).length)), some (.int 0), some (.ref q), some (.int (nI i)), l13, l14, l15, l16, l17] [] (a, b) (m, sh, rf, s, t)) := by
  obtain ⟨⟨hm, -⟩, hBs, h999, ⟨g0, -, h121, -⟩, ⟨r0, r1, -, r6, -⟩, -, hv9⟩ := id hS
  obtain ⟨c, hc9, hc, hck, -⟩ := gS_ft h0
  have loop : ∀ (f i : Nat) (l13 l14 l15 l16 l17 : Option Value) (s : zIn) (t : zLo), i + f = c → wS m pc dr sh rf s t σ0 τ → wQ q s σ0 → Gl 408 [some (.ref zS), some (.int (nI ti)), some (.ref 0), some (.ref 1), some (.int (nI st)), some (.int c5), some (.long Dg), none, some (.int 63), some (.int (pGr (σ0 104) (cL σ0 6).length)), some (.int 0), some (.ref q), some (.int (nI i)), l13, l14, l15, l16, l17] [] (a, b) (m, sh, rf, s, t) := by
    intro f
    induction f with
    | zero =>
      intro i l13 l14 l15 l16 l17 s t hi hw hq
      have hic : i = c := by omega
      subst hic
      refine hG 40 _ _ _ _ _ ?_
      repeat (conv => whnf
              try dsimp only
              try simp (decide := true) only [zu_same, zu_ne1, zu_ne2, zu_row, zuL_same, zuL_ne1, zuL_ne2, zrow_n1, zx0, zx1, zx2, zx3, nI_1, Nat.reduceAdd, Nat.reduceMul, Int32.reduceAdd, Int32.reduceSub, Int32.reduceMul]
              first
              | refine ⟨zrm (by assumption), ?_⟩
              | refine ⟨vp_inb (by decide), ?_⟩
              | refine ⟨by with_reducible exact zi (by omega), ?_⟩
              | refine ⟨fun h => absurd h (by with_reducible exact nI_ge (by omega) (by omega)), fun _ => ?_⟩
              | refine ⟨fun _ => ?_, fun h => absurd (by with_reducible exact nI_le (by omega) (by omega)) h⟩
              | refine ⟨fun h => absurd h (by with_reducible exact nI_nlt (by omega) (by omega)), fun _ => ?_⟩
              | refine ⟨fun _ => ?_, fun h => absurd (by with_reducible exact nI_lt (by omega) (by omega)) h⟩
              | refine ⟨fun h => absurd h (by with_reducible exact nI_pos (by omega)), fun _ => ?_⟩
              | refine ⟨fun _ => ?_, fun h => absurd (by with_reducible exact nI_0le (by omega)) h⟩
              | refine ⟨fun h => absurd h (by decide), fun _ => ?_⟩
              | refine ⟨fun _ => ?_, fun h => absurd (by decide) h⟩
              | refine ⟨fun _ => ?_, fun h => absurd h (by decide)⟩
              | refine ⟨fun h => absurd (by decide) h, fun _ => ?_⟩
              | refine ⟨by decide, ?_⟩
              | refine ⟨rfl, ?_⟩)
      try (conv => whnf)
      obtain ⟨-, σx, hDx, hqx⟩ := id hw
      refine ⟨[.ref 0], σx, τ, rfl, rfl, hBs, hDx.1, (by show 120 ≤ m; omega), (σx, τ, 6, pc, 4), rfl, rfl, wS_gS h0 hqx, ?_⟩
      try dsimp only
      refine ⟨σx, τ, rfl, rfl, fun s2 t2 hc hfr => ?_⟩
      replace hw := wS_q hS hDx hqx hc hfr cTq_r
      try replace hq := wq_f hfr hq
      clear hc hfr hDx
      rw [hqx 90 (by decide) (by decide), hc]
      clear hqx
      repeat (conv => whnf
              try dsimp only
              try simp (decide := true) only [zu_same, zu_ne1, zu_ne2, zu_row, zuL_same, zuL_ne1, zuL_ne2, zrow_n1, zx0, zx1, zx2, zx3, nI_1, Nat.reduceAdd, Nat.reduceMul, Int32.reduceAdd, Int32.reduceSub, Int32.reduceMul]
              first
              | refine ⟨zrm (by assumption), ?_⟩
              | refine ⟨vp_inb (by decide), ?_⟩
              | refine ⟨by with_reducible exact zi (by omega), ?_⟩
              | refine ⟨fun h => absurd h (by with_reducible exact nI_ge (by omega) (by omega)), fun _ => ?_⟩
              | refine ⟨fun _ => ?_, fun h => absurd (by with_reducible exact nI_le (by omega) (by omega)) h⟩
              | refine ⟨fun h => absurd h (by with_reducible exact nI_nlt (by omega) (by omega)), fun _ => ?_⟩
              | refine ⟨fun _ => ?_, fun h => absurd (by with_reducible exact nI_lt (by omega) (by omega)) h⟩
              | refine ⟨fun h => absurd h (by with_reducible exact nI_pos (by omega)), fun _ => ?_⟩
              | refine ⟨fun _ => ?_, fun h => absurd (by with_reducible exact nI_0le (by omega)) h⟩
              | refine ⟨fun h => absurd h (by decide), fun _ => ?_⟩
              | refine ⟨fun _ => ?_, fun h => absurd (by decide) h⟩
              | refine ⟨fun _ => ?_, fun h => absurd h (by decide)⟩
              | refine ⟨fun h => absurd (by decide) h, fun _ => ?_⟩
              | refine ⟨by decide, ?_⟩
              | refine ⟨rfl, ?_⟩)
      try (conv => whnf)
      try dsimp only
      try simp (decide := true) only [zu_same, zu_ne1, zu_ne2, zu_row, zuL_same, zuL_ne1, zuL_ne2, zrow_n1, zx0, zx1, zx2, zx3, nI_1, Nat.reduceAdd, Nat.reduceMul, Int32.reduceAdd, Int32.reduceSub, Int32.reduceMul]
      exact h437 _ _ _ _ _ s2 t2 hw hq
    | succ f ih =>
      intro i l13 l14 l15 l16 l17 s t hi hw hq
      obtain ⟨v, hv, hv6, hvb⟩ := hck i (by omega)
      refine hG 40 _ _ _ _ _ ?_
      repeat (conv => whnf
              try dsimp only
              try simp (decide := true) only [zu_same, zu_ne1, zu_ne2, zu_row, zuL_same, zuL_ne1, zuL_ne2, zrow_n1, zx0, zx1, zx2, zx3, nI_1, Nat.reduceAdd, Nat.reduceMul, Int32.reduceAdd, Int32.reduceSub, Int32.reduceMul]
              first
              | refine ⟨zrm (by assumption), ?_⟩
              | refine ⟨vp_inb (by decide), ?_⟩
              | refine ⟨by with_reducible exact zi (by omega), ?_⟩
              | refine ⟨fun h => absurd h (by with_reducible exact nI_ge (by omega) (by omega)), fun _ => ?_⟩
              | refine ⟨fun _ => ?_, fun h => absurd (by with_reducible exact nI_le (by omega) (by omega)) h⟩
              | refine ⟨fun h => absurd h (by with_reducible exact nI_nlt (by omega) (by omega)), fun _ => ?_⟩
              | refine ⟨fun _ => ?_, fun h => absurd (by with_reducible exact nI_lt (by omega) (by omega)) h⟩
              | refine ⟨fun h => absurd h (by with_reducible exact nI_pos (by omega)), fun _ => ?_⟩
              | refine ⟨fun _ => ?_, fun h => absurd (by with_reducible exact nI_0le (by omega)) h⟩
              | refine ⟨fun h => absurd h (by decide), fun _ => ?_⟩
              | refine ⟨fun _ => ?_, fun h => absurd (by decide) h⟩
              | refine ⟨fun _ => ?_, fun h => absurd h (by decide)⟩
              | refine ⟨fun h => absurd (by decide) h, fun _ => ?_⟩
              | refine ⟨by decide, ?_⟩
              | refine ⟨rfl, ?_⟩)
      try (conv => whnf)
      obtain ⟨-, σx, hDx, hqx⟩ := id hw
      refine ⟨[.ref 0], σx, τ, rfl, rfl, hBs, hDx.1, (by show 120 ≤ m; omega), (σx, τ, 6, pc, 4), rfl, rfl, wS_gS h0 hqx, ?_⟩
      try dsimp only
      refine ⟨σx, τ, rfl, rfl, fun s2 t2 hc hfr => ?_⟩
      replace hw := wS_q hS hDx hqx hc hfr cTq_r
      try replace hq := wq_f hfr hq
      clear hc hfr hDx
      rw [hqx 90 (by decide) (by decide), hc]
      clear hqx
      repeat (conv => whnf
              try dsimp only
              try simp (decide := true) only [zu_same, zu_ne1, zu_ne2, zu_row, zuL_same, zuL_ne1, zuL_ne2, zrow_n1, zx0, zx1, zx2, zx3, nI_1, Nat.reduceAdd, Nat.reduceMul, Int32.reduceAdd, Int32.reduceSub, Int32.reduceMul]
              first
              | refine ⟨zrm (by assumption), ?_⟩
              | refine ⟨vp_inb (by decide), ?_⟩
              | refine ⟨by with_reducible exact zi (by omega), ?_⟩
              | refine ⟨fun h => absurd h (by with_reducible exact nI_ge (by omega) (by omega)), fun _ => ?_⟩
              | refine ⟨fun _ => ?_, fun h => absurd (by with_reducible exact nI_le (by omega) (by omega)) h⟩
              | refine ⟨fun h => absurd h (by with_reducible exact nI_nlt (by omega) (by omega)), fun _ => ?_⟩
              | refine ⟨fun _ => ?_, fun h => absurd (by with_reducible exact nI_lt (by omega) (by omega)) h⟩
              | refine ⟨fun h => absurd h (by with_reducible exact nI_pos (by omega)), fun _ => ?_⟩
              | refine ⟨fun _ => ?_, fun h => absurd (by with_reducible exact nI_0le (by omega)) h⟩
              | refine ⟨fun h => absurd h (by decide), fun _ => ?_⟩
              | refine ⟨fun _ => ?_, fun h => absurd (by decide) h⟩
              | refine ⟨fun _ => ?_, fun h => absurd h (by decide)⟩
              | refine ⟨fun h => absurd (by decide) h, fun _ => ?_⟩
              | refine ⟨by decide, ?_⟩
              | refine ⟨rfl, ?_⟩)
      try (conv => whnf)
      obtain ⟨-, σx, hDx, hqx⟩ := id hw
      refine ⟨[.ref 0, .int (nI i), .int (nI 0)], σx, τ, rfl, rfl, hBs, hDx.1, (by show 120 ≤ m; omega), (σx, τ, 6, pc, 4, c, i, 0), rfl, rfl, ⟨wS_gS h0 hqx, by rw [hqx 90 (by decide) (by decide)]; exact hc, hc9, by omega, by decide⟩, ?_⟩
      try dsimp only
      refine ⟨σx, τ, rfl, rfl, fun s2 t2 hc hfr => ?_⟩
      replace hw := wS_q hS hDx hqx hc hfr cTq_r
      try replace hq := wq_f hfr hq
      clear hc hfr hDx
      rw [show σx (91 + 0) i = nI v by rw [hqx 91 (by decide) (by decide)]; exact hv]
      clear hqx
      repeat (first
        | (conv => whnf
           try dsimp only
           try simp (decide := true) only [hq2, nI_clamp (show v < 2 ^ 31 by omega), zu_same, zu_ne1, zu_ne2, zu_row, zuL_same, zuL_ne1, zuL_ne2, zrow_n1, zx0, zx1, zx2, zx3, nI_1, Nat.reduceAdd, Nat.reduceMul, Int32.reduceAdd, Int32.reduceSub, Int32.reduceMul]
           first
           | refine ⟨zrm (by assumption), ?_⟩
           | refine ⟨vp_inb (by decide), ?_⟩
           | refine ⟨by with_reducible exact zi (by omega), ?_⟩
           | refine ⟨fun h => absurd h (by with_reducible exact nI_ge (by omega) (by omega)), fun _ => ?_⟩
           | refine ⟨fun _ => ?_, fun h => absurd (by with_reducible exact nI_le (by omega) (by omega)) h⟩
           | refine ⟨fun h => absurd h (by with_reducible exact nI_nlt (by omega) (by omega)), fun _ => ?_⟩
           | refine ⟨fun _ => ?_, fun h => absurd (by with_reducible exact nI_lt (by omega) (by omega)) h⟩
           | refine ⟨fun h => absurd h (by with_reducible exact nI_pos (by omega)), fun _ => ?_⟩
           | refine ⟨fun _ => ?_, fun h => absurd (by with_reducible exact nI_0le (by omega)) h⟩
           | refine ⟨fun h => absurd h (by decide), fun _ => ?_⟩
           | refine ⟨fun _ => ?_, fun h => absurd (by decide) h⟩
           | refine ⟨fun _ => ?_, fun h => absurd h (by decide)⟩
           | refine ⟨fun h => absurd (by decide) h, fun _ => ?_⟩
           | refine ⟨by decide, ?_⟩
           | refine ⟨rfl, ?_⟩)
        | (conv => whnf
           fail_if_success refine Exists.intro ?_ ?_
           simp only [hq2, nI_clamp (show v < 2 ^ 31 by omega)]))
      try (conv => whnf)
      try dsimp only
      try simp (decide := true) only [zu_same, zu_ne1, zu_ne2, zu_row, zuL_same, zuL_ne1, zuL_ne2, zrow_n1, zx0, zx1, zx2, zx3, nI_1, Nat.reduceAdd, Nat.reduceMul, Int32.reduceAdd, Int32.reduceSub, Int32.reduceMul]
      exact ih (i + 1) _ _ _ _ _ _ t2 (by omega) (wS_row hw hq.1) (wQ_zu hq hvb)
  intro l13 l14 l15 l16 l17 s t hw hq
  exact loop c 0 _ _ _ _ _ s t (by omega) hw hq

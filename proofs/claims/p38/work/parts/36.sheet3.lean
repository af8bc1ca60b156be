/-! ===== the sheet: what is made ===== -/
theorem zBs_new {sh sh1 : zSh} {rf rf1 : zRf} {m : Nat} (h : zBs sh rf) (hm : 120 ≤ m) (e1 : ∀ j, j ≠ m → sh1 j = sh j) (e2 : ∀ j, j ≠ m → rf1 j = rf j) : zBs sh1 rf1 := fun k hk => by
  rw [e1 (1 + k) (by omega), e2 (1 + k) (by omega)]
  exact h k hk
theorem zuR_ne {ρ : zRf} {r j r' : Nat} {x : Option Nat} (h : r' ≠ r) : zuR ρ r j x r' = ρ r' := zuR_row h
theorem zuR_same {ρ : zRf} {r j : Nat} {x : Option Nat} : zuR ρ r j x r j = x := by simp [zuR]
theorem zuR_ne2 {ρ : zRf} {r j j' : Nat} {x : Option Nat} (h : j' ≠ j) : zuR ρ r j x r j' = ρ r j' := by simp [zuR, h]
theorem zBs_zuR {sh : zSh} {rf : zRf} {r j : Nat} {x : Option Nat} (h : zBs sh rf) (hr : 120 ≤ r) : zBs sh (zuR rf r j x) := fun k hk => by
  rw [zuR_ne (by omega)]
  exact h k hk
theorem lS_new {m un n : Nat} {sh sh1 : zSh} {rf rf1 : zRf} (h : lS m un n sh rf) (hm : m < 100000) (e1 : ∀ j, j ≠ m → sh1 j = sh j) (e2 : ∀ j, j ≠ m → rf1 j = rf j) : lS (m + 1) un n sh1 rf1 := by
  obtain ⟨⟨b1, b2, b3, b4, b5⟩, hBs, h999, ⟨h0, h120, h121, h122⟩, ⟨r0, r1, r4, r6, r8⟩, hu, hv⟩ := h
  refine ⟨⟨by omega, by omega, fun q => by have := b3 q; omega, b4, b5⟩, zBs_new hBs (by omega) e1 e2, by rw [e1 zS (by unfold zS; omega)]; exact h999, ⟨by rw [e1 0 (by omega)]; exact h0, by rw [e1 120 (by omega)]; exact h120, by rw [e1 121 (by omega)]; exact h121, by rw [e1 122 (by omega)]; exact h122⟩, by rw [e2 0 (by omega)]; exact ⟨r0, r1, r4, r6, r8⟩, fun u q => ?_, fun v q => ?_⟩
  · rw [e2 120 (by omega), e1 (125 + u) (by omega)]
    exact hu u q
  · have := b3 (by omega)
    rw [e2 121 (by omega), e1 (129 + v) (by omega)]
    exact hv v q
theorem lD_new {m un n pc dr : Nat} {sh : zSh} {rf : zRf} {s s1 : zIn} {t t1 : zLo} {σ : zIn} {τ : zLo} (hS : lS m un n sh rf) (h : lD un n pc dr s t σ τ) (e1 : ∀ r, r ≠ m → s1 r = s r) (e2 : ∀ r, r ≠ m → t1 r = t r) : lD un n pc dr s1 t1 σ τ := by
  obtain ⟨b1, b2, b3, b4, b5⟩ := hS.1
  obtain ⟨c, d, u, v⟩ := h
  refine ⟨fun k hk => by rw [e1 (1 + k) (by omega), e2 (1 + k) (by omega)]; exact c k hk, by rw [e1 0 (by omega)]; exact d, fun k hk => by rw [e1 (125 + k) (by omega)]; exact u k hk, fun k hk => ?_⟩
  have := b3 (by omega)
  rw [e1 (129 + k) (by omega)]
  exact v k hk
theorem zuS_ne {sh : zSh} {m : Nat} {x : Nat × Nat} : ∀ j, j ≠ m → zuS sh m x j = sh j := fun j h => if_neg h
theorem zuS_same {sh : zSh} {m : Nat} {x : Nat × Nat} : zuS sh m x m = x := if_pos rfl
/-- beside what was drawn, one row may be another -/
def uS (s s1 : zIn) (m dr : Nat) : Prop := s1 0 2 = nI dr ∧ (∀ j, j ≠ 2 → s1 0 j = s 0 j) ∧ ∀ r, r ≠ 0 → r ≠ m → s1 r = s r
theorem uS_d {s s1 s2 : zIn} {m a b : Nat} (h1 : uS s s1 m a) (h2 : dS s1 s2 b) : uS s s2 m b := ⟨h2.1, fun j hj => (h2.2.1 j hj).trans (h1.2.1 j hj), fun r hr hm => (h2.2.2 r hr).trans (h1.2.2 r hr hm)⟩
theorem uS_u {s s1 : zIn} {m a j : Nat} {x : Int32} (hm : m ≠ 0) (h1 : uS s s1 m a) : uS s (zu s1 m j x) m a := ⟨(zu_ne1 hm.symm).trans h1.1, fun j hj => (zu_ne1 hm.symm).trans (h1.2.1 j hj), fun r hr hn => (zu_row hn).trans (h1.2.2 r hr hn)⟩
theorem lD_uS {m un n pc dr dr1 : Nat} {sh : zSh} {rf : zRf} {s s1 : zIn} {t : zLo} {σ : zIn} {τ : zLo} (hS : lS m un n sh rf) (h : lD un n pc dr s t σ τ) (h1 : uS s s1 m dr1) : lD un n pc dr1 s1 t σ τ := by
  obtain ⟨b1, b2, b3, b4, b5⟩ := hS.1
  obtain ⟨c, ⟨d2, d3, d5, d7, d9⟩, u, v⟩ := h
  obtain ⟨e1, e2, e3⟩ := h1
  refine ⟨fun k hk => by rw [e3 (1 + k) (by omega) (by omega)]; exact c k hk, ⟨e1, by rw [e2 3 (by decide)]; exact d3, by rw [e2 5 (by decide)]; exact d5, by rw [e2 7 (by decide)]; exact d7, by rw [e2 9 (by decide)]; exact d9⟩, fun k hk => by rw [e3 (125 + k) (by omega) (by omega)]; exact u k hk, fun k hk => ?_⟩
  have := b3 (by omega)
  rw [e3 (129 + k) (by omega) (by omega)]
  exact v k hk
theorem dS_uS {s s1 : zIn} {m dr : Nat} (h : dS s s1 dr) : uS s s1 m dr := ⟨h.1, h.2.1, fun r hr _ => h.2.2 r hr⟩
def spX8_addVariable : zSp := zDQ (X := zSh × zRf × zIn × zLo × zIn × zLo × Nat × Nat × Nat) (fun x => match x with | (sh, rf, s, t, σ, τ, n, pc, dr) => [.ref 0]) (fun x => match x with | (sh, rf, s, t, σ, τ, n, pc, dr) => (129 + n, sh, rf, s, t)) (fun x => match x with | (sh, rf, s, t, σ, τ, n, pc, dr) => lS (129 + n) 4 n sh rf ∧ lD 4 n pc dr s t σ τ ∧ cI σ τ n pc 4 ∧ n < 6 ∧ dr + 2 < 10000) (fun x r9 μ9 => match x with | (sh, rf, s, t, σ, τ, n, pc, dr) => r9 = some (.int 1) ∧ ∃ (sh1 : zSh) (rf1 : zRf) (s1 : zIn) (t1 : zLo) (σ1 : zIn) (dr1 : Nat), μ9 = (129 + (n + 1), sh1, rf1, s1, t1) ∧ lS (129 + (n + 1)) 4 (n + 1) sh1 rf1 ∧ lD 4 (n + 1) pc dr1 s1 t1 σ1 τ ∧ cI σ1 τ (n + 1) pc 4 ∧ (σ1 0 13 = 0 ∧ σ1 0 14 = 0 ∧ σ1 0 15 = 0) ∧ dr1 ≤ dr + 2 ∧ ((∀ v, v < n → kq (σ 89 v)) → ∀ v, v < n + 1 → kq (σ1 89 v)))
abbrev rmX8_addVariable : Room := ({ frames := 3, cells := 1, slots := 3, locals := 63 } : Room)
set_option maxRecDepth 100000 in
set_option maxHeartbeats 4000000 in
theorem ctX8_addVariable (l : Launch) (D : va_G) (cA : Nat → ClassId) : zCt true l D cA yX8_addVariable cX8_addVariable 2 (some .boolean) rmX8_addVariable spX8_addVariable := by
  refine zct_Q (zCX8_addVariable [(58, 0, 1, spX8_draw, rmX8_draw.cells, rmX8_draw.slots), (68, 0, 1, spJX7_variable, rmX7_variable.cells, rmX7_variable.slots)]) zpX8_addVariable [14, 36] (by decide +kernel) zkX8_addVariable (Or.inr (by decide +kernel)) trivial ⟨by decide +kernel, by decide +kernel⟩ (fun x ad => Nat.le_of_ble_eq_true rfl) ?_ ?_
  · intro p e s m args below meth c A H0 ad0 n0 Q F hml hNw hA hX
    exact ⟨zco_V hX hA F hml hNw (ctX8_draw l D cA) ⟨⟨zlX8_addVariable_58, zwX8_draw.1.1, zwX8_draw.1.2⟩, zwX8_draw.2⟩ zdX8_draw ⟨Nat.le_of_ble_eq_true rfl, Nat.le_of_ble_eq_true rfl⟩ (ci := 8) (by decide) rfl (by rintro av μ K ⟨⟨m, sh, rf, s, t, dr, k⟩, rfl, rfl, ⟨h, -⟩, -⟩; exact ⟨_, _, rfl, congrArg Prod.fst h⟩), zco_V hX hA F hml hNw (zct_X (ctJX7_variable l D cA)) ⟨⟨zlX8_addVariable_68, zwX7_variable.1.1, zwX7_variable.1.2⟩, zwX7_variable.2⟩ zdX7_variable ⟨Nat.le_of_ble_eq_true rfl, Nat.le_of_ble_eq_true rfl⟩ (ci := 7) (by decide) rfl (zrvJ (by rintro av μ K ⟨x, rfl, -⟩; exact ⟨_, rfl⟩)), trivial⟩
  · rintro ⟨sh, rf, s, t, σ, τ, n, pc, dr⟩ Ret hP hK Gl hG
    try dsimp only at hP hK
    show Gl 0 (zent 2 [.ref 0]) [] (0, 0) ((129 + n, sh, rf, s, t))
    obtain ⟨hS, hD, hI, hn6, hdr⟩ := hP
    generalize hm : 129 + n = m at *
    have h36 : ∀ (sh1 : zSh) (rf1 : zRf) (s1 s2 : zIn) (t1 : zLo) (u dr2 : Nat), lS (m + 1) 4 n sh1 rf1 → lD 4 n pc dr s1 t1 σ τ → sh1 m = (100, 3) → dS s1 s2 dr2 → u < 4 → dr2 ≤ dr + 2 → Gl 36 [some (.ref 0), none] [.int (nI u), .int 0, .ref m, .ref m] (1, 3) (m + 1, sh1, rf1, s2, t1) := by
      intro sh1 rf1 s1 s2 t1 u dr2 hS1 hD1 hsm d2 hu hdr2
      obtain ⟨⟨b1, b2, b3, b4, b5⟩, hBs, h999, ⟨h0, h120, h121, h122⟩, ⟨r0, r1, r4, r6, r8⟩, hu9, hv9⟩ := id hS1
      have hm0 : m ≠ 0 := by omega
      have hU : uS s1 (zu (zu (zu s2 m 0 (nI u)) m 1 (-1)) m 2 0) m dr2 := uS_u hm0 (uS_u hm0 (uS_u hm0 (dS_uS d2)))
      have hS0 : lS m 4 n sh rf := hS
      have e0 : zu (zu (zu s2 m 0 (nI u)) m 1 (-1)) m 2 0 m 0 = nI u := (zu_ne2 (by decide)).trans ((zu_ne2 (by decide)).trans zu_same)
      have e1 : zu (zu (zu s2 m 0 (nI u)) m 1 (-1)) m 2 0 m 1 = -1 := (zu_ne2 (by decide)).trans zu_same
      have e2 : zu (zu (zu s2 m 0 (nI u)) m 1 (-1)) m 2 0 m 2 = 0 := zu_same
      refine hG 100 _ _ _ _ _ ?_
      repeat (first
        | (conv => whnf
           try dsimp only
           try simp (decide := true) only [h0, hsm, zu_same, zu_ne1, zu_ne2, zu_row, zuL_same, zuL_ne1, zuL_ne2, zrow_n1, zx0, zx1, zx2, zx3, nI_1, Nat.reduceAdd, Nat.reduceMul, Int32.reduceAdd, Int32.reduceSub, Int32.reduceMul]
           first
           | refine ⟨vp_inb (by decide), ?_⟩
           | refine ⟨by with_reducible exact zi (by omega), ?_⟩
           | refine ⟨fun h => absurd h (by with_reducible exact nI_ge (by omega) (by omega)), fun _ => ?_⟩
           | refine ⟨fun _ => ?_, fun h => absurd (by with_reducible exact nI_le (by omega) (by omega)) h⟩
           | refine ⟨fun h => absurd h (by with_reducible exact nI_nlt (by omega) (by omega)), fun _ => ?_⟩
           | refine ⟨fun _ => ?_, fun h => absurd (by with_reducible exact nI_lt (by omega) (by omega)) h⟩
           | refine ⟨fun h => absurd h (by with_reducible exact nI_pos (by omega)), fun _ => ?_⟩
           | refine ⟨fun _ => ?_, fun h => absurd (by with_reducible exact nI_0le (by omega)) h⟩
           | refine ⟨fun h => absurd h (by decide), fun _ => ?_⟩
           | refine ⟨fun _ => ?_, fun h => absurd (by decide) h⟩
           | refine ⟨fun _ => ?_, fun h => absurd h (by decide)⟩
           | refine ⟨fun h => absurd (by decide) h, fun _ => ?_⟩
           | refine ⟨by decide, ?_⟩
           | refine ⟨rfl, ?_⟩)
        | (conv => whnf
           fail_if_success refine Exists.intro ?_ ?_
           simp only [h0, hsm]))
      try (conv => whnf)
      generalize zu (zu (zu s2 m 0 (nI u)) m 1 (-1)) m 2 0 = s4 at hU e0 e1 e2 ⊢
      have hD4 := lD_uS hS0 hD1 hU
      have h05 : s4 0 5 = nI n := hD4.2.1.2.2.1
      repeat (first
        | (conv => whnf
           try dsimp only
           try simp (decide := true) only [h0, hsm, r0, r6, h121, h05, e0, nI_clamp (show n < 2 ^ 31 by omega), zu_same, zu_ne1, zu_ne2, zu_row, zuL_same, zuL_ne1, zuL_ne2, zrow_n1, zx0, zx1, zx2, zx3, nI_1, Nat.reduceAdd, Nat.reduceMul, Int32.reduceAdd, Int32.reduceSub, Int32.reduceMul]
           first
           | refine ⟨vp_inb (by decide), ?_⟩
           | refine ⟨by with_reducible exact zi (by omega), ?_⟩
           | refine ⟨fun h => absurd h (by with_reducible exact nI_ge (by omega) (by omega)), fun _ => ?_⟩
           | refine ⟨fun _ => ?_, fun h => absurd (by with_reducible exact nI_le (by omega) (by omega)) h⟩
           | refine ⟨fun h => absurd h (by with_reducible exact nI_nlt (by omega) (by omega)), fun _ => ?_⟩
           | refine ⟨fun _ => ?_, fun h => absurd (by with_reducible exact nI_lt (by omega) (by omega)) h⟩
           | refine ⟨fun h => absurd h (by with_reducible exact nI_pos (by omega)), fun _ => ?_⟩
           | refine ⟨fun _ => ?_, fun h => absurd (by with_reducible exact nI_0le (by omega)) h⟩
           | refine ⟨fun h => absurd h (by decide), fun _ => ?_⟩
           | refine ⟨fun _ => ?_, fun h => absurd (by decide) h⟩
           | refine ⟨fun _ => ?_, fun h => absurd h (by decide)⟩
           | refine ⟨fun h => absurd (by decide) h, fun _ => ?_⟩
           | refine ⟨by decide, ?_⟩
           | refine ⟨rfl, ?_⟩)
        | (conv => whnf
           fail_if_success refine Exists.intro ?_ ?_
           simp only [h0, hsm, r0, r6, h121, h05, e0, nI_clamp (show n < 2 ^ 31 by omega)]))
      try (conv => whnf)
      rw [zuR_ne (show (0 : Nat) ≠ 121 by decide), r0]
      repeat (first
        | (conv => whnf
           try dsimp only
           try simp (decide := true) only [h0, hsm, r0, r6, h121, h05, e0, nI_clamp (show n < 2 ^ 31 by omega), zu_same, zu_ne1, zu_ne2, zu_row, zuL_same, zuL_ne1, zuL_ne2, zrow_n1, zx0, zx1, zx2, zx3, nI_1, Nat.reduceAdd, Nat.reduceMul, Int32.reduceAdd, Int32.reduceSub, Int32.reduceMul]
           first
           | refine ⟨vp_inb (by decide), ?_⟩
           | refine ⟨by with_reducible exact zi (by omega), ?_⟩
           | refine ⟨fun h => absurd h (by with_reducible exact nI_ge (by omega) (by omega)), fun _ => ?_⟩
           | refine ⟨fun _ => ?_, fun h => absurd (by with_reducible exact nI_le (by omega) (by omega)) h⟩
           | refine ⟨fun h => absurd h (by with_reducible exact nI_nlt (by omega) (by omega)), fun _ => ?_⟩
           | refine ⟨fun _ => ?_, fun h => absurd (by with_reducible exact nI_lt (by omega) (by omega)) h⟩
           | refine ⟨fun h => absurd h (by with_reducible exact nI_pos (by omega)), fun _ => ?_⟩
           | refine ⟨fun _ => ?_, fun h => absurd (by with_reducible exact nI_0le (by omega)) h⟩
           | refine ⟨fun h => absurd h (by decide), fun _ => ?_⟩
           | refine ⟨fun _ => ?_, fun h => absurd (by decide) h⟩
           | refine ⟨fun _ => ?_, fun h => absurd h (by decide)⟩
           | refine ⟨fun h => absurd (by decide) h, fun _ => ?_⟩
           | refine ⟨by decide, ?_⟩
           | refine ⟨rfl, ?_⟩)
        | (conv => whnf
           fail_if_success refine Exists.intro ?_ ?_
           simp only [h0, hsm, r0, r6, h121, h05, e0, nI_clamp (show n < 2 ^ 31 by omega)]))
      try (conv => whnf)
      refine ⟨[.ref 0, .int (nI u)], σ, τ, rfl, rfl, (zBs_zuR hBs (by omega)), hD4.1, by show 120 ≤ m + 1; omega, (σ, τ, n, pc, 4, u), rfl, rfl, ⟨hI, by omega, hu⟩, ?_⟩
      try dsimp only [cond_true, cond_false]
      rintro _ _ ⟨rfl, σ1, rfl, c1, c2, c3, c4, c5, c6, c7⟩
      refine ⟨σ1, τ, rfl, rfl, fun s3 t3 hbc hfr => ?_⟩
      have z05 : s3 0 5 = nI n := by rw [(hfr 0 (Or.inl rfl)).1]; exact h05
      repeat (first
        | (conv => whnf
           try dsimp only
           try simp (decide := true) only [h0, z05, zu_same, zu_ne1, zu_ne2, zu_row, zuL_same, zuL_ne1, zuL_ne2, zrow_n1, zx0, zx1, zx2, zx3, nI_1, Nat.reduceAdd, Nat.reduceMul, Int32.reduceAdd, Int32.reduceSub, Int32.reduceMul]
           first
           | refine ⟨vp_inb (by decide), ?_⟩
           | refine ⟨by with_reducible exact zi (by omega), ?_⟩
           | refine ⟨fun h => absurd h (by with_reducible exact nI_ge (by omega) (by omega)), fun _ => ?_⟩
           | refine ⟨fun _ => ?_, fun h => absurd (by with_reducible exact nI_le (by omega) (by omega)) h⟩
           | refine ⟨fun h => absurd h (by with_reducible exact nI_nlt (by omega) (by omega)), fun _ => ?_⟩
           | refine ⟨fun _ => ?_, fun h => absurd (by with_reducible exact nI_lt (by omega) (by omega)) h⟩
           | refine ⟨fun h => absurd h (by with_reducible exact nI_pos (by omega)), fun _ => ?_⟩
           | refine ⟨fun _ => ?_, fun h => absurd (by with_reducible exact nI_0le (by omega)) h⟩
           | refine ⟨fun h => absurd h (by decide), fun _ => ?_⟩
           | refine ⟨fun _ => ?_, fun h => absurd (by decide) h⟩
           | refine ⟨fun _ => ?_, fun h => absurd h (by decide)⟩
           | refine ⟨fun h => absurd (by decide) h, fun _ => ?_⟩
           | refine ⟨by decide, ?_⟩
           | refine ⟨rfl, ?_⟩)
        | (conv => whnf
           fail_if_success refine Exists.intro ?_ ?_
           simp only [h0, z05]))
      try (conv => whnf)
      try dsimp only
      try simp (decide := true) only [zu_same, zu_ne1, zu_ne2, zu_row, zuL_same, zuL_ne1, zuL_ne2, zrow_n1, zx0, zx1, zx2, zx3, nI_1, Nat.reduceAdd, Nat.reduceMul, Int32.reduceAdd, Int32.reduceSub, Int32.reduceMul]
      obtain ⟨-, ⟨q2, q3, q5, q7, q9⟩, qu, qv⟩ := hD4
      have zr : ∀ r, 120 ≤ r → zu s3 0 5 (nI (n + 1)) r = s4 r := fun r hr => by rw [zu_row (by omega)]; exact (hfr r (Or.inr hr)).1
      have zz : ∀ j, j ≠ 5 → zu s3 0 5 (nI (n + 1)) 0 j = s4 0 j := fun j hj => by rw [zu_ne2 hj, (hfr 0 (Or.inl rfl)).1]
      refine hK _ _ ⟨rfl, sh1, _, _, t3, σ1, dr2, by rw [show 129 + (n + 1) = m + 1 by omega], ?_, ⟨zBc_zu (Or.inl rfl) hbc, ⟨by rw [zz 2 (by decide)]; exact q2, by rw [zz 3 (by decide)]; exact q3, zu_same, by rw [zz 7 (by decide)]; exact q7, by rw [zz 9 (by decide), c3 100 (by decide) (by decide)]; exact q9⟩, fun k hk => ?_, fun w hw => ?_⟩, c1, c2, hdr2, fun hk9 w hw => by
        by_cases e : w = n
        · rw [e, c7]
          decide
        · rw [(c4 w e).2.2]
          exact hk9 w (by omega)⟩
      · rw [show 129 + (n + 1) = m + 1 by omega]
        refine ⟨⟨by omega, by omega, by omega, by omega, by omega⟩, zBs_zuR hBs (by omega), h999, ⟨h0, h120, h121, h122⟩, by rw [zuR_ne (by decide)]; exact ⟨r0, r1, r4, r6, r8⟩, fun k hk => by rw [zuR_ne (by decide)]; exact hu9 k hk, fun w hw => ?_⟩
        by_cases e : w = n
        · rw [e, zuR_same, hm]
          exact ⟨rfl, hsm⟩
        · rw [zuR_ne2 e]
          exact hv9 w (by omega)
      · rw [zr (125 + k) (by omega), c3 15 (by decide) (by decide), c3 16 (by decide) (by decide)]
        exact qu k hk
      · rw [zr (129 + w) (by omega)]
        by_cases e : w = n
        · rw [e, hm, c5, c6, c7]
          exact ⟨e0, e1, e2⟩
        · rw [(c4 w e).1, (c4 w e).2.1, (c4 w e).2.2]
          exact qv w (by omega)
    have h14 : ∀ (sh1 : zSh) (rf1 : zRf) (s1 : zIn) (t1 : zLo), lS (m + 1) 4 n sh1 rf1 → lD 4 n pc dr s1 t1 σ τ → sh1 m = (100, 3) → Gl 14 [some (.ref 0), none] [.ref m] (1, 3) (m + 1, sh1, rf1, s1, t1) := by
      intro sh1 rf1 s1 t1 hS1 hD1 hsm
      obtain ⟨⟨b1, b2, b3, b4, b5⟩, hBs, h999, ⟨h0, h120, h121, h122⟩, ⟨r0, r1, r4, r6, r8⟩, hu9, hv9⟩ := id hS1
      refine hG 100 _ _ _ _ _ ?_
      repeat (conv => whnf
              try dsimp only
              try simp (decide := true) only [zu_same, zu_ne1, zu_ne2, zu_row, zuL_same, zuL_ne1, zuL_ne2, zrow_n1, zx0, zx1, zx2, zx3, nI_1, Nat.reduceAdd, Nat.reduceMul, Int32.reduceAdd, Int32.reduceSub, Int32.reduceMul]
              first
              | refine ⟨vp_inb (by decide), ?_⟩
              | refine ⟨by with_reducible exact zi (by omega), ?_⟩
              | refine ⟨fun h => absurd h (by with_reducible exact nI_ge (by omega) (by omega)), fun _ => ?_⟩
              | refine ⟨fun _ => ?_, fun h => absurd (by with_reducible exact nI_le (by omega) (by omega)) h⟩
              | refine ⟨fun h => absurd h (by with_reducible exact nI_nlt (by omega) (by omega)), fun _ => ?_⟩
              | refine ⟨fun _ => ?_, fun h => absurd (by with_reducible exact nI_lt (by omega) (by omega)) h⟩
              | refine ⟨fun h => absurd h (by with_reducible exact nI_pos (by omega)), fun _ => ?_⟩
              | refine ⟨fun _ => ?_, fun h => absurd (by with_reducible exact nI_0le (by omega)) h⟩
              | refine ⟨fun h => absurd h (by decide), fun _ => ?_⟩
              | refine ⟨fun _ => ?_, fun h => absurd (by decide) h⟩
              | refine ⟨fun _ => ?_, fun h => absurd h (by decide)⟩
              | refine ⟨fun h => absurd (by decide) h, fun _ => ?_⟩
              | refine ⟨by decide, ?_⟩
              | refine ⟨rfl, ?_⟩)
      try (conv => whnf)
      refine ⟨(m + 1, sh1, rf1, s1, t1, dr, 3), rfl, rfl, ⟨h0, r1, h999, hD1.2.1.1, by omega, by decide, by decide⟩, ?_⟩
      try dsimp only [cond_true, cond_false]
      rintro _ _ ⟨⟨y, hy, rfl⟩, s2, rfl, d2⟩
      refine ⟨fun h => ?_, fun h => ?_⟩
      · skip
        repeat (first
          | (conv => whnf
             try dsimp only
             try simp (decide := true) only [h0, (lD_dS hD1 d2).2.1.2.1, zu_same, zu_ne1, zu_ne2, zu_row, zuL_same, zuL_ne1, zuL_ne2, zrow_n1, zx0, zx1, zx2, zx3, nI_1, Nat.reduceAdd, Nat.reduceMul, Int32.reduceAdd, Int32.reduceSub, Int32.reduceMul]
             first
             | refine ⟨vp_inb (by decide), ?_⟩
             | refine ⟨by with_reducible exact zi (by omega), ?_⟩
             | refine ⟨fun h => absurd h (by with_reducible exact nI_ge (by omega) (by omega)), fun _ => ?_⟩
             | refine ⟨fun _ => ?_, fun h => absurd (by with_reducible exact nI_le (by omega) (by omega)) h⟩
             | refine ⟨fun h => absurd h (by with_reducible exact nI_nlt (by omega) (by omega)), fun _ => ?_⟩
             | refine ⟨fun _ => ?_, fun h => absurd (by with_reducible exact nI_lt (by omega) (by omega)) h⟩
             | refine ⟨fun h => absurd h (by with_reducible exact nI_pos (by omega)), fun _ => ?_⟩
             | refine ⟨fun _ => ?_, fun h => absurd (by with_reducible exact nI_0le (by omega)) h⟩
             | refine ⟨fun h => absurd h (by decide), fun _ => ?_⟩
             | refine ⟨fun _ => ?_, fun h => absurd (by decide) h⟩
             | refine ⟨fun _ => ?_, fun h => absurd h (by decide)⟩
             | refine ⟨fun h => absurd (by decide) h, fun _ => ?_⟩
             | refine ⟨by decide, ?_⟩
             | refine ⟨rfl, ?_⟩)
          | (conv => whnf
             fail_if_success refine Exists.intro ?_ ?_
             simp only [h0, (lD_dS hD1 d2).2.1.2.1]))
        try (conv => whnf)
        refine ⟨(m + 1, sh1, rf1, s2, t1, dr + 1, 4), rfl, rfl, ⟨h0, r1, h999, d2.1, by omega, by decide, by decide⟩, ?_⟩
        try dsimp only [cond_true, cond_false]
        rintro _ _ ⟨⟨u, hu, rfl⟩, s3, rfl, d3⟩
        repeat (conv => whnf
                try dsimp only
                try simp (decide := true) only [zu_same, zu_ne1, zu_ne2, zu_row, zuL_same, zuL_ne1, zuL_ne2, zrow_n1, zx0, zx1, zx2, zx3, nI_1, Nat.reduceAdd, Nat.reduceMul, Int32.reduceAdd, Int32.reduceSub, Int32.reduceMul]
                first
                | refine ⟨vp_inb (by decide), ?_⟩
                | refine ⟨by with_reducible exact zi (by omega), ?_⟩
                | refine ⟨fun h => absurd h (by with_reducible exact nI_ge (by omega) (by omega)), fun _ => ?_⟩
                | refine ⟨fun _ => ?_, fun h => absurd (by with_reducible exact nI_le (by omega) (by omega)) h⟩
                | refine ⟨fun h => absurd h (by with_reducible exact nI_nlt (by omega) (by omega)), fun _ => ?_⟩
                | refine ⟨fun _ => ?_, fun h => absurd (by with_reducible exact nI_lt (by omega) (by omega)) h⟩
                | refine ⟨fun h => absurd h (by with_reducible exact nI_pos (by omega)), fun _ => ?_⟩
                | refine ⟨fun _ => ?_, fun h => absurd (by with_reducible exact nI_0le (by omega)) h⟩
                | refine ⟨fun h => absurd h (by decide), fun _ => ?_⟩
                | refine ⟨fun _ => ?_, fun h => absurd (by decide) h⟩
                | refine ⟨fun _ => ?_, fun h => absurd h (by decide)⟩
                | refine ⟨fun h => absurd (by decide) h, fun _ => ?_⟩
                | refine ⟨by decide, ?_⟩
                | refine ⟨rfl, ?_⟩)
        try (conv => whnf)
        exact h36 sh1 rf1 s1 s3 t1 u (dr + 2) hS1 hD1 hsm (dS_t d2 d3) hu (by omega)
      · skip
        repeat (conv => whnf
                try dsimp only
                try simp (decide := true) only [zu_same, zu_ne1, zu_ne2, zu_row, zuL_same, zuL_ne1, zuL_ne2, zrow_n1, zx0, zx1, zx2, zx3, nI_1, Nat.reduceAdd, Nat.reduceMul, Int32.reduceAdd, Int32.reduceSub, Int32.reduceMul]
                first
                | refine ⟨vp_inb (by decide), ?_⟩
                | refine ⟨by with_reducible exact zi (by omega), ?_⟩
                | refine ⟨fun h => absurd h (by with_reducible exact nI_ge (by omega) (by omega)), fun _ => ?_⟩
                | refine ⟨fun _ => ?_, fun h => absurd (by with_reducible exact nI_le (by omega) (by omega)) h⟩
                | refine ⟨fun h => absurd h (by with_reducible exact nI_nlt (by omega) (by omega)), fun _ => ?_⟩
                | refine ⟨fun _ => ?_, fun h => absurd (by with_reducible exact nI_lt (by omega) (by omega)) h⟩
                | refine ⟨fun h => absurd h (by with_reducible exact nI_pos (by omega)), fun _ => ?_⟩
                | refine ⟨fun _ => ?_, fun h => absurd (by with_reducible exact nI_0le (by omega)) h⟩
                | refine ⟨fun h => absurd h (by decide), fun _ => ?_⟩
                | refine ⟨fun _ => ?_, fun h => absurd (by decide) h⟩
                | refine ⟨fun _ => ?_, fun h => absurd h (by decide)⟩
                | refine ⟨fun h => absurd (by decide) h, fun _ => ?_⟩
                | refine ⟨by decide, ?_⟩
                | refine ⟨rfl, ?_⟩)
        try (conv => whnf)
        exact h36 sh1 rf1 s1 s2 t1 0 (dr + 1) hS1 hD1 hsm d2 (by omega) (by omega)
    obtain ⟨⟨b1, b2, b3, b4, b5⟩, hBs, h999, ⟨h0, h120, h121, h122⟩, ⟨r0, r1, r4, r6, r8⟩, hu9, hv9⟩ := id hS
    refine hG 100 _ _ _ _ _ ?_
    repeat (first
      | (conv => whnf
         try dsimp only
         try simp (decide := true) only [h0, hD.2.1.2.2.1, show (10 : Int32) = nI 10 from rfl, zu_same, zu_ne1, zu_ne2, zu_row, zuL_same, zuL_ne1, zuL_ne2, zrow_n1, zx0, zx1, zx2, zx3, nI_1, Nat.reduceAdd, Nat.reduceMul, Int32.reduceAdd, Int32.reduceSub, Int32.reduceMul]
         first
         | refine ⟨vp_inb (by decide), ?_⟩
         | refine ⟨by with_reducible exact zi (by omega), ?_⟩
         | refine ⟨fun h => absurd h (by with_reducible exact nI_ge (by omega) (by omega)), fun _ => ?_⟩
         | refine ⟨fun _ => ?_, fun h => absurd (by with_reducible exact nI_le (by omega) (by omega)) h⟩
         | refine ⟨fun h => absurd h (by with_reducible exact nI_nlt (by omega) (by omega)), fun _ => ?_⟩
         | refine ⟨fun _ => ?_, fun h => absurd (by with_reducible exact nI_lt (by omega) (by omega)) h⟩
         | refine ⟨fun h => absurd h (by with_reducible exact nI_pos (by omega)), fun _ => ?_⟩
         | refine ⟨fun _ => ?_, fun h => absurd (by with_reducible exact nI_0le (by omega)) h⟩
         | refine ⟨fun h => absurd h (by decide), fun _ => ?_⟩
         | refine ⟨fun _ => ?_, fun h => absurd (by decide) h⟩
         | refine ⟨fun _ => ?_, fun h => absurd h (by decide)⟩
         | refine ⟨fun h => absurd (by decide) h, fun _ => ?_⟩
         | refine ⟨by decide, ?_⟩
         | refine ⟨rfl, ?_⟩)
      | (conv => whnf
         fail_if_success refine Exists.intro ?_ ?_
         simp only [h0, hD.2.1.2.2.1, show (10 : Int32) = nI 10 from rfl]))
    try (conv => whnf)
    refine ⟨fun _ => ?_, fun e => absurd ((nI_eq (by omega) (by omega)).mp e) (by omega)⟩
    repeat (conv => whnf
            try dsimp only
            try simp (decide := true) only [zu_same, zu_ne1, zu_ne2, zu_row, zuL_same, zuL_ne1, zuL_ne2, zrow_n1, zx0, zx1, zx2, zx3, nI_1, Nat.reduceAdd, Nat.reduceMul, Int32.reduceAdd, Int32.reduceSub, Int32.reduceMul]
            first
            | refine ⟨vp_inb (by decide), ?_⟩
            | refine ⟨by with_reducible exact zi (by omega), ?_⟩
            | refine ⟨fun h => absurd h (by with_reducible exact nI_ge (by omega) (by omega)), fun _ => ?_⟩
            | refine ⟨fun _ => ?_, fun h => absurd (by with_reducible exact nI_le (by omega) (by omega)) h⟩
            | refine ⟨fun h => absurd h (by with_reducible exact nI_nlt (by omega) (by omega)), fun _ => ?_⟩
            | refine ⟨fun _ => ?_, fun h => absurd (by with_reducible exact nI_lt (by omega) (by omega)) h⟩
            | refine ⟨fun h => absurd h (by with_reducible exact nI_pos (by omega)), fun _ => ?_⟩
            | refine ⟨fun _ => ?_, fun h => absurd (by with_reducible exact nI_0le (by omega)) h⟩
            | refine ⟨fun h => absurd h (by decide), fun _ => ?_⟩
            | refine ⟨fun _ => ?_, fun h => absurd (by decide) h⟩
            | refine ⟨fun _ => ?_, fun h => absurd h (by decide)⟩
            | refine ⟨fun h => absurd (by decide) h, fun _ => ?_⟩
            | refine ⟨by decide, ?_⟩
            | refine ⟨rfl, ?_⟩)
    try (conv => whnf)
    exact h14 _ _ _ _ (lS_new hS (by omega) zuS_ne (fun j hj => if_neg hj)) (lD_new hS hD (fun r hr => zrow_ne hr) (fun r hr => if_neg hr)) zuS_same

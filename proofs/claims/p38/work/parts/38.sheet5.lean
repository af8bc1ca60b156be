/-! ===== the sheet: parts ===== -/
def spX8_put : zSp := zDQ (X := Nat × zSh × zRf × zIn × zLo × Nat × Int32 × Int32 × Int32 × Int32) (fun x => match x with | (m, sh, rf, s, t, pc, c, a, b, d) => [.ref 0, .int c, .int a, .int b, .int d]) (fun x => match x with | (m, sh, rf, s, t, pc, c, a, b, d) => (m, sh, rf, s, t)) (fun x => match x with | (m, sh, rf, s, t, pc, c, a, b, d) => lS m 4 6 sh rf ∧ s 0 7 = nI pc ∧ pc < 60 ∧ m < 100000) (fun x r9 μ9 => match x with | (m, sh, rf, s, t, pc, c, a, b, d) => r9 = some (.ref m) ∧ ∃ (sh1 : zSh) (rf1 : zRf) (s1 : zIn) (t1 : zLo), μ9 = (m + 1, sh1, rf1, s1, t1) ∧ lS (m + 1) 4 6 sh1 rf1 ∧ (rf1 122 pc = some m ∧ sh1 m = (100, 4)) ∧ (∀ r, r ≠ m → s1 r = s r ∧ t1 r = t r) ∧ s1 m 0 = c ∧ s1 m 1 = a ∧ s1 m 2 = b ∧ s1 m 3 = d)
abbrev rmX8_put : Room := ({ frames := 0, cells := 1, slots := 4, locals := 0 } : Room)
set_option maxRecDepth 100000 in
set_option maxHeartbeats 4000000 in
theorem ctX8_put (l : Launch) (D : va_G) (cA : Nat → ClassId) : zCt false l D cA yX8_put cX8_put 6 (some (.array .int)) rmX8_put spX8_put := by
  refine zct_Q (zCX8_put []) zpX8_put [3] (by decide +kernel) zkX8_put (Or.inr (by decide +kernel)) trivial ⟨by decide +kernel, by decide +kernel⟩ (fun x ad => Nat.le_of_ble_eq_true rfl) ?_ ?_
  · intro p e s m args below meth c A H0 ad0 n0 Q F hml hNw hA hX
    exact trivial
  · rintro ⟨m, sh, rf, s, t, pc, c, a, b, d⟩ Ret hP hK Gl hG
    try dsimp only at hP hK
    show Gl 0 (zent 6 [.ref 0, .int c, .int a, .int b, .int d]) [] (0, 0) ((m, sh, rf, s, t))
    obtain ⟨hS, h7, h60, hm⟩ := hP
    have h3 : ∀ (sh1 : zSh) (rf1 : zRf) (s1 : zIn) (t1 : zLo), lS (m + 1) 4 6 sh1 rf1 → sh1 m = (100, 4) → (∀ r, r ≠ m → s1 r = s r ∧ t1 r = t r) → Gl 3 [some (.ref 0), some (.int c), some (.int a), some (.int b), some (.int d), none] [.ref m] (1, 4) (m + 1, sh1, rf1, s1, t1) := by
      intro sh1 rf1 s1 t1 hS1 hsm hfr
      obtain ⟨⟨b1, b2, b3, b4, b5⟩, hBs, h999, ⟨h0, h120, h121, h122⟩, ⟨r0, r1, r4, r6, r8⟩, hu9, hv9⟩ := id hS1
      have hm0 : (0 : Nat) ≠ m := by have := hS.1.1; omega
      have h7' : s1 0 7 = nI pc := by rw [(hfr 0 hm0).1]; exact h7
      refine hG 100 _ _ _ _ _ ?_
      repeat (first
        | (conv => whnf
           try dsimp only
           try simp (decide := true) only [h0, hsm, r8, h122, zu_row hm0, h7', nI_clamp (show pc < 2 ^ 31 by omega), zu_same, zu_ne1, zu_ne2, zu_row, zuL_same, zuL_ne1, zuL_ne2, zrow_n1, zx0, zx1, zx2, zx3, nI_1, Nat.reduceAdd, Nat.reduceMul, Int32.reduceAdd, Int32.reduceSub, Int32.reduceMul]
           first
           | refine ⟨vp_inb (by decide), ?_⟩
           | refine ⟨by with_reducible exact zi (by omega), ?_⟩
           | refine ⟨fun h => absurd h (by with_reducible exact nI_ge (by omega) (by omega)), fun _ => ?_⟩
           | refine ⟨fun _ => ?_, fun h => absurd (by with_reducible exact nI_le (by omega) (by omega)) h⟩
           | refine ⟨fun h => absurd h (by with_reducible exact nI_nlt (by omega) (by omega)), fun _ => ?_⟩
           | refine ⟨fun _ => ?_, fun h => absurd (by with_reducible exact nI_lt (by omega) (by omega)) h⟩
           | refine ⟨fun h => absurd h (by with_reducible exact nI_pos (by omega)), fun _ => ?_⟩
           | refine ⟨fun _ => ?_, fun h => absurd (by with_reducible exact nI_0le (by omega)) h⟩
           | refine ⟨fun h => absurd h (by decide), fun _ => ?_⟩
           | refine ⟨fun _ => ?_, fun h => absurd (by decide) h⟩
           | refine ⟨fun _ => ?_, fun h => absurd h (by decide)⟩
           | refine ⟨fun h => absurd (by decide) h, fun _ => ?_⟩
           | refine ⟨by decide, ?_⟩
           | refine ⟨rfl, ?_⟩)
        | (conv => whnf
           fail_if_success refine Exists.intro ?_ ?_
           simp only [h0, hsm, r8, h122, zu_row hm0, h7', nI_clamp (show pc < 2 ^ 31 by omega)]))
      try (conv => whnf)
      refine hK _ _ ⟨rfl, sh1, _, _, t1, rfl, ⟨⟨b1, b2, b3, b4, b5⟩, zBs_zuR hBs (by omega), h999, ⟨h0, h120, h121, h122⟩, by rw [zuR_ne (by decide)]; exact ⟨r0, r1, r4, r6, r8⟩, fun k hk => by rw [zuR_ne (by decide)]; exact hu9 k hk, fun k hk => by rw [zuR_ne (by decide)]; exact hv9 k hk⟩, ⟨zuR_same, hsm⟩, fun r hr => ⟨?_, (hfr r hr).2⟩, ?_, ?_, ?_, ?_⟩
      · rw [zu_row hr, zu_row hr, zu_row hr, zu_row hr]
        exact (hfr r hr).1
      · rw [zu_ne2 (by decide), zu_ne2 (by decide), zu_ne2 (by decide), zu_same]
      · rw [zu_ne2 (by decide), zu_ne2 (by decide), zu_same]
      · rw [zu_ne2 (by decide), zu_same]
      · exact zu_same
    refine hG 100 _ _ _ _ _ ?_
    repeat (conv => whnf
            try dsimp only
            try simp (decide := true) only [zu_same, zu_ne1, zu_ne2, zu_row, zuL_same, zuL_ne1, zuL_ne2, zrow_n1, zx0, zx1, zx2, zx3, nI_1, Nat.reduceAdd, Nat.reduceMul, Int32.reduceAdd, Int32.reduceSub, Int32.reduceMul]
            first
            | refine ⟨vp_inb (by decide), ?_⟩
            | refine ⟨by with_reducible exact zi (by omega), ?_⟩
            | refine ⟨fun h => absurd h (by with_reducible exact nI_ge (by omega) (by omega)), fun _ => ?_⟩
            | refine ⟨fun _ => ?_, fun h => absurd (by with_reducible exact nI_le (by omega) (by omega)) h⟩
            | refine ⟨fun h => absurd h (by with_reducible exact nI_nlt (by omega) (by omega)), fun _ => ?_⟩
            | refine ⟨fun _ => ?_, fun h => absurd (by with_reducible exact nI_lt (by omega) (by omega)) h⟩
            | refine ⟨fun h => absurd h (by with_reducible exact nI_pos (by omega)), fun _ => ?_⟩
            | refine ⟨fun _ => ?_, fun h => absurd (by with_reducible exact nI_0le (by omega)) h⟩
            | refine ⟨fun h => absurd h (by decide), fun _ => ?_⟩
            | refine ⟨fun _ => ?_, fun h => absurd (by decide) h⟩
            | refine ⟨fun _ => ?_, fun h => absurd h (by decide)⟩
            | refine ⟨fun h => absurd (by decide) h, fun _ => ?_⟩
            | refine ⟨by decide, ?_⟩
            | refine ⟨rfl, ?_⟩)
    try (conv => whnf)
    exact h3 _ _ _ _ (lS_new hS hm zuS_ne (fun j hj => if_neg hj)) zuS_same (fun r hr => ⟨zrow_ne hr, if_neg hr⟩)
theorem lD_part {m pc dr : Nat} {sh : zSh} {rf : zRf} {s s1 s3 : zIn} {t t3 : zLo} {σ σ1 : zIn} {τ τ1 : zLo} (hS : lS m 4 6 sh rf) (hD : lD 4 6 pc dr s t σ τ) (e1 : ∀ r, r ≠ m → s1 r = s r) (hbc : zBc s3 t3 σ1 τ1) (hfr : ∀ k, k = 0 ∨ 120 ≤ k → s3 k = s1 k) (f : ∀ r, r < 17 ∨ 85 < r → σ1 r = σ r) : lD 4 6 (pc + 1) dr (zu s3 0 7 (nI (pc + 1))) t3 σ1 τ1 := by
  obtain ⟨b1, b2, b3, b4, b5⟩ := hS.1
  have b3' := b3 (by decide)
  obtain ⟨c, ⟨d2, d3, d5, d7, d9⟩, u, v⟩ := hD
  have z : ∀ j, j ≠ 7 → zu s3 0 7 (nI (pc + 1)) 0 j = s 0 j := fun j hj => by rw [zu_ne2 hj, hfr 0 (Or.inl rfl), e1 0 (by omega)]
  have zr : ∀ r, 120 ≤ r → r ≠ m → zu s3 0 7 (nI (pc + 1)) r = s r := fun r hr hn => by rw [zu_row (by omega), hfr r (Or.inr hr), e1 r hn]
  refine ⟨zBc_zu (Or.inl rfl) hbc, ⟨by rw [z 2 (by decide)]; exact d2, by rw [z 3 (by decide)]; exact d3, by rw [z 5 (by decide)]; exact d5, zu_same, by rw [z 9 (by decide), f 100 (by decide)]; exact d9⟩, fun k hk => ?_, fun k hk => ?_⟩
  · rw [zr (125 + k) (by omega) (by omega), f 15 (by decide), f 16 (by decide)]
    exact u k hk
  · rw [zr (129 + k) (by omega) (by omega), f 87 (by decide), f 88 (by decide), f 89 (by decide)]
    exact v k hk
theorem mx_i {pc g : Nat} (hp : 0 < pc) (hp2 : pc < 60) (hg : g < 6) : ∃ i, i < pc ∧ (if (0 : Int32) < nI pc - 1 - nI g then nI pc - 1 - nI g else 0) = nI i := by
  have key : ∀ p, p < 60 → 0 < p → ∀ g, g < 6 → ∃ i, i < p ∧ (if (0 : Int32) < nI p - 1 - nI g then nI p - 1 - nI g else 0) = nI i := by
    intro p h1 h2 g h3
    have e0 : (nI p - 1).toInt = (p : Int) - 1 := by
      rw [Int32.toInt_sub, nI_toInt (by omega), show (1 : Int32).toInt = 1 from rfl]
      exact b32 (by omega) (by omega)
    have e9 : (nI p - 1 - nI g).toInt = (p : Int) - 1 - g := by
      rw [Int32.toInt_sub, e0, nI_toInt (by omega)]
      exact b32 (by omega) (by omega)
    by_cases e : g + 1 < p
    · refine ⟨p - 1 - g, by omega, ?_⟩
      have e1 : nI p - 1 - nI g = nI (p - 1 - g) := by
        apply Int32.toInt_inj.mp
        rw [e9, nI_toInt (by omega)]
        omega
      rw [e1, if_pos (show (0 : Int32) < nI (p - 1 - g) from Int32.not_le.mp (nI_nle (by omega) (by omega)))]
    · refine ⟨0, h2, ?_⟩
      rw [if_neg]
      · rfl
      · intro q
        have q2 := Int32.lt_iff_toInt_lt.mp q
        rw [e9, show (0 : Int32).toInt = 0 from rfl] at q2
        omega
  exact key pc hp2 hp g hg
def spX8_addPart : zSp := zDQ (X := Nat × zSh × zRf × zIn × zLo × zIn × zLo × Nat × Nat) (fun x => match x with | (m, sh, rf, s, t, σ, τ, pc, dr) => [.ref 0]) (fun x => match x with | (m, sh, rf, s, t, σ, τ, pc, dr) => (m, sh, rf, s, t)) (fun x => match x with | (m, sh, rf, s, t, σ, τ, pc, dr) => lS m 4 6 sh rf ∧ lD 4 6 pc dr s t σ τ ∧ cI σ τ 6 pc 4 ∧ pc < 40 ∧ dr + 5 < 10000 ∧ m < 100000) (fun x r9 μ9 => match x with | (m, sh, rf, s, t, σ, τ, pc, dr) => r9 = some (.int 1) ∧ ∃ (sh1 : zSh) (rf1 : zRf) (s1 : zIn) (t1 : zLo) (σ1 : zIn) (τ1 : zLo) (dr1 : Nat), μ9 = (m + 1, sh1, rf1, s1, t1) ∧ lS (m + 1) 4 6 sh1 rf1 ∧ lD 4 6 (pc + 1) dr1 s1 t1 σ1 τ1 ∧ cI σ1 τ1 6 (pc + 1) 4 ∧ (∀ r, r < 17 ∨ 85 < r → σ1 r = σ r) ∧ dr1 ≤ dr + 5)
abbrev rmX8_addPart : Room := ({ frames := 4, cells := 1, slots := 4, locals := 96 } : Room)
set_option maxRecDepth 100000 in
set_option maxHeartbeats 4000000 in
theorem ctX8_addPart (l : Launch) (D : va_G) (cA : Nat → ClassId) : zCt true l D cA yX8_addPart cX8_addPart 5 (some .boolean) rmX8_addPart spX8_addPart := by
  refine zct_Q (zCX8_addPart [(58, 0, 1, spX8_draw, rmX8_draw.cells, rmX8_draw.slots), (74, 0, 4, spX8_put, rmX8_put.cells, rmX8_put.slots), (78, 0, 2, spJX7_number, rmX7_number.cells, rmX7_number.slots), (81, 0, 1, spJX7_of, rmX7_of.cells, rmX7_of.slots), (84, 1, 2, spMax, 0, 0), (89, 0, 3, spJX7_join, rmX7_join.cells, rmX7_join.slots), (93, 0, 3, spJX7_when, rmX7_when.cells, rmX7_when.slots), (96, 0, 1, spJX7_root, rmX7_root.cells, rmX7_root.slots)]) zpX8_addPart [32, 43, 76, 96, 155, 206, 228] (by decide +kernel) zkX8_addPart (Or.inr (by decide +kernel)) trivial ⟨by decide +kernel, by decide +kernel⟩ (fun x ad => Nat.le_of_ble_eq_true rfl) ?_ ?_
  · intro p e s m args below meth c A H0 ad0 n0 Q F hml hNw hA hX
    exact ⟨zco_V hX hA F hml hNw (ctX8_draw l D cA) ⟨⟨zlX8_addPart_58, zwX8_draw.1.1, zwX8_draw.1.2⟩, zwX8_draw.2⟩ zdX8_draw ⟨Nat.le_of_ble_eq_true rfl, Nat.le_of_ble_eq_true rfl⟩ (ci := 8) (by decide) rfl (by rintro av μ K ⟨⟨m, sh, rf, s, t, dr, k⟩, rfl, rfl, ⟨h, -⟩, -⟩; exact ⟨_, _, rfl, congrArg Prod.fst h⟩), zco_V hX hA F hml hNw (zct_X (ctX8_put l D cA)) ⟨⟨zlX8_addPart_74, zwX8_put.1.1, zwX8_put.1.2⟩, zwX8_put.2⟩ zdX8_put ⟨Nat.le_of_ble_eq_true rfl, Nat.le_of_ble_eq_true rfl⟩ (ci := 8) (by decide) rfl (by rintro av μ K ⟨⟨m, sh, rf, s, t, pc, c, a, b, d⟩, rfl, rfl, ⟨h, -⟩, -⟩; exact ⟨_, _, rfl, lS_0 h⟩), zco_V hX hA F hml hNw (zct_X (ctJX7_number l D cA)) ⟨⟨zlX8_addPart_78, zwX7_number.1.1, zwX7_number.1.2⟩, zwX7_number.2⟩ zdX7_number ⟨Nat.le_of_ble_eq_true rfl, Nat.le_of_ble_eq_true rfl⟩ (ci := 7) (by decide) rfl (zrvJ (by rintro av μ K ⟨x, rfl, -⟩; exact ⟨_, rfl⟩)), zco_V hX hA F hml hNw (zct_X (ctJX7_of l D cA)) ⟨⟨zlX8_addPart_81, zwX7_of.1.1, zwX7_of.1.2⟩, zwX7_of.2⟩ zdX7_of ⟨Nat.le_of_ble_eq_true rfl, Nat.le_of_ble_eq_true rfl⟩ (ci := 7) (by decide) rfl (zrvJ (by rintro av μ K ⟨x, rfl, -⟩; exact ⟨_, rfl⟩)), zco_max F hml ⟨zlX8_addPart_84, zlib_max⟩ ⟨Nat.le_of_ble_eq_true rfl, Nat.le_of_ble_eq_true rfl⟩, zco_V hX hA F hml hNw (zct_X (ctJX7_join l D cA)) ⟨⟨zlX8_addPart_89, zwX7_join.1.1, zwX7_join.1.2⟩, zwX7_join.2⟩ zdX7_join ⟨Nat.le_of_ble_eq_true rfl, Nat.le_of_ble_eq_true rfl⟩ (ci := 7) (by decide) rfl (zrvJ (by rintro av μ K ⟨x, rfl, -⟩; exact ⟨_, rfl⟩)), zco_V hX hA F hml hNw (zct_X (ctJX7_when l D cA)) ⟨⟨zlX8_addPart_93, zwX7_when.1.1, zwX7_when.1.2⟩, zwX7_when.2⟩ zdX7_when ⟨Nat.le_of_ble_eq_true rfl, Nat.le_of_ble_eq_true rfl⟩ (ci := 7) (by decide) rfl (zrvJ (by rintro av μ K ⟨x, rfl, -⟩; exact ⟨_, rfl⟩)), zco_V hX hA F hml hNw (zct_X (ctJX7_root l D cA)) ⟨⟨zlX8_addPart_96, zwX7_root.1.1, zwX7_root.1.2⟩, zwX7_root.2⟩ zdX7_root ⟨Nat.le_of_ble_eq_true rfl, Nat.le_of_ble_eq_true rfl⟩ (ci := 7) (by decide) rfl (zrvJ (by rintro av μ K ⟨x, rfl, -⟩; exact ⟨_, rfl⟩)), trivial⟩
  · rintro ⟨m, sh, rf, s, t, σ, τ, pc, dr⟩ Ret hP hK Gl hG
    try dsimp only at hP hK
    show Gl 0 (zent 5 [.ref 0]) [] (0, 0) ((m, sh, rf, s, t))
    obtain ⟨hS, hD, hI, hpc, hdr, hm⟩ := hP
    obtain ⟨⟨b1, b2, b3, b4, b5⟩, hBs, h999, ⟨h0, h120, h121, h122⟩, ⟨r0, r1, r4, r6, r8⟩, hu9, hv9⟩ := id hS
    have i60 : vp_in (nI pc) 60 := zi (by omega)
    have h96 : ∀ (l2 l3 l4 : Option Value) (s2 : zIn) (x : Int32) (u dr2 : Nat), dS s s2 dr2 → dr2 ≤ dr + 5 → (-1000000000 ≤ x ∧ x ≤ 1000000000) → u < 4 → Gl 96 [some (.ref 0), some (.int (nI pc)), l2, l3, l4] [.int (nI u), .int x, .int 0, .ref 0] (0, 0) (m, sh, rf, s2, t) := by
      intro l2 l3 l4 s2 x u dr2 d2 hdr2 hx hu
      have hD2 := lD_dS hD d2
      refine hG 100 _ _ _ _ _ ?_
      repeat (conv => whnf
              try dsimp only
              try simp (decide := true) only [zu_same, zu_ne1, zu_ne2, zu_row, zuL_same, zuL_ne1, zuL_ne2, zrow_n1, zx0, zx1, zx2, zx3, nI_1, Nat.reduceAdd, Nat.reduceMul, Int32.reduceAdd, Int32.reduceSub, Int32.reduceMul]
              first
              | refine ⟨vp_inb (by decide), ?_⟩
              | refine ⟨by with_reducible exact zi (by omega), ?_⟩
              | refine ⟨fun h => absurd h (by with_reducible exact nI_ge (by omega) (by omega)), fun _ => ?_⟩
              | refine ⟨fun _ => ?_, fun h => absurd (by with_reducible exact nI_le (by omega) (by omega)) h⟩
              | refine ⟨fun h => absurd h (by with_reducible exact nI_nlt (by omega) (by omega)), fun _ => ?_⟩
              | refine ⟨fun _ => ?_, fun h => absurd (by with_reducible exact nI_lt (by omega) (by omega)) h⟩
              | refine ⟨fun h => absurd h (by with_reducible exact nI_pos (by omega)), fun _ => ?_⟩
              | refine ⟨fun _ => ?_, fun h => absurd (by with_reducible exact nI_0le (by omega)) h⟩
              | refine ⟨fun h => absurd h (by decide), fun _ => ?_⟩
              | refine ⟨fun _ => ?_, fun h => absurd (by decide) h⟩
              | refine ⟨fun _ => ?_, fun h => absurd h (by decide)⟩
              | refine ⟨fun h => absurd (by decide) h, fun _ => ?_⟩
              | refine ⟨by decide, ?_⟩
              | refine ⟨rfl, ?_⟩)
      try (conv => whnf)
      refine ⟨(m, sh, rf, s2, t, pc, 0, x, nI u, 0), rfl, rfl, ⟨hS, hD2.2.1.2.2.2.1, by omega, hm⟩, ?_⟩
      try dsimp only [cond_true, cond_false]
      rintro _ _ ⟨rfl, sh1, rf1, s1, t1, rfl, hS1, ⟨p1, p2⟩, hf, g0, g1, g2, g3⟩
      obtain ⟨-, hBs1, -, ⟨h0', -, -, h122'⟩, ⟨r0', -, -, -, r8'⟩, -, -⟩ := id hS1
      have hD1 : lD 4 6 pc dr2 s1 t1 σ τ := lD_new hS hD2 (fun r hr => (hf r hr).1) (fun r hr => (hf r hr).2)
      repeat (first
        | (conv => whnf
           try dsimp only
           try simp (decide := true) only [h0', r0', r8', h122', p1, p2, g1, g2, nI_clamp (show pc < 2 ^ 31 by omega), zu_same, zu_ne1, zu_ne2, zu_row, zuL_same, zuL_ne1, zuL_ne2, zrow_n1, zx0, zx1, zx2, zx3, nI_1, Nat.reduceAdd, Nat.reduceMul, Int32.reduceAdd, Int32.reduceSub, Int32.reduceMul]
           first
           | refine ⟨vp_inb (by decide), ?_⟩
           | refine ⟨by with_reducible exact zi (by omega), ?_⟩
           | refine ⟨fun h => absurd h (by with_reducible exact nI_ge (by omega) (by omega)), fun _ => ?_⟩
           | refine ⟨fun _ => ?_, fun h => absurd (by with_reducible exact nI_le (by omega) (by omega)) h⟩
           | refine ⟨fun h => absurd h (by with_reducible exact nI_nlt (by omega) (by omega)), fun _ => ?_⟩
           | refine ⟨fun _ => ?_, fun h => absurd (by with_reducible exact nI_lt (by omega) (by omega)) h⟩
           | refine ⟨fun h => absurd h (by with_reducible exact nI_pos (by omega)), fun _ => ?_⟩
           | refine ⟨fun _ => ?_, fun h => absurd (by with_reducible exact nI_0le (by omega)) h⟩
           | refine ⟨fun h => absurd h (by decide), fun _ => ?_⟩
           | refine ⟨fun _ => ?_, fun h => absurd (by decide) h⟩
           | refine ⟨fun _ => ?_, fun h => absurd h (by decide)⟩
           | refine ⟨fun h => absurd (by decide) h, fun _ => ?_⟩
           | refine ⟨by decide, ?_⟩
           | refine ⟨rfl, ?_⟩)
        | (conv => whnf
           fail_if_success refine Exists.intro ?_ ?_
           simp only [h0', r0', r8', h122', p1, p2, g1, g2, nI_clamp (show pc < 2 ^ 31 by omega)]))
      try (conv => whnf)
      refine ⟨[.ref 0, .int x, .int (nI u)], σ, τ, rfl, rfl, hBs1, hD1.1, by show 120 ≤ m + 1; omega, (σ, τ, 6, pc, 4, x, u), rfl, rfl, ⟨hI, by omega, hu, hx⟩, ?_⟩
      try dsimp only [cond_true, cond_false]
      rintro _ _ ⟨rfl, σ1, τ1, rfl, c1, c2⟩
      refine ⟨σ1, τ1, rfl, rfl, fun s3 t3 hbc hfr => ?_⟩
      have z07 : s3 0 7 = nI pc := by rw [(hfr 0 (Or.inl rfl)).1]; exact hD1.2.1.2.2.2.1
      repeat (first
        | (conv => whnf
           try dsimp only
           try simp (decide := true) only [h0', z07, zu_same, zu_ne1, zu_ne2, zu_row, zuL_same, zuL_ne1, zuL_ne2, zrow_n1, zx0, zx1, zx2, zx3, nI_1, Nat.reduceAdd, Nat.reduceMul, Int32.reduceAdd, Int32.reduceSub, Int32.reduceMul]
           first
           | refine ⟨vp_inb (by decide), ?_⟩
           | refine ⟨by with_reducible exact zi (by omega), ?_⟩
           | refine ⟨fun h => absurd h (by with_reducible exact nI_ge (by omega) (by omega)), fun _ => ?_⟩
           | refine ⟨fun _ => ?_, fun h => absurd (by with_reducible exact nI_le (by omega) (by omega)) h⟩
           | refine ⟨fun h => absurd h (by with_reducible exact nI_nlt (by omega) (by omega)), fun _ => ?_⟩
           | refine ⟨fun _ => ?_, fun h => absurd (by with_reducible exact nI_lt (by omega) (by omega)) h⟩
           | refine ⟨fun h => absurd h (by with_reducible exact nI_pos (by omega)), fun _ => ?_⟩
           | refine ⟨fun _ => ?_, fun h => absurd (by with_reducible exact nI_0le (by omega)) h⟩
           | refine ⟨fun h => absurd h (by decide), fun _ => ?_⟩
           | refine ⟨fun _ => ?_, fun h => absurd (by decide) h⟩
           | refine ⟨fun _ => ?_, fun h => absurd h (by decide)⟩
           | refine ⟨fun h => absurd (by decide) h, fun _ => ?_⟩
           | refine ⟨by decide, ?_⟩
           | refine ⟨rfl, ?_⟩)
        | (conv => whnf
           fail_if_success refine Exists.intro ?_ ?_
           simp only [h0', z07]))
      try (conv => whnf)
      try dsimp only
      try simp (decide := true) only [zu_same, zu_ne1, zu_ne2, zu_row, zuL_same, zuL_ne1, zuL_ne2, zrow_n1, zx0, zx1, zx2, zx3, nI_1, Nat.reduceAdd, Nat.reduceMul, Int32.reduceAdd, Int32.reduceSub, Int32.reduceMul]
      exact hK _ _ ⟨rfl, sh1, rf1, _, t3, σ1, τ1, dr2, rfl, hS1, lD_part hS hD2 (fun r hr => (hf r hr).1) hbc (fun k hk => (hfr k hk).1) c2, c1, c2, hdr2⟩
    have h76 : ∀ (l2 l3 l4 : Option Value) (s2 : zIn) (x : Int32) (dr2 : Nat), dS s s2 dr2 → dr2 ≤ dr + 3 → (-1000000000 ≤ x ∧ x ≤ 1000000000) → Gl 76 [some (.ref 0), some (.int (nI pc)), l2, l3, l4] [.int x, .int 0, .ref 0] (0, 0) (m, sh, rf, s2, t) := by
      intro l2 l3 l4 s2 x dr2 d2 hdr2 hx
      refine hG 100 _ _ _ _ _ ?_
      repeat (conv => whnf
              try dsimp only
              try simp (decide := true) only [zu_same, zu_ne1, zu_ne2, zu_row, zuL_same, zuL_ne1, zuL_ne2, zrow_n1, zx0, zx1, zx2, zx3, nI_1, Nat.reduceAdd, Nat.reduceMul, Int32.reduceAdd, Int32.reduceSub, Int32.reduceMul]
              first
              | refine ⟨vp_inb (by decide), ?_⟩
              | refine ⟨by with_reducible exact zi (by omega), ?_⟩
              | refine ⟨fun h => absurd h (by with_reducible exact nI_ge (by omega) (by omega)), fun _ => ?_⟩
              | refine ⟨fun _ => ?_, fun h => absurd (by with_reducible exact nI_le (by omega) (by omega)) h⟩
              | refine ⟨fun h => absurd h (by with_reducible exact nI_nlt (by omega) (by omega)), fun _ => ?_⟩
              | refine ⟨fun _ => ?_, fun h => absurd (by with_reducible exact nI_lt (by omega) (by omega)) h⟩
              | refine ⟨fun h => absurd h (by with_reducible exact nI_pos (by omega)), fun _ => ?_⟩
              | refine ⟨fun _ => ?_, fun h => absurd (by with_reducible exact nI_0le (by omega)) h⟩
              | refine ⟨fun h => absurd h (by decide), fun _ => ?_⟩
              | refine ⟨fun _ => ?_, fun h => absurd (by decide) h⟩
              | refine ⟨fun _ => ?_, fun h => absurd h (by decide)⟩
              | refine ⟨fun h => absurd (by decide) h, fun _ => ?_⟩
              | refine ⟨by decide, ?_⟩
              | refine ⟨rfl, ?_⟩)
      try (conv => whnf)
      refine ⟨(m, sh, rf, s2, t, dr2, 4), rfl, rfl, ⟨h0, r1, h999, d2.1, by omega, by decide, by decide⟩, ?_⟩
      try dsimp only [cond_true, cond_false]
      rintro _ _ ⟨⟨y, hy, rfl⟩, s3, rfl, d3⟩
      have d3' := dS_t d2 d3
      refine ⟨fun h => ?_, fun h => ?_⟩
      · skip
        repeat (first
          | (conv => whnf
             try dsimp only
             try simp (decide := true) only [h0, (lD_dS hD d3').2.1.2.1, zu_same, zu_ne1, zu_ne2, zu_row, zuL_same, zuL_ne1, zuL_ne2, zrow_n1, zx0, zx1, zx2, zx3, nI_1, Nat.reduceAdd, Nat.reduceMul, Int32.reduceAdd, Int32.reduceSub, Int32.reduceMul]
             first
             | refine ⟨vp_inb (by decide), ?_⟩
             | refine ⟨by with_reducible exact zi (by omega), ?_⟩
             | refine ⟨fun h => absurd h (by with_reducible exact nI_ge (by omega) (by omega)), fun _ => ?_⟩
             | refine ⟨fun _ => ?_, fun h => absurd (by with_reducible exact nI_le (by omega) (by omega)) h⟩
             | refine ⟨fun h => absurd h (by with_reducible exact nI_nlt (by omega) (by omega)), fun _ => ?_⟩
             | refine ⟨fun _ => ?_, fun h => absurd (by with_reducible exact nI_lt (by omega) (by omega)) h⟩
             | refine ⟨fun h => absurd h (by with_reducible exact nI_pos (by omega)), fun _ => ?_⟩
             | refine ⟨fun _ => ?_, fun h => absurd (by with_reducible exact nI_0le (by omega)) h⟩
             | refine ⟨fun h => absurd h (by decide), fun _ => ?_⟩
             | refine ⟨fun _ => ?_, fun h => absurd (by decide) h⟩
             | refine ⟨fun _ => ?_, fun h => absurd h (by decide)⟩
             | refine ⟨fun h => absurd (by decide) h, fun _ => ?_⟩
             | refine ⟨by decide, ?_⟩
             | refine ⟨rfl, ?_⟩)
          | (conv => whnf
             fail_if_success refine Exists.intro ?_ ?_
             simp only [h0, (lD_dS hD d3').2.1.2.1]))
        try (conv => whnf)
        refine ⟨(m, sh, rf, s3, t, dr2 + 1, 4), rfl, rfl, ⟨h0, r1, h999, d3.1, by omega, by decide, by decide⟩, ?_⟩
        try dsimp only [cond_true, cond_false]
        rintro _ _ ⟨⟨u, hu, rfl⟩, s4, rfl, d4⟩
        repeat (conv => whnf
                try dsimp only
                try simp (decide := true) only [zu_same, zu_ne1, zu_ne2, zu_row, zuL_same, zuL_ne1, zuL_ne2, zrow_n1, zx0, zx1, zx2, zx3, nI_1, Nat.reduceAdd, Nat.reduceMul, Int32.reduceAdd, Int32.reduceSub, Int32.reduceMul]
                first
                | refine ⟨vp_inb (by decide), ?_⟩
                | refine ⟨by with_reducible exact zi (by omega), ?_⟩
                | refine ⟨fun h => absurd h (by with_reducible exact nI_ge (by omega) (by omega)), fun _ => ?_⟩
                | refine ⟨fun _ => ?_, fun h => absurd (by with_reducible exact nI_le (by omega) (by omega)) h⟩
                | refine ⟨fun h => absurd h (by with_reducible exact nI_nlt (by omega) (by omega)), fun _ => ?_⟩
                | refine ⟨fun _ => ?_, fun h => absurd (by with_reducible exact nI_lt (by omega) (by omega)) h⟩
                | refine ⟨fun h => absurd h (by with_reducible exact nI_pos (by omega)), fun _ => ?_⟩
                | refine ⟨fun _ => ?_, fun h => absurd (by with_reducible exact nI_0le (by omega)) h⟩
                | refine ⟨fun h => absurd h (by decide), fun _ => ?_⟩
                | refine ⟨fun _ => ?_, fun h => absurd (by decide) h⟩
                | refine ⟨fun _ => ?_, fun h => absurd h (by decide)⟩
                | refine ⟨fun h => absurd (by decide) h, fun _ => ?_⟩
                | refine ⟨by decide, ?_⟩
                | refine ⟨rfl, ?_⟩)
        try (conv => whnf)
        exact h96 l2 l3 l4 s4 x u (dr2 + 2) (dS_t d3' d4) (by omega) hx hu
      · skip
        repeat (conv => whnf
                try dsimp only
                try simp (decide := true) only [zu_same, zu_ne1, zu_ne2, zu_row, zuL_same, zuL_ne1, zuL_ne2, zrow_n1, zx0, zx1, zx2, zx3, nI_1, Nat.reduceAdd, Nat.reduceMul, Int32.reduceAdd, Int32.reduceSub, Int32.reduceMul]
                first
                | refine ⟨vp_inb (by decide), ?_⟩
                | refine ⟨by with_reducible exact zi (by omega), ?_⟩
                | refine ⟨fun h => absurd h (by with_reducible exact nI_ge (by omega) (by omega)), fun _ => ?_⟩
                | refine ⟨fun _ => ?_, fun h => absurd (by with_reducible exact nI_le (by omega) (by omega)) h⟩
                | refine ⟨fun h => absurd h (by with_reducible exact nI_nlt (by omega) (by omega)), fun _ => ?_⟩
                | refine ⟨fun _ => ?_, fun h => absurd (by with_reducible exact nI_lt (by omega) (by omega)) h⟩
                | refine ⟨fun h => absurd h (by with_reducible exact nI_pos (by omega)), fun _ => ?_⟩
                | refine ⟨fun _ => ?_, fun h => absurd (by with_reducible exact nI_0le (by omega)) h⟩
                | refine ⟨fun h => absurd h (by decide), fun _ => ?_⟩
                | refine ⟨fun _ => ?_, fun h => absurd (by decide) h⟩
                | refine ⟨fun _ => ?_, fun h => absurd h (by decide)⟩
                | refine ⟨fun h => absurd (by decide) h, fun _ => ?_⟩
                | refine ⟨by decide, ?_⟩
                | refine ⟨rfl, ?_⟩)
        try (conv => whnf)
        exact h96 l2 l3 l4 s3 x 0 (dr2 + 1) d3' (by omega) hx (by omega)
    have mul : ∀ g, g < 9 → (-1000000000 : Int32) ≤ nI g * 500 ∧ nI g * 500 ≤ 1000000000 := by decide +kernel
    have sub : ∀ g, g < 60001 → (-1000000000 : Int32) ≤ nI g - 20000 ∧ nI g - 20000 ≤ 1000000000 := fun g hg => by
      have e1 : (nI g).toInt = (g : Int) := nI_toInt (by omega)
      have e2 : (nI g - 20000).toInt = (g : Int) - 20000 := by
        rw [Int32.toInt_sub, e1, show (20000 : Int32).toInt = 20000 from rfl]
        exact b32 (by omega) (by omega)
      refine ⟨Int32.le_iff_toInt_le.mpr ?_, Int32.le_iff_toInt_le.mpr ?_⟩
      · rw [e2, show (-1000000000 : Int32).toInt = -1000000000 from rfl]; omega
      · rw [e2, show (1000000000 : Int32).toInt = 1000000000 from rfl]; omega
    have h43 : ∀ (l2 l3 l4 : Option Value) (s2 : zIn) (dr2 : Nat), dS s s2 dr2 → dr2 ≤ dr + 1 → Gl 43 [some (.ref 0), some (.int (nI pc)), l2, l3, l4] [] (0, 0) (m, sh, rf, s2, t) := by
      intro l2 l3 l4 s2 dr2 d2 hdr2
      refine hG 100 _ _ _ _ _ ?_
      repeat (conv => whnf
              try dsimp only
              try simp (decide := true) only [zu_same, zu_ne1, zu_ne2, zu_row, zuL_same, zuL_ne1, zuL_ne2, zrow_n1, zx0, zx1, zx2, zx3, nI_1, Nat.reduceAdd, Nat.reduceMul, Int32.reduceAdd, Int32.reduceSub, Int32.reduceMul]
              first
              | refine ⟨vp_inb (by decide), ?_⟩
              | refine ⟨by with_reducible exact zi (by omega), ?_⟩
              | refine ⟨fun h => absurd h (by with_reducible exact nI_ge (by omega) (by omega)), fun _ => ?_⟩
              | refine ⟨fun _ => ?_, fun h => absurd (by with_reducible exact nI_le (by omega) (by omega)) h⟩
              | refine ⟨fun h => absurd h (by with_reducible exact nI_nlt (by omega) (by omega)), fun _ => ?_⟩
              | refine ⟨fun _ => ?_, fun h => absurd (by with_reducible exact nI_lt (by omega) (by omega)) h⟩
              | refine ⟨fun h => absurd h (by with_reducible exact nI_pos (by omega)), fun _ => ?_⟩
              | refine ⟨fun _ => ?_, fun h => absurd (by with_reducible exact nI_0le (by omega)) h⟩
              | refine ⟨fun h => absurd h (by decide), fun _ => ?_⟩
              | refine ⟨fun _ => ?_, fun h => absurd (by decide) h⟩
              | refine ⟨fun _ => ?_, fun h => absurd h (by decide)⟩
              | refine ⟨fun h => absurd (by decide) h, fun _ => ?_⟩
              | refine ⟨by decide, ?_⟩
              | refine ⟨rfl, ?_⟩)
      try (conv => whnf)
      refine ⟨(m, sh, rf, s2, t, dr2, 2), rfl, rfl, ⟨h0, r1, h999, d2.1, by omega, by decide, by decide⟩, ?_⟩
      try dsimp only [cond_true, cond_false]
      rintro _ _ ⟨⟨y, hy, rfl⟩, s3, rfl, d3⟩
      have d3' := dS_t d2 d3
      refine ⟨fun h => ?_, fun h => ?_⟩
      · skip
        repeat (conv => whnf
                try dsimp only
                try simp (decide := true) only [zu_same, zu_ne1, zu_ne2, zu_row, zuL_same, zuL_ne1, zuL_ne2, zrow_n1, zx0, zx1, zx2, zx3, nI_1, Nat.reduceAdd, Nat.reduceMul, Int32.reduceAdd, Int32.reduceSub, Int32.reduceMul]
                first
                | refine ⟨vp_inb (by decide), ?_⟩
                | refine ⟨by with_reducible exact zi (by omega), ?_⟩
                | refine ⟨fun h => absurd h (by with_reducible exact nI_ge (by omega) (by omega)), fun _ => ?_⟩
                | refine ⟨fun _ => ?_, fun h => absurd (by with_reducible exact nI_le (by omega) (by omega)) h⟩
                | refine ⟨fun h => absurd h (by with_reducible exact nI_nlt (by omega) (by omega)), fun _ => ?_⟩
                | refine ⟨fun _ => ?_, fun h => absurd (by with_reducible exact nI_lt (by omega) (by omega)) h⟩
                | refine ⟨fun h => absurd h (by with_reducible exact nI_pos (by omega)), fun _ => ?_⟩
                | refine ⟨fun _ => ?_, fun h => absurd (by with_reducible exact nI_0le (by omega)) h⟩
                | refine ⟨fun h => absurd h (by decide), fun _ => ?_⟩
                | refine ⟨fun _ => ?_, fun h => absurd (by decide) h⟩
                | refine ⟨fun _ => ?_, fun h => absurd h (by decide)⟩
                | refine ⟨fun h => absurd (by decide) h, fun _ => ?_⟩
                | refine ⟨by decide, ?_⟩
                | refine ⟨rfl, ?_⟩)
        try (conv => whnf)
        refine ⟨(m, sh, rf, s3, t, dr2 + 1, 60001), rfl, rfl, ⟨h0, r1, h999, d3.1, by omega, by decide, by decide⟩, ?_⟩
        try dsimp only [cond_true, cond_false]
        rintro _ _ ⟨⟨g, hg, rfl⟩, s4, rfl, d4⟩
        repeat (conv => whnf
                try dsimp only
                try simp (decide := true) only [zu_same, zu_ne1, zu_ne2, zu_row, zuL_same, zuL_ne1, zuL_ne2, zrow_n1, zx0, zx1, zx2, zx3, nI_1, Nat.reduceAdd, Nat.reduceMul, Int32.reduceAdd, Int32.reduceSub, Int32.reduceMul]
                first
                | refine ⟨vp_inb (by decide), ?_⟩
                | refine ⟨by with_reducible exact zi (by omega), ?_⟩
                | refine ⟨fun h => absurd h (by with_reducible exact nI_ge (by omega) (by omega)), fun _ => ?_⟩
                | refine ⟨fun _ => ?_, fun h => absurd (by with_reducible exact nI_le (by omega) (by omega)) h⟩
                | refine ⟨fun h => absurd h (by with_reducible exact nI_nlt (by omega) (by omega)), fun _ => ?_⟩
                | refine ⟨fun _ => ?_, fun h => absurd (by with_reducible exact nI_lt (by omega) (by omega)) h⟩
                | refine ⟨fun h => absurd h (by with_reducible exact nI_pos (by omega)), fun _ => ?_⟩
                | refine ⟨fun _ => ?_, fun h => absurd (by with_reducible exact nI_0le (by omega)) h⟩
                | refine ⟨fun h => absurd h (by decide), fun _ => ?_⟩
                | refine ⟨fun _ => ?_, fun h => absurd (by decide) h⟩
                | refine ⟨fun _ => ?_, fun h => absurd h (by decide)⟩
                | refine ⟨fun h => absurd (by decide) h, fun _ => ?_⟩
                | refine ⟨by decide, ?_⟩
                | refine ⟨rfl, ?_⟩)
        try (conv => whnf)
        exact h76 l2 l3 l4 s4 _ (dr2 + 2) (dS_t d3' d4) (by omega) (sub g hg)
      · skip
        repeat (conv => whnf
                try dsimp only
                try simp (decide := true) only [zu_same, zu_ne1, zu_ne2, zu_row, zuL_same, zuL_ne1, zuL_ne2, zrow_n1, zx0, zx1, zx2, zx3, nI_1, Nat.reduceAdd, Nat.reduceMul, Int32.reduceAdd, Int32.reduceSub, Int32.reduceMul]
                first
                | refine ⟨vp_inb (by decide), ?_⟩
                | refine ⟨by with_reducible exact zi (by omega), ?_⟩
                | refine ⟨fun h => absurd h (by with_reducible exact nI_ge (by omega) (by omega)), fun _ => ?_⟩
                | refine ⟨fun _ => ?_, fun h => absurd (by with_reducible exact nI_le (by omega) (by omega)) h⟩
                | refine ⟨fun h => absurd h (by with_reducible exact nI_nlt (by omega) (by omega)), fun _ => ?_⟩
                | refine ⟨fun _ => ?_, fun h => absurd (by with_reducible exact nI_lt (by omega) (by omega)) h⟩
                | refine ⟨fun h => absurd h (by with_reducible exact nI_pos (by omega)), fun _ => ?_⟩
                | refine ⟨fun _ => ?_, fun h => absurd (by with_reducible exact nI_0le (by omega)) h⟩
                | refine ⟨fun h => absurd h (by decide), fun _ => ?_⟩
                | refine ⟨fun _ => ?_, fun h => absurd (by decide) h⟩
                | refine ⟨fun _ => ?_, fun h => absurd h (by decide)⟩
                | refine ⟨fun h => absurd (by decide) h, fun _ => ?_⟩
                | refine ⟨by decide, ?_⟩
                | refine ⟨rfl, ?_⟩)
        try (conv => whnf)
        refine ⟨(m, sh, rf, s3, t, dr2 + 1, 9), rfl, rfl, ⟨h0, r1, h999, d3.1, by omega, by decide, by decide⟩, ?_⟩
        try dsimp only [cond_true, cond_false]
        rintro _ _ ⟨⟨g, hg, rfl⟩, s4, rfl, d4⟩
        repeat (conv => whnf
                try dsimp only
                try simp (decide := true) only [zu_same, zu_ne1, zu_ne2, zu_row, zuL_same, zuL_ne1, zuL_ne2, zrow_n1, zx0, zx1, zx2, zx3, nI_1, Nat.reduceAdd, Nat.reduceMul, Int32.reduceAdd, Int32.reduceSub, Int32.reduceMul]
                first
                | refine ⟨vp_inb (by decide), ?_⟩
                | refine ⟨by with_reducible exact zi (by omega), ?_⟩
                | refine ⟨fun h => absurd h (by with_reducible exact nI_ge (by omega) (by omega)), fun _ => ?_⟩
                | refine ⟨fun _ => ?_, fun h => absurd (by with_reducible exact nI_le (by omega) (by omega)) h⟩
                | refine ⟨fun h => absurd h (by with_reducible exact nI_nlt (by omega) (by omega)), fun _ => ?_⟩
                | refine ⟨fun _ => ?_, fun h => absurd (by with_reducible exact nI_lt (by omega) (by omega)) h⟩
                | refine ⟨fun h => absurd h (by with_reducible exact nI_pos (by omega)), fun _ => ?_⟩
                | refine ⟨fun _ => ?_, fun h => absurd (by with_reducible exact nI_0le (by omega)) h⟩
                | refine ⟨fun h => absurd h (by decide), fun _ => ?_⟩
                | refine ⟨fun _ => ?_, fun h => absurd (by decide) h⟩
                | refine ⟨fun _ => ?_, fun h => absurd h (by decide)⟩
                | refine ⟨fun h => absurd (by decide) h, fun _ => ?_⟩
                | refine ⟨by decide, ?_⟩
                | refine ⟨rfl, ?_⟩)
        try (conv => whnf)
        exact h76 l2 l3 l4 s4 _ (dr2 + 2) (dS_t d3' d4) (by omega) (mul g hg)
    have h155 : ∀ (l2 l3 l4 : Option Value) (s2 : zIn) (dr2 : Nat), dS s s2 dr2 → dr2 ≤ dr + 1 → Gl 155 [some (.ref 0), some (.int (nI pc)), l2, l3, l4] [] (0, 0) (m, sh, rf, s2, t) := by
      intro l2 l3 l4 s2 dr2 d2 hdr2
      refine hG 100 _ _ _ _ _ ?_
      repeat (first
        | (conv => whnf
           try dsimp only
           try simp (decide := true) only [h0, (lD_dS hD d2).2.1.2.2.1, zu_same, zu_ne1, zu_ne2, zu_row, zuL_same, zuL_ne1, zuL_ne2, zrow_n1, zx0, zx1, zx2, zx3, nI_1, Nat.reduceAdd, Nat.reduceMul, Int32.reduceAdd, Int32.reduceSub, Int32.reduceMul]
           first
           | refine ⟨vp_inb (by decide), ?_⟩
           | refine ⟨by with_reducible exact zi (by omega), ?_⟩
           | refine ⟨fun h => absurd h (by with_reducible exact nI_ge (by omega) (by omega)), fun _ => ?_⟩
           | refine ⟨fun _ => ?_, fun h => absurd (by with_reducible exact nI_le (by omega) (by omega)) h⟩
           | refine ⟨fun h => absurd h (by with_reducible exact nI_nlt (by omega) (by omega)), fun _ => ?_⟩
           | refine ⟨fun _ => ?_, fun h => absurd (by with_reducible exact nI_lt (by omega) (by omega)) h⟩
           | refine ⟨fun h => absurd h (by with_reducible exact nI_pos (by omega)), fun _ => ?_⟩
           | refine ⟨fun _ => ?_, fun h => absurd (by with_reducible exact nI_0le (by omega)) h⟩
           | refine ⟨fun h => absurd h (by decide), fun _ => ?_⟩
           | refine ⟨fun _ => ?_, fun h => absurd (by decide) h⟩
           | refine ⟨fun _ => ?_, fun h => absurd h (by decide)⟩
           | refine ⟨fun h => absurd (by decide) h, fun _ => ?_⟩
           | refine ⟨by decide, ?_⟩
           | refine ⟨rfl, ?_⟩)
        | (conv => whnf
           fail_if_success refine Exists.intro ?_ ?_
           simp only [h0, (lD_dS hD d2).2.1.2.2.1]))
      try (conv => whnf)
      refine ⟨(m, sh, rf, s2, t, dr2, 6), rfl, rfl, ⟨h0, r1, h999, d2.1, by omega, by decide, by decide⟩, ?_⟩
      try dsimp only [cond_true, cond_false]
      rintro _ _ ⟨⟨v, hv, rfl⟩, s3, rfl, d3⟩
      have hD2 := lD_dS hD (dS_t d2 d3)
      repeat (conv => whnf
              try dsimp only
              try simp (decide := true) only [zu_same, zu_ne1, zu_ne2, zu_row, zuL_same, zuL_ne1, zuL_ne2, zrow_n1, zx0, zx1, zx2, zx3, nI_1, Nat.reduceAdd, Nat.reduceMul, Int32.reduceAdd, Int32.reduceSub, Int32.reduceMul]
              first
              | refine ⟨vp_inb (by decide), ?_⟩
              | refine ⟨by with_reducible exact zi (by omega), ?_⟩
              | refine ⟨fun h => absurd h (by with_reducible exact nI_ge (by omega) (by omega)), fun _ => ?_⟩
              | refine ⟨fun _ => ?_, fun h => absurd (by with_reducible exact nI_le (by omega) (by omega)) h⟩
              | refine ⟨fun h => absurd h (by with_reducible exact nI_nlt (by omega) (by omega)), fun _ => ?_⟩
              | refine ⟨fun _ => ?_, fun h => absurd (by with_reducible exact nI_lt (by omega) (by omega)) h⟩
              | refine ⟨fun h => absurd h (by with_reducible exact nI_pos (by omega)), fun _ => ?_⟩
              | refine ⟨fun _ => ?_, fun h => absurd (by with_reducible exact nI_0le (by omega)) h⟩
              | refine ⟨fun h => absurd h (by decide), fun _ => ?_⟩
              | refine ⟨fun _ => ?_, fun h => absurd (by decide) h⟩
              | refine ⟨fun _ => ?_, fun h => absurd h (by decide)⟩
              | refine ⟨fun h => absurd (by decide) h, fun _ => ?_⟩
              | refine ⟨by decide, ?_⟩
              | refine ⟨rfl, ?_⟩)
      try (conv => whnf)
      refine ⟨(m, sh, rf, s3, t, pc, 1, nI v, 0, 0), rfl, rfl, ⟨hS, hD2.2.1.2.2.2.1, by omega, hm⟩, ?_⟩
      try dsimp only [cond_true, cond_false]
      rintro _ _ ⟨rfl, sh1, rf1, s1, t1, rfl, hS1, ⟨p1, p2⟩, hf, g0, g1, g2, g3⟩
      obtain ⟨-, hBs1, -, ⟨h0', -, -, h122'⟩, ⟨r0', -, -, -, r8'⟩, -, -⟩ := id hS1
      have hD1 : lD 4 6 pc (dr2 + 1) s1 t1 σ τ := lD_new hS hD2 (fun r hr => (hf r hr).1) (fun r hr => (hf r hr).2)
      repeat (first
        | (conv => whnf
           try dsimp only
           try simp (decide := true) only [h0', r0', r8', h122', p1, p2, g1, nI_clamp (show pc < 2 ^ 31 by omega), zu_same, zu_ne1, zu_ne2, zu_row, zuL_same, zuL_ne1, zuL_ne2, zrow_n1, zx0, zx1, zx2, zx3, nI_1, Nat.reduceAdd, Nat.reduceMul, Int32.reduceAdd, Int32.reduceSub, Int32.reduceMul]
           first
           | refine ⟨vp_inb (by decide), ?_⟩
           | refine ⟨by with_reducible exact zi (by omega), ?_⟩
           | refine ⟨fun h => absurd h (by with_reducible exact nI_ge (by omega) (by omega)), fun _ => ?_⟩
           | refine ⟨fun _ => ?_, fun h => absurd (by with_reducible exact nI_le (by omega) (by omega)) h⟩
           | refine ⟨fun h => absurd h (by with_reducible exact nI_nlt (by omega) (by omega)), fun _ => ?_⟩
           | refine ⟨fun _ => ?_, fun h => absurd (by with_reducible exact nI_lt (by omega) (by omega)) h⟩
           | refine ⟨fun h => absurd h (by with_reducible exact nI_pos (by omega)), fun _ => ?_⟩
           | refine ⟨fun _ => ?_, fun h => absurd (by with_reducible exact nI_0le (by omega)) h⟩
           | refine ⟨fun h => absurd h (by decide), fun _ => ?_⟩
           | refine ⟨fun _ => ?_, fun h => absurd (by decide) h⟩
           | refine ⟨fun _ => ?_, fun h => absurd h (by decide)⟩
           | refine ⟨fun h => absurd (by decide) h, fun _ => ?_⟩
           | refine ⟨by decide, ?_⟩
           | refine ⟨rfl, ?_⟩)
        | (conv => whnf
           fail_if_success refine Exists.intro ?_ ?_
           simp only [h0', r0', r8', h122', p1, p2, g1, nI_clamp (show pc < 2 ^ 31 by omega)]))
      try (conv => whnf)
      refine ⟨[.ref 0, .int (nI v)], σ, τ, rfl, rfl, hBs1, hD1.1, by show 120 ≤ m + 1; omega, (σ, τ, 6, pc, 4, v), rfl, rfl, ⟨hI, by omega, hv⟩, ?_⟩
      try dsimp only [cond_true, cond_false]
      rintro _ _ ⟨rfl, σ1, τ1, rfl, c1, c2⟩
      refine ⟨σ1, τ1, rfl, rfl, fun s4 t4 hbc hfr => ?_⟩
      have z07 : s4 0 7 = nI pc := by rw [(hfr 0 (Or.inl rfl)).1]; exact hD1.2.1.2.2.2.1
      repeat (first
        | (conv => whnf
           try dsimp only
           try simp (decide := true) only [h0', z07, zu_same, zu_ne1, zu_ne2, zu_row, zuL_same, zuL_ne1, zuL_ne2, zrow_n1, zx0, zx1, zx2, zx3, nI_1, Nat.reduceAdd, Nat.reduceMul, Int32.reduceAdd, Int32.reduceSub, Int32.reduceMul]
           first
           | refine ⟨vp_inb (by decide), ?_⟩
           | refine ⟨by with_reducible exact zi (by omega), ?_⟩
           | refine ⟨fun h => absurd h (by with_reducible exact nI_ge (by omega) (by omega)), fun _ => ?_⟩
           | refine ⟨fun _ => ?_, fun h => absurd (by with_reducible exact nI_le (by omega) (by omega)) h⟩
           | refine ⟨fun h => absurd h (by with_reducible exact nI_nlt (by omega) (by omega)), fun _ => ?_⟩
           | refine ⟨fun _ => ?_, fun h => absurd (by with_reducible exact nI_lt (by omega) (by omega)) h⟩
           | refine ⟨fun h => absurd h (by with_reducible exact nI_pos (by omega)), fun _ => ?_⟩
           | refine ⟨fun _ => ?_, fun h => absurd (by with_reducible exact nI_0le (by omega)) h⟩
           | refine ⟨fun h => absurd h (by decide), fun _ => ?_⟩
           | refine ⟨fun _ => ?_, fun h => absurd (by decide) h⟩
           | refine ⟨fun _ => ?_, fun h => absurd h (by decide)⟩
           | refine ⟨fun h => absurd (by decide) h, fun _ => ?_⟩
           | refine ⟨by decide, ?_⟩
           | refine ⟨rfl, ?_⟩)
        | (conv => whnf
           fail_if_success refine Exists.intro ?_ ?_
           simp only [h0', z07]))
      try (conv => whnf)
      try dsimp only
      try simp (decide := true) only [zu_same, zu_ne1, zu_ne2, zu_row, zuL_same, zuL_ne1, zuL_ne2, zrow_n1, zx0, zx1, zx2, zx3, nI_1, Nat.reduceAdd, Nat.reduceMul, Int32.reduceAdd, Int32.reduceSub, Int32.reduceMul]
      exact hK _ _ ⟨rfl, sh1, rf1, _, t4, σ1, τ1, dr2 + 1, rfl, hS1, lD_part hS hD2 (fun r hr => (hf r hr).1) hbc (fun k hk => (hfr k hk).1) c2, c1, c2, by omega⟩
    have h228 : ∀ (c i j : Nat) (s2 : zIn) (dr2 : Nat), 2 ≤ c → c ≤ 9 → i < pc → j < pc → dS s s2 dr2 → dr2 ≤ dr + 3 → Gl 228 [some (.ref 0), some (.int (nI pc)), some (.int (nI c)), some (.int (nI i)), some (.int (nI j))] [] (0, 0) (m, sh, rf, s2, t) := by
      intro c i j s2 dr2 hc2 hc9 hi hj d2 hdr2
      have hD2 := lD_dS hD d2
      by_cases hc8 : c < 8
      · refine hG 100 _ _ _ _ _ ?_
        repeat (first
          | (conv => whnf
             try dsimp only
             try simp (decide := true) only [show (8 : Int32) = nI 8 from rfl, zu_same, zu_ne1, zu_ne2, zu_row, zuL_same, zuL_ne1, zuL_ne2, zrow_n1, zx0, zx1, zx2, zx3, nI_1, Nat.reduceAdd, Nat.reduceMul, Int32.reduceAdd, Int32.reduceSub, Int32.reduceMul]
             first
             | refine ⟨vp_inb (by decide), ?_⟩
             | refine ⟨by with_reducible exact zi (by omega), ?_⟩
             | refine ⟨fun h => absurd h (by with_reducible exact nI_ge (by omega) (by omega)), fun _ => ?_⟩
             | refine ⟨fun _ => ?_, fun h => absurd (by with_reducible exact nI_le (by omega) (by omega)) h⟩
             | refine ⟨fun h => absurd h (by with_reducible exact nI_nlt (by omega) (by omega)), fun _ => ?_⟩
             | refine ⟨fun _ => ?_, fun h => absurd (by with_reducible exact nI_lt (by omega) (by omega)) h⟩
             | refine ⟨fun h => absurd h (by with_reducible exact nI_pos (by omega)), fun _ => ?_⟩
             | refine ⟨fun _ => ?_, fun h => absurd (by with_reducible exact nI_0le (by omega)) h⟩
             | refine ⟨fun h => absurd h (by decide), fun _ => ?_⟩
             | refine ⟨fun _ => ?_, fun h => absurd (by decide) h⟩
             | refine ⟨fun _ => ?_, fun h => absurd h (by decide)⟩
             | refine ⟨fun h => absurd (by decide) h, fun _ => ?_⟩
             | refine ⟨by decide, ?_⟩
             | refine ⟨rfl, ?_⟩)
          | (conv => whnf
             fail_if_success refine Exists.intro ?_ ?_
             simp only [show (8 : Int32) = nI 8 from rfl]))
        try (conv => whnf)
        refine ⟨(m, sh, rf, s2, t, pc, nI c, nI i, nI j, 0), rfl, rfl, ⟨hS, hD2.2.1.2.2.2.1, by omega, hm⟩, ?_⟩
        try dsimp only [cond_true, cond_false]
        rintro _ _ ⟨rfl, sh1, rf1, s1, t1, rfl, hS1, ⟨p1, p2⟩, hf, g0, g1, g2, g3⟩
        obtain ⟨-, hBs1, -, ⟨h0', -, -, h122'⟩, ⟨r0', -, -, -, r8'⟩, -, -⟩ := id hS1
        have hD1 : lD 4 6 pc dr2 s1 t1 σ τ := lD_new hS hD2 (fun r hr => (hf r hr).1) (fun r hr => (hf r hr).2)
        repeat (first
          | (conv => whnf
             try dsimp only
             try simp (decide := true) only [h0', r0', zu_same, zu_ne1, zu_ne2, zu_row, zuL_same, zuL_ne1, zuL_ne2, zrow_n1, zx0, zx1, zx2, zx3, nI_1, Nat.reduceAdd, Nat.reduceMul, Int32.reduceAdd, Int32.reduceSub, Int32.reduceMul]
             first
             | refine ⟨vp_inb (by decide), ?_⟩
             | refine ⟨by with_reducible exact zi (by omega), ?_⟩
             | refine ⟨fun h => absurd h (by with_reducible exact nI_ge (by omega) (by omega)), fun _ => ?_⟩
             | refine ⟨fun _ => ?_, fun h => absurd (by with_reducible exact nI_le (by omega) (by omega)) h⟩
             | refine ⟨fun h => absurd h (by with_reducible exact nI_nlt (by omega) (by omega)), fun _ => ?_⟩
             | refine ⟨fun _ => ?_, fun h => absurd (by with_reducible exact nI_lt (by omega) (by omega)) h⟩
             | refine ⟨fun h => absurd h (by with_reducible exact nI_pos (by omega)), fun _ => ?_⟩
             | refine ⟨fun _ => ?_, fun h => absurd (by with_reducible exact nI_0le (by omega)) h⟩
             | refine ⟨fun h => absurd h (by decide), fun _ => ?_⟩
             | refine ⟨fun _ => ?_, fun h => absurd (by decide) h⟩
             | refine ⟨fun _ => ?_, fun h => absurd h (by decide)⟩
             | refine ⟨fun h => absurd (by decide) h, fun _ => ?_⟩
             | refine ⟨by decide, ?_⟩
             | refine ⟨rfl, ?_⟩)
          | (conv => whnf
             fail_if_success refine Exists.intro ?_ ?_
             simp only [h0', r0']))
        try (conv => whnf)
        refine ⟨[.ref 0, .int (nI c), .int (nI i), .int (nI j)], σ, τ, rfl, rfl, hBs1, hD1.1, by show 120 ≤ m + 1; omega, (σ, τ, 6, pc, 4, c, i, j), rfl, rfl, ⟨hI, by omega, hi, hj, hc2, by omega⟩, ?_⟩
        try dsimp only [cond_true, cond_false]
        rintro _ _ ⟨rfl, σ1, τ1, rfl, c1, c2⟩
        refine ⟨σ1, τ1, rfl, rfl, fun s4 t4 hbc hfr => ?_⟩
        have z07 : s4 0 7 = nI pc := by rw [(hfr 0 (Or.inl rfl)).1]; exact hD1.2.1.2.2.2.1
        repeat (first
          | (conv => whnf
             try dsimp only
             try simp (decide := true) only [h0', z07, zu_same, zu_ne1, zu_ne2, zu_row, zuL_same, zuL_ne1, zuL_ne2, zrow_n1, zx0, zx1, zx2, zx3, nI_1, Nat.reduceAdd, Nat.reduceMul, Int32.reduceAdd, Int32.reduceSub, Int32.reduceMul]
             first
             | refine ⟨vp_inb (by decide), ?_⟩
             | refine ⟨by with_reducible exact zi (by omega), ?_⟩
             | refine ⟨fun h => absurd h (by with_reducible exact nI_ge (by omega) (by omega)), fun _ => ?_⟩
             | refine ⟨fun _ => ?_, fun h => absurd (by with_reducible exact nI_le (by omega) (by omega)) h⟩
             | refine ⟨fun h => absurd h (by with_reducible exact nI_nlt (by omega) (by omega)), fun _ => ?_⟩
             | refine ⟨fun _ => ?_, fun h => absurd (by with_reducible exact nI_lt (by omega) (by omega)) h⟩
             | refine ⟨fun h => absurd h (by with_reducible exact nI_pos (by omega)), fun _ => ?_⟩
             | refine ⟨fun _ => ?_, fun h => absurd (by with_reducible exact nI_0le (by omega)) h⟩
             | refine ⟨fun h => absurd h (by decide), fun _ => ?_⟩
             | refine ⟨fun _ => ?_, fun h => absurd (by decide) h⟩
             | refine ⟨fun _ => ?_, fun h => absurd h (by decide)⟩
             | refine ⟨fun h => absurd (by decide) h, fun _ => ?_⟩
             | refine ⟨by decide, ?_⟩
             | refine ⟨rfl, ?_⟩)
          | (conv => whnf
             fail_if_success refine Exists.intro ?_ ?_
             simp only [h0', z07]))
        try (conv => whnf)
        try dsimp only
        try simp (decide := true) only [zu_same, zu_ne1, zu_ne2, zu_row, zuL_same, zuL_ne1, zuL_ne2, zrow_n1, zx0, zx1, zx2, zx3, nI_1, Nat.reduceAdd, Nat.reduceMul, Int32.reduceAdd, Int32.reduceSub, Int32.reduceMul]
        exact hK _ _ ⟨rfl, sh1, rf1, _, t4, σ1, τ1, dr2, rfl, hS1, lD_part hS hD2 (fun r hr => (hf r hr).1) hbc (fun k hk => (hfr k hk).1) c2, c1, c2, by omega⟩
      · rcases (show c = 8 ∨ c = 9 by omega) with rfl | rfl
        · refine hG 100 _ _ _ _ _ ?_
          repeat (conv => whnf
                  try dsimp only
                  try simp (decide := true) only [zu_same, zu_ne1, zu_ne2, zu_row, zuL_same, zuL_ne1, zuL_ne2, zrow_n1, zx0, zx1, zx2, zx3, nI_1, Nat.reduceAdd, Nat.reduceMul, Int32.reduceAdd, Int32.reduceSub, Int32.reduceMul]
                  first
                  | refine ⟨vp_inb (by decide), ?_⟩
                  | refine ⟨by with_reducible exact zi (by omega), ?_⟩
                  | refine ⟨fun h => absurd h (by with_reducible exact nI_ge (by omega) (by omega)), fun _ => ?_⟩
                  | refine ⟨fun _ => ?_, fun h => absurd (by with_reducible exact nI_le (by omega) (by omega)) h⟩
                  | refine ⟨fun h => absurd h (by with_reducible exact nI_nlt (by omega) (by omega)), fun _ => ?_⟩
                  | refine ⟨fun _ => ?_, fun h => absurd (by with_reducible exact nI_lt (by omega) (by omega)) h⟩
                  | refine ⟨fun h => absurd h (by with_reducible exact nI_pos (by omega)), fun _ => ?_⟩
                  | refine ⟨fun _ => ?_, fun h => absurd (by with_reducible exact nI_0le (by omega)) h⟩
                  | refine ⟨fun h => absurd h (by decide), fun _ => ?_⟩
                  | refine ⟨fun _ => ?_, fun h => absurd (by decide) h⟩
                  | refine ⟨fun _ => ?_, fun h => absurd h (by decide)⟩
                  | refine ⟨fun h => absurd (by decide) h, fun _ => ?_⟩
                  | refine ⟨by decide, ?_⟩
                  | refine ⟨rfl, ?_⟩)
          try (conv => whnf)
          refine ⟨(m, sh, rf, s2, t, dr2, 6), rfl, rfl, ⟨h0, r1, h999, d2.1, by omega, by decide, by decide⟩, ?_⟩
          try dsimp only [cond_true, cond_false]
          rintro _ _ ⟨⟨g, hg, rfl⟩, s3, rfl, d3⟩
          have hD3 := lD_dS hD (dS_t d2 d3)
          repeat (conv => whnf
                  try dsimp only
                  try simp (decide := true) only [zu_same, zu_ne1, zu_ne2, zu_row, zuL_same, zuL_ne1, zuL_ne2, zrow_n1, zx0, zx1, zx2, zx3, nI_1, Nat.reduceAdd, Nat.reduceMul, Int32.reduceAdd, Int32.reduceSub, Int32.reduceMul]
                  first
                  | refine ⟨vp_inb (by decide), ?_⟩
                  | refine ⟨by with_reducible exact zi (by omega), ?_⟩
                  | refine ⟨fun h => absurd h (by with_reducible exact nI_ge (by omega) (by omega)), fun _ => ?_⟩
                  | refine ⟨fun _ => ?_, fun h => absurd (by with_reducible exact nI_le (by omega) (by omega)) h⟩
                  | refine ⟨fun h => absurd h (by with_reducible exact nI_nlt (by omega) (by omega)), fun _ => ?_⟩
                  | refine ⟨fun _ => ?_, fun h => absurd (by with_reducible exact nI_lt (by omega) (by omega)) h⟩
                  | refine ⟨fun h => absurd h (by with_reducible exact nI_pos (by omega)), fun _ => ?_⟩
                  | refine ⟨fun _ => ?_, fun h => absurd (by with_reducible exact nI_0le (by omega)) h⟩
                  | refine ⟨fun h => absurd h (by decide), fun _ => ?_⟩
                  | refine ⟨fun _ => ?_, fun h => absurd (by decide) h⟩
                  | refine ⟨fun _ => ?_, fun h => absurd h (by decide)⟩
                  | refine ⟨fun h => absurd (by decide) h, fun _ => ?_⟩
                  | refine ⟨by decide, ?_⟩
                  | refine ⟨rfl, ?_⟩)
          try (conv => whnf)
          refine ⟨_, _, rfl, ?_⟩
          obtain ⟨q, hq, eq⟩ := mx_i (pc := pc) (by omega) (by omega) hg
          rw [eq]
          repeat (conv => whnf
                  try dsimp only
                  try simp (decide := true) only [zu_same, zu_ne1, zu_ne2, zu_row, zuL_same, zuL_ne1, zuL_ne2, zrow_n1, zx0, zx1, zx2, zx3, nI_1, Nat.reduceAdd, Nat.reduceMul, Int32.reduceAdd, Int32.reduceSub, Int32.reduceMul]
                  first
                  | refine ⟨vp_inb (by decide), ?_⟩
                  | refine ⟨by with_reducible exact zi (by omega), ?_⟩
                  | refine ⟨fun h => absurd h (by with_reducible exact nI_ge (by omega) (by omega)), fun _ => ?_⟩
                  | refine ⟨fun _ => ?_, fun h => absurd (by with_reducible exact nI_le (by omega) (by omega)) h⟩
                  | refine ⟨fun h => absurd h (by with_reducible exact nI_nlt (by omega) (by omega)), fun _ => ?_⟩
                  | refine ⟨fun _ => ?_, fun h => absurd (by with_reducible exact nI_lt (by omega) (by omega)) h⟩
                  | refine ⟨fun h => absurd h (by with_reducible exact nI_pos (by omega)), fun _ => ?_⟩
                  | refine ⟨fun _ => ?_, fun h => absurd (by with_reducible exact nI_0le (by omega)) h⟩
                  | refine ⟨fun h => absurd h (by decide), fun _ => ?_⟩
                  | refine ⟨fun _ => ?_, fun h => absurd (by decide) h⟩
                  | refine ⟨fun _ => ?_, fun h => absurd h (by decide)⟩
                  | refine ⟨fun h => absurd (by decide) h, fun _ => ?_⟩
                  | refine ⟨by decide, ?_⟩
                  | refine ⟨rfl, ?_⟩)
          try (conv => whnf)
          refine ⟨(m, sh, rf, s3, t, pc, 8, nI i, nI j, nI q), rfl, rfl, ⟨hS, hD3.2.1.2.2.2.1, by omega, hm⟩, ?_⟩
          try dsimp only [cond_true, cond_false]
          rintro _ _ ⟨rfl, sh1, rf1, s1, t1, rfl, hS1, ⟨p1, p2⟩, hf, g0, g1, g2, g3⟩
          obtain ⟨-, hBs1, -, ⟨h0', -, -, h122'⟩, ⟨r0', -, -, -, r8'⟩, -, -⟩ := id hS1
          have hD1 : lD 4 6 pc (dr2 + 1) s1 t1 σ τ := lD_new hS hD3 (fun r hr => (hf r hr).1) (fun r hr => (hf r hr).2)
          repeat (first
            | (conv => whnf
               try dsimp only
               try simp (decide := true) only [h0', r0', r8', h122', p1, p2, g3, nI_clamp (show pc < 2 ^ 31 by omega), zu_same, zu_ne1, zu_ne2, zu_row, zuL_same, zuL_ne1, zuL_ne2, zrow_n1, zx0, zx1, zx2, zx3, nI_1, Nat.reduceAdd, Nat.reduceMul, Int32.reduceAdd, Int32.reduceSub, Int32.reduceMul]
               first
               | refine ⟨vp_inb (by decide), ?_⟩
               | refine ⟨by with_reducible exact zi (by omega), ?_⟩
               | refine ⟨fun h => absurd h (by with_reducible exact nI_ge (by omega) (by omega)), fun _ => ?_⟩
               | refine ⟨fun _ => ?_, fun h => absurd (by with_reducible exact nI_le (by omega) (by omega)) h⟩
               | refine ⟨fun h => absurd h (by with_reducible exact nI_nlt (by omega) (by omega)), fun _ => ?_⟩
               | refine ⟨fun _ => ?_, fun h => absurd (by with_reducible exact nI_lt (by omega) (by omega)) h⟩
               | refine ⟨fun h => absurd h (by with_reducible exact nI_pos (by omega)), fun _ => ?_⟩
               | refine ⟨fun _ => ?_, fun h => absurd (by with_reducible exact nI_0le (by omega)) h⟩
               | refine ⟨fun h => absurd h (by decide), fun _ => ?_⟩
               | refine ⟨fun _ => ?_, fun h => absurd (by decide) h⟩
               | refine ⟨fun _ => ?_, fun h => absurd h (by decide)⟩
               | refine ⟨fun h => absurd (by decide) h, fun _ => ?_⟩
               | refine ⟨by decide, ?_⟩
               | refine ⟨rfl, ?_⟩)
            | (conv => whnf
               fail_if_success refine Exists.intro ?_ ?_
               simp only [h0', r0', r8', h122', p1, p2, g3, nI_clamp (show pc < 2 ^ 31 by omega)]))
          try (conv => whnf)
          refine ⟨[.ref 0, .int (nI i), .int (nI j), .int (nI q)], σ, τ, rfl, rfl, hBs1, hD1.1, by show 120 ≤ m + 1; omega, (σ, τ, 6, pc, 4, i, j, q), rfl, rfl, ⟨hI, by omega, hi, hj, hq⟩, ?_⟩
          try dsimp only [cond_true, cond_false]
          rintro _ _ ⟨rfl, σ1, τ1, rfl, c1, c2⟩
          refine ⟨σ1, τ1, rfl, rfl, fun s4 t4 hbc hfr => ?_⟩
          have z07 : s4 0 7 = nI pc := by rw [(hfr 0 (Or.inl rfl)).1]; exact hD1.2.1.2.2.2.1
          repeat (first
            | (conv => whnf
               try dsimp only
               try simp (decide := true) only [h0', z07, zu_same, zu_ne1, zu_ne2, zu_row, zuL_same, zuL_ne1, zuL_ne2, zrow_n1, zx0, zx1, zx2, zx3, nI_1, Nat.reduceAdd, Nat.reduceMul, Int32.reduceAdd, Int32.reduceSub, Int32.reduceMul]
               first
               | refine ⟨vp_inb (by decide), ?_⟩
               | refine ⟨by with_reducible exact zi (by omega), ?_⟩
               | refine ⟨fun h => absurd h (by with_reducible exact nI_ge (by omega) (by omega)), fun _ => ?_⟩
               | refine ⟨fun _ => ?_, fun h => absurd (by with_reducible exact nI_le (by omega) (by omega)) h⟩
               | refine ⟨fun h => absurd h (by with_reducible exact nI_nlt (by omega) (by omega)), fun _ => ?_⟩
               | refine ⟨fun _ => ?_, fun h => absurd (by with_reducible exact nI_lt (by omega) (by omega)) h⟩
               | refine ⟨fun h => absurd h (by with_reducible exact nI_pos (by omega)), fun _ => ?_⟩
               | refine ⟨fun _ => ?_, fun h => absurd (by with_reducible exact nI_0le (by omega)) h⟩
               | refine ⟨fun h => absurd h (by decide), fun _ => ?_⟩
               | refine ⟨fun _ => ?_, fun h => absurd (by decide) h⟩
               | refine ⟨fun _ => ?_, fun h => absurd h (by decide)⟩
               | refine ⟨fun h => absurd (by decide) h, fun _ => ?_⟩
               | refine ⟨by decide, ?_⟩
               | refine ⟨rfl, ?_⟩)
            | (conv => whnf
               fail_if_success refine Exists.intro ?_ ?_
               simp only [h0', z07]))
          try (conv => whnf)
          try dsimp only
          try simp (decide := true) only [zu_same, zu_ne1, zu_ne2, zu_row, zuL_same, zuL_ne1, zuL_ne2, zrow_n1, zx0, zx1, zx2, zx3, nI_1, Nat.reduceAdd, Nat.reduceMul, Int32.reduceAdd, Int32.reduceSub, Int32.reduceMul]
          exact hK _ _ ⟨rfl, sh1, rf1, _, t4, σ1, τ1, dr2 + 1, rfl, hS1, lD_part hS hD3 (fun r hr => (hf r hr).1) hbc (fun k hk => (hfr k hk).1) c2, c1, c2, by omega⟩
        · refine hG 100 _ _ _ _ _ ?_
          repeat (conv => whnf
                  try dsimp only
                  try simp (decide := true) only [zu_same, zu_ne1, zu_ne2, zu_row, zuL_same, zuL_ne1, zuL_ne2, zrow_n1, zx0, zx1, zx2, zx3, nI_1, Nat.reduceAdd, Nat.reduceMul, Int32.reduceAdd, Int32.reduceSub, Int32.reduceMul]
                  first
                  | refine ⟨vp_inb (by decide), ?_⟩
                  | refine ⟨by with_reducible exact zi (by omega), ?_⟩
                  | refine ⟨fun h => absurd h (by with_reducible exact nI_ge (by omega) (by omega)), fun _ => ?_⟩
                  | refine ⟨fun _ => ?_, fun h => absurd (by with_reducible exact nI_le (by omega) (by omega)) h⟩
                  | refine ⟨fun h => absurd h (by with_reducible exact nI_nlt (by omega) (by omega)), fun _ => ?_⟩
                  | refine ⟨fun _ => ?_, fun h => absurd (by with_reducible exact nI_lt (by omega) (by omega)) h⟩
                  | refine ⟨fun h => absurd h (by with_reducible exact nI_pos (by omega)), fun _ => ?_⟩
                  | refine ⟨fun _ => ?_, fun h => absurd (by with_reducible exact nI_0le (by omega)) h⟩
                  | refine ⟨fun h => absurd h (by decide), fun _ => ?_⟩
                  | refine ⟨fun _ => ?_, fun h => absurd (by decide) h⟩
                  | refine ⟨fun _ => ?_, fun h => absurd h (by decide)⟩
                  | refine ⟨fun h => absurd (by decide) h, fun _ => ?_⟩
                  | refine ⟨by decide, ?_⟩
                  | refine ⟨rfl, ?_⟩)
          try (conv => whnf)
          refine ⟨(m, sh, rf, s2, t, pc, 9, nI i, 0, 0), rfl, rfl, ⟨hS, hD2.2.1.2.2.2.1, by omega, hm⟩, ?_⟩
          try dsimp only [cond_true, cond_false]
          rintro _ _ ⟨rfl, sh1, rf1, s1, t1, rfl, hS1, ⟨p1, p2⟩, hf, g0, g1, g2, g3⟩
          obtain ⟨-, hBs1, -, ⟨h0', -, -, h122'⟩, ⟨r0', -, -, -, r8'⟩, -, -⟩ := id hS1
          have hD1 : lD 4 6 pc dr2 s1 t1 σ τ := lD_new hS hD2 (fun r hr => (hf r hr).1) (fun r hr => (hf r hr).2)
          repeat (first
            | (conv => whnf
               try dsimp only
               try simp (decide := true) only [h0', r0', zu_same, zu_ne1, zu_ne2, zu_row, zuL_same, zuL_ne1, zuL_ne2, zrow_n1, zx0, zx1, zx2, zx3, nI_1, Nat.reduceAdd, Nat.reduceMul, Int32.reduceAdd, Int32.reduceSub, Int32.reduceMul]
               first
               | refine ⟨vp_inb (by decide), ?_⟩
               | refine ⟨by with_reducible exact zi (by omega), ?_⟩
               | refine ⟨fun h => absurd h (by with_reducible exact nI_ge (by omega) (by omega)), fun _ => ?_⟩
               | refine ⟨fun _ => ?_, fun h => absurd (by with_reducible exact nI_le (by omega) (by omega)) h⟩
               | refine ⟨fun h => absurd h (by with_reducible exact nI_nlt (by omega) (by omega)), fun _ => ?_⟩
               | refine ⟨fun _ => ?_, fun h => absurd (by with_reducible exact nI_lt (by omega) (by omega)) h⟩
               | refine ⟨fun h => absurd h (by with_reducible exact nI_pos (by omega)), fun _ => ?_⟩
               | refine ⟨fun _ => ?_, fun h => absurd (by with_reducible exact nI_0le (by omega)) h⟩
               | refine ⟨fun h => absurd h (by decide), fun _ => ?_⟩
               | refine ⟨fun _ => ?_, fun h => absurd (by decide) h⟩
               | refine ⟨fun _ => ?_, fun h => absurd h (by decide)⟩
               | refine ⟨fun h => absurd (by decide) h, fun _ => ?_⟩
               | refine ⟨by decide, ?_⟩
               | refine ⟨rfl, ?_⟩)
            | (conv => whnf
               fail_if_success refine Exists.intro ?_ ?_
               simp only [h0', r0']))
          try (conv => whnf)
          refine ⟨[.ref 0, .int (nI i)], σ, τ, rfl, rfl, hBs1, hD1.1, by show 120 ≤ m + 1; omega, (σ, τ, 6, pc, 4, i), rfl, rfl, ⟨hI, by omega, hi⟩, ?_⟩
          try dsimp only [cond_true, cond_false]
          rintro _ _ ⟨rfl, σ1, τ1, rfl, c1, c2⟩
          refine ⟨σ1, τ1, rfl, rfl, fun s4 t4 hbc hfr => ?_⟩
          have z07 : s4 0 7 = nI pc := by rw [(hfr 0 (Or.inl rfl)).1]; exact hD1.2.1.2.2.2.1
          repeat (first
            | (conv => whnf
               try dsimp only
               try simp (decide := true) only [h0', z07, zu_same, zu_ne1, zu_ne2, zu_row, zuL_same, zuL_ne1, zuL_ne2, zrow_n1, zx0, zx1, zx2, zx3, nI_1, Nat.reduceAdd, Nat.reduceMul, Int32.reduceAdd, Int32.reduceSub, Int32.reduceMul]
               first
               | refine ⟨vp_inb (by decide), ?_⟩
               | refine ⟨by with_reducible exact zi (by omega), ?_⟩
               | refine ⟨fun h => absurd h (by with_reducible exact nI_ge (by omega) (by omega)), fun _ => ?_⟩
               | refine ⟨fun _ => ?_, fun h => absurd (by with_reducible exact nI_le (by omega) (by omega)) h⟩
               | refine ⟨fun h => absurd h (by with_reducible exact nI_nlt (by omega) (by omega)), fun _ => ?_⟩
               | refine ⟨fun _ => ?_, fun h => absurd (by with_reducible exact nI_lt (by omega) (by omega)) h⟩
               | refine ⟨fun h => absurd h (by with_reducible exact nI_pos (by omega)), fun _ => ?_⟩
               | refine ⟨fun _ => ?_, fun h => absurd (by with_reducible exact nI_0le (by omega)) h⟩
               | refine ⟨fun h => absurd h (by decide), fun _ => ?_⟩
               | refine ⟨fun _ => ?_, fun h => absurd (by decide) h⟩
               | refine ⟨fun _ => ?_, fun h => absurd h (by decide)⟩
               | refine ⟨fun h => absurd (by decide) h, fun _ => ?_⟩
               | refine ⟨by decide, ?_⟩
               | refine ⟨rfl, ?_⟩)
            | (conv => whnf
               fail_if_success refine Exists.intro ?_ ?_
               simp only [h0', z07]))
          try (conv => whnf)
          try dsimp only
          try simp (decide := true) only [zu_same, zu_ne1, zu_ne2, zu_row, zuL_same, zuL_ne1, zuL_ne2, zrow_n1, zx0, zx1, zx2, zx3, nI_1, Nat.reduceAdd, Nat.reduceMul, Int32.reduceAdd, Int32.reduceSub, Int32.reduceMul]
          exact hK _ _ ⟨rfl, sh1, rf1, _, t4, σ1, τ1, dr2, rfl, hS1, lD_part hS hD2 (fun r hr => (hf r hr).1) hbc (fun k hk => (hfr k hk).1) c2, c1, c2, by omega⟩
    have h206 : ∀ (c : Nat) (l3 l4 : Option Value) (s2 : zIn) (dr2 : Nat), 2 ≤ c → c ≤ 9 → 0 < pc → dS s s2 dr2 → dr2 ≤ dr + 1 → Gl 206 [some (.ref 0), some (.int (nI pc)), some (.int (nI c)), l3, l4] [] (0, 0) (m, sh, rf, s2, t) := by
      intro c l3 l4 s2 dr2 hc2 hc9 hp d2 hdr2
      refine hG 100 _ _ _ _ _ ?_
      repeat (conv => whnf
              try dsimp only
              try simp (decide := true) only [zu_same, zu_ne1, zu_ne2, zu_row, zuL_same, zuL_ne1, zuL_ne2, zrow_n1, zx0, zx1, zx2, zx3, nI_1, Nat.reduceAdd, Nat.reduceMul, Int32.reduceAdd, Int32.reduceSub, Int32.reduceMul]
              first
              | refine ⟨vp_inb (by decide), ?_⟩
              | refine ⟨by with_reducible exact zi (by omega), ?_⟩
              | refine ⟨fun h => absurd h (by with_reducible exact nI_ge (by omega) (by omega)), fun _ => ?_⟩
              | refine ⟨fun _ => ?_, fun h => absurd (by with_reducible exact nI_le (by omega) (by omega)) h⟩
              | refine ⟨fun h => absurd h (by with_reducible exact nI_nlt (by omega) (by omega)), fun _ => ?_⟩
              | refine ⟨fun _ => ?_, fun h => absurd (by with_reducible exact nI_lt (by omega) (by omega)) h⟩
              | refine ⟨fun h => absurd h (by with_reducible exact nI_pos (by omega)), fun _ => ?_⟩
              | refine ⟨fun _ => ?_, fun h => absurd (by with_reducible exact nI_0le (by omega)) h⟩
              | refine ⟨fun h => absurd h (by decide), fun _ => ?_⟩
              | refine ⟨fun _ => ?_, fun h => absurd (by decide) h⟩
              | refine ⟨fun _ => ?_, fun h => absurd h (by decide)⟩
              | refine ⟨fun h => absurd (by decide) h, fun _ => ?_⟩
              | refine ⟨by decide, ?_⟩
              | refine ⟨rfl, ?_⟩)
      try (conv => whnf)
      refine ⟨(m, sh, rf, s2, t, dr2, 6), rfl, rfl, ⟨h0, r1, h999, d2.1, by omega, by decide, by decide⟩, ?_⟩
      try dsimp only [cond_true, cond_false]
      rintro _ _ ⟨⟨g, hg, rfl⟩, s3, rfl, d3⟩
      repeat (conv => whnf
              try dsimp only
              try simp (decide := true) only [zu_same, zu_ne1, zu_ne2, zu_row, zuL_same, zuL_ne1, zuL_ne2, zrow_n1, zx0, zx1, zx2, zx3, nI_1, Nat.reduceAdd, Nat.reduceMul, Int32.reduceAdd, Int32.reduceSub, Int32.reduceMul]
              first
              | refine ⟨vp_inb (by decide), ?_⟩
              | refine ⟨by with_reducible exact zi (by omega), ?_⟩
              | refine ⟨fun h => absurd h (by with_reducible exact nI_ge (by omega) (by omega)), fun _ => ?_⟩
              | refine ⟨fun _ => ?_, fun h => absurd (by with_reducible exact nI_le (by omega) (by omega)) h⟩
              | refine ⟨fun h => absurd h (by with_reducible exact nI_nlt (by omega) (by omega)), fun _ => ?_⟩
              | refine ⟨fun _ => ?_, fun h => absurd (by with_reducible exact nI_lt (by omega) (by omega)) h⟩
              | refine ⟨fun h => absurd h (by with_reducible exact nI_pos (by omega)), fun _ => ?_⟩
              | refine ⟨fun _ => ?_, fun h => absurd (by with_reducible exact nI_0le (by omega)) h⟩
              | refine ⟨fun h => absurd h (by decide), fun _ => ?_⟩
              | refine ⟨fun _ => ?_, fun h => absurd (by decide) h⟩
              | refine ⟨fun _ => ?_, fun h => absurd h (by decide)⟩
              | refine ⟨fun h => absurd (by decide) h, fun _ => ?_⟩
              | refine ⟨by decide, ?_⟩
              | refine ⟨rfl, ?_⟩)
      try (conv => whnf)
      refine ⟨_, _, rfl, ?_⟩
      obtain ⟨i, hi, ei⟩ := mx_i (pc := pc) hp (by omega) hg
      rw [ei]
      repeat (conv => whnf
              try dsimp only
              try simp (decide := true) only [zu_same, zu_ne1, zu_ne2, zu_row, zuL_same, zuL_ne1, zuL_ne2, zrow_n1, zx0, zx1, zx2, zx3, nI_1, Nat.reduceAdd, Nat.reduceMul, Int32.reduceAdd, Int32.reduceSub, Int32.reduceMul]
              first
              | refine ⟨vp_inb (by decide), ?_⟩
              | refine ⟨by with_reducible exact zi (by omega), ?_⟩
              | refine ⟨fun h => absurd h (by with_reducible exact nI_ge (by omega) (by omega)), fun _ => ?_⟩
              | refine ⟨fun _ => ?_, fun h => absurd (by with_reducible exact nI_le (by omega) (by omega)) h⟩
              | refine ⟨fun h => absurd h (by with_reducible exact nI_nlt (by omega) (by omega)), fun _ => ?_⟩
              | refine ⟨fun _ => ?_, fun h => absurd (by with_reducible exact nI_lt (by omega) (by omega)) h⟩
              | refine ⟨fun h => absurd h (by with_reducible exact nI_pos (by omega)), fun _ => ?_⟩
              | refine ⟨fun _ => ?_, fun h => absurd (by with_reducible exact nI_0le (by omega)) h⟩
              | refine ⟨fun h => absurd h (by decide), fun _ => ?_⟩
              | refine ⟨fun _ => ?_, fun h => absurd (by decide) h⟩
              | refine ⟨fun _ => ?_, fun h => absurd h (by decide)⟩
              | refine ⟨fun h => absurd (by decide) h, fun _ => ?_⟩
              | refine ⟨by decide, ?_⟩
              | refine ⟨rfl, ?_⟩)
      try (conv => whnf)
      refine ⟨(m, sh, rf, s3, t, dr2 + 1, pc), rfl, rfl, ⟨h0, r1, h999, d3.1, by omega, hp, by omega⟩, ?_⟩
      try dsimp only [cond_true, cond_false]
      rintro _ _ ⟨⟨j, hj, rfl⟩, s4, rfl, d4⟩
      repeat (conv => whnf
              try dsimp only
              try simp (decide := true) only [zu_same, zu_ne1, zu_ne2, zu_row, zuL_same, zuL_ne1, zuL_ne2, zrow_n1, zx0, zx1, zx2, zx3, nI_1, Nat.reduceAdd, Nat.reduceMul, Int32.reduceAdd, Int32.reduceSub, Int32.reduceMul]
              first
              | refine ⟨vp_inb (by decide), ?_⟩
              | refine ⟨by with_reducible exact zi (by omega), ?_⟩
              | refine ⟨fun h => absurd h (by with_reducible exact nI_ge (by omega) (by omega)), fun _ => ?_⟩
              | refine ⟨fun _ => ?_, fun h => absurd (by with_reducible exact nI_le (by omega) (by omega)) h⟩
              | refine ⟨fun h => absurd h (by with_reducible exact nI_nlt (by omega) (by omega)), fun _ => ?_⟩
              | refine ⟨fun _ => ?_, fun h => absurd (by with_reducible exact nI_lt (by omega) (by omega)) h⟩
              | refine ⟨fun h => absurd h (by with_reducible exact nI_pos (by omega)), fun _ => ?_⟩
              | refine ⟨fun _ => ?_, fun h => absurd (by with_reducible exact nI_0le (by omega)) h⟩
              | refine ⟨fun h => absurd h (by decide), fun _ => ?_⟩
              | refine ⟨fun _ => ?_, fun h => absurd (by decide) h⟩
              | refine ⟨fun _ => ?_, fun h => absurd h (by decide)⟩
              | refine ⟨fun h => absurd (by decide) h, fun _ => ?_⟩
              | refine ⟨by decide, ?_⟩
              | refine ⟨rfl, ?_⟩)
      try (conv => whnf)
      exact h228 c i j s4 (dr2 + 2) hc2 hc9 hi hj (dS_t (dS_t d2 d3) d4) (by omega)
    have h32 : ∀ (y : Nat) (s2 : zIn), (pc < 3 → y < 2) → y < 12 → dS s s2 (dr + 1) → Gl 32 [some (.ref 0), some (.int (nI pc)), none, none, none] [.int (nI y)] (0, 0) (m, sh, rf, s2, t) := by
      intro y s2 hy3 hy d2
      have hk : 2 ≤ y → y ≤ 9 → Gl 206 [some (.ref 0), some (.int (nI pc)), some (.int (nI y)), none, none] [] (0, 0) (m, sh, rf, s2, t) := fun h1 h2 => h206 y none none s2 (dr + 1) h1 h2 (by omega) d2 (by omega)
      have a43 : Gl 43 [some (.ref 0), some (.int (nI pc)), some (.int (nI y)), none, none] [] (0, 0) (m, sh, rf, s2, t) := h43 _ none none s2 (dr + 1) d2 (by omega)
      have a155 : Gl 155 [some (.ref 0), some (.int (nI pc)), some (.int (nI y)), none, none] [] (0, 0) (m, sh, rf, s2, t) := h155 _ none none s2 (dr + 1) d2 (by omega)
      rcases (show y = 0 ∨ y = 1 ∨ y = 2 ∨ y = 3 ∨ y = 4 ∨ y = 5 ∨ y = 6 ∨ y = 7 ∨ y = 8 ∨ y = 9 ∨ y = 10 ∨ y = 11 by omega) with rfl | rfl | rfl | rfl | rfl | rfl | rfl | rfl | rfl | rfl | rfl | rfl
      all_goals
        refine hG 100 _ _ _ _ _ ?_
        repeat (conv => whnf
                try dsimp only
                try simp (decide := true) only [zu_same, zu_ne1, zu_ne2, zu_row, zuL_same, zuL_ne1, zuL_ne2, zrow_n1, zx0, zx1, zx2, zx3, nI_1, Nat.reduceAdd, Nat.reduceMul, Int32.reduceAdd, Int32.reduceSub, Int32.reduceMul]
                first
                | refine ⟨vp_inb (by decide), ?_⟩
                | refine ⟨by with_reducible exact zi (by omega), ?_⟩
                | refine ⟨fun h => absurd h (by with_reducible exact nI_ge (by omega) (by omega)), fun _ => ?_⟩
                | refine ⟨fun _ => ?_, fun h => absurd (by with_reducible exact nI_le (by omega) (by omega)) h⟩
                | refine ⟨fun h => absurd h (by with_reducible exact nI_nlt (by omega) (by omega)), fun _ => ?_⟩
                | refine ⟨fun _ => ?_, fun h => absurd (by with_reducible exact nI_lt (by omega) (by omega)) h⟩
                | refine ⟨fun h => absurd h (by with_reducible exact nI_pos (by omega)), fun _ => ?_⟩
                | refine ⟨fun _ => ?_, fun h => absurd (by with_reducible exact nI_0le (by omega)) h⟩
                | refine ⟨fun h => absurd h (by decide), fun _ => ?_⟩
                | refine ⟨fun _ => ?_, fun h => absurd (by decide) h⟩
                | refine ⟨fun _ => ?_, fun h => absurd h (by decide)⟩
                | refine ⟨fun h => absurd (by decide) h, fun _ => ?_⟩
                | refine ⟨by decide, ?_⟩
                | refine ⟨rfl, ?_⟩)
        try (conv => whnf)
        first
        | exact a43
        | exact a155
        | exact hk (by omega) (by omega)
    refine hG 100 _ _ _ _ _ ?_
    repeat (first
      | (conv => whnf
         try dsimp only
         try simp (decide := true) only [h0, hD.2.1.2.2.2.1, show (40 : Int32) = nI 40 from rfl, zu_same, zu_ne1, zu_ne2, zu_row, zuL_same, zuL_ne1, zuL_ne2, zrow_n1, zx0, zx1, zx2, zx3, nI_1, Nat.reduceAdd, Nat.reduceMul, Int32.reduceAdd, Int32.reduceSub, Int32.reduceMul]
         first
         | refine ⟨vp_inb (by decide), ?_⟩
         | refine ⟨by with_reducible exact zi (by omega), ?_⟩
         | refine ⟨fun h => absurd h (by with_reducible exact nI_ge (by omega) (by omega)), fun _ => ?_⟩
         | refine ⟨fun _ => ?_, fun h => absurd (by with_reducible exact nI_le (by omega) (by omega)) h⟩
         | refine ⟨fun h => absurd h (by with_reducible exact nI_nlt (by omega) (by omega)), fun _ => ?_⟩
         | refine ⟨fun _ => ?_, fun h => absurd (by with_reducible exact nI_lt (by omega) (by omega)) h⟩
         | refine ⟨fun h => absurd h (by with_reducible exact nI_pos (by omega)), fun _ => ?_⟩
         | refine ⟨fun _ => ?_, fun h => absurd (by with_reducible exact nI_0le (by omega)) h⟩
         | refine ⟨fun h => absurd h (by decide), fun _ => ?_⟩
         | refine ⟨fun _ => ?_, fun h => absurd (by decide) h⟩
         | refine ⟨fun _ => ?_, fun h => absurd h (by decide)⟩
         | refine ⟨fun h => absurd (by decide) h, fun _ => ?_⟩
         | refine ⟨by decide, ?_⟩
         | refine ⟨rfl, ?_⟩)
      | (conv => whnf
         fail_if_success refine Exists.intro ?_ ?_
         simp only [h0, hD.2.1.2.2.2.1, show (40 : Int32) = nI 40 from rfl]))
    try (conv => whnf)
    refine ⟨fun _ => ?_, fun e => absurd ((nI_eq (by omega) (by omega)).mp e) (by omega)⟩
    by_cases hp3 : pc < 3
    · skip
      repeat (first
        | (conv => whnf
           try dsimp only
           try simp (decide := true) only [show (3 : Int32) = nI 3 from rfl, zu_same, zu_ne1, zu_ne2, zu_row, zuL_same, zuL_ne1, zuL_ne2, zrow_n1, zx0, zx1, zx2, zx3, nI_1, Nat.reduceAdd, Nat.reduceMul, Int32.reduceAdd, Int32.reduceSub, Int32.reduceMul]
           first
           | refine ⟨vp_inb (by decide), ?_⟩
           | refine ⟨by with_reducible exact zi (by omega), ?_⟩
           | refine ⟨fun h => absurd h (by with_reducible exact nI_ge (by omega) (by omega)), fun _ => ?_⟩
           | refine ⟨fun _ => ?_, fun h => absurd (by with_reducible exact nI_le (by omega) (by omega)) h⟩
           | refine ⟨fun h => absurd h (by with_reducible exact nI_nlt (by omega) (by omega)), fun _ => ?_⟩
           | refine ⟨fun _ => ?_, fun h => absurd (by with_reducible exact nI_lt (by omega) (by omega)) h⟩
           | refine ⟨fun h => absurd h (by with_reducible exact nI_pos (by omega)), fun _ => ?_⟩
           | refine ⟨fun _ => ?_, fun h => absurd (by with_reducible exact nI_0le (by omega)) h⟩
           | refine ⟨fun h => absurd h (by decide), fun _ => ?_⟩
           | refine ⟨fun _ => ?_, fun h => absurd (by decide) h⟩
           | refine ⟨fun _ => ?_, fun h => absurd h (by decide)⟩
           | refine ⟨fun h => absurd (by decide) h, fun _ => ?_⟩
           | refine ⟨by decide, ?_⟩
           | refine ⟨rfl, ?_⟩)
        | (conv => whnf
           fail_if_success refine Exists.intro ?_ ?_
           simp only [show (3 : Int32) = nI 3 from rfl]))
      try (conv => whnf)
      refine ⟨(m, sh, rf, s, t, dr, 2), rfl, rfl, ⟨h0, r1, h999, hD.2.1.1, by omega, by decide, by decide⟩, ?_⟩
      try dsimp only [cond_true, cond_false]
      rintro _ _ ⟨⟨y, hy, rfl⟩, s2, rfl, d2⟩
      repeat (conv => whnf
              try dsimp only
              try simp (decide := true) only [zu_same, zu_ne1, zu_ne2, zu_row, zuL_same, zuL_ne1, zuL_ne2, zrow_n1, zx0, zx1, zx2, zx3, nI_1, Nat.reduceAdd, Nat.reduceMul, Int32.reduceAdd, Int32.reduceSub, Int32.reduceMul]
              first
              | refine ⟨vp_inb (by decide), ?_⟩
              | refine ⟨by with_reducible exact zi (by omega), ?_⟩
              | refine ⟨fun h => absurd h (by with_reducible exact nI_ge (by omega) (by omega)), fun _ => ?_⟩
              | refine ⟨fun _ => ?_, fun h => absurd (by with_reducible exact nI_le (by omega) (by omega)) h⟩
              | refine ⟨fun h => absurd h (by with_reducible exact nI_nlt (by omega) (by omega)), fun _ => ?_⟩
              | refine ⟨fun _ => ?_, fun h => absurd (by with_reducible exact nI_lt (by omega) (by omega)) h⟩
              | refine ⟨fun h => absurd h (by with_reducible exact nI_pos (by omega)), fun _ => ?_⟩
              | refine ⟨fun _ => ?_, fun h => absurd (by with_reducible exact nI_0le (by omega)) h⟩
              | refine ⟨fun h => absurd h (by decide), fun _ => ?_⟩
              | refine ⟨fun _ => ?_, fun h => absurd (by decide) h⟩
              | refine ⟨fun _ => ?_, fun h => absurd h (by decide)⟩
              | refine ⟨fun h => absurd (by decide) h, fun _ => ?_⟩
              | refine ⟨by decide, ?_⟩
              | refine ⟨rfl, ?_⟩)
      try (conv => whnf)
      exact h32 y s2 (fun _ => hy) (by omega) d2
    · skip
      repeat (first
        | (conv => whnf
           try dsimp only
           try simp (decide := true) only [show (3 : Int32) = nI 3 from rfl, zu_same, zu_ne1, zu_ne2, zu_row, zuL_same, zuL_ne1, zuL_ne2, zrow_n1, zx0, zx1, zx2, zx3, nI_1, Nat.reduceAdd, Nat.reduceMul, Int32.reduceAdd, Int32.reduceSub, Int32.reduceMul]
           first
           | refine ⟨vp_inb (by decide), ?_⟩
           | refine ⟨by with_reducible exact zi (by omega), ?_⟩
           | refine ⟨fun h => absurd h (by with_reducible exact nI_ge (by omega) (by omega)), fun _ => ?_⟩
           | refine ⟨fun _ => ?_, fun h => absurd (by with_reducible exact nI_le (by omega) (by omega)) h⟩
           | refine ⟨fun h => absurd h (by with_reducible exact nI_nlt (by omega) (by omega)), fun _ => ?_⟩
           | refine ⟨fun _ => ?_, fun h => absurd (by with_reducible exact nI_lt (by omega) (by omega)) h⟩
           | refine ⟨fun h => absurd h (by with_reducible exact nI_pos (by omega)), fun _ => ?_⟩
           | refine ⟨fun _ => ?_, fun h => absurd (by with_reducible exact nI_0le (by omega)) h⟩
           | refine ⟨fun h => absurd h (by decide), fun _ => ?_⟩
           | refine ⟨fun _ => ?_, fun h => absurd (by decide) h⟩
           | refine ⟨fun _ => ?_, fun h => absurd h (by decide)⟩
           | refine ⟨fun h => absurd (by decide) h, fun _ => ?_⟩
           | refine ⟨by decide, ?_⟩
           | refine ⟨rfl, ?_⟩)
        | (conv => whnf
           fail_if_success refine Exists.intro ?_ ?_
           simp only [show (3 : Int32) = nI 3 from rfl]))
      try (conv => whnf)
      refine ⟨(m, sh, rf, s, t, dr, 12), rfl, rfl, ⟨h0, r1, h999, hD.2.1.1, by omega, by decide, by decide⟩, ?_⟩
      try dsimp only [cond_true, cond_false]
      rintro _ _ ⟨⟨y, hy, rfl⟩, s2, rfl, d2⟩
      repeat (conv => whnf
              try dsimp only
              try simp (decide := true) only [zu_same, zu_ne1, zu_ne2, zu_row, zuL_same, zuL_ne1, zuL_ne2, zrow_n1, zx0, zx1, zx2, zx3, nI_1, Nat.reduceAdd, Nat.reduceMul, Int32.reduceAdd, Int32.reduceSub, Int32.reduceMul]
              first
              | refine ⟨vp_inb (by decide), ?_⟩
              | refine ⟨by with_reducible exact zi (by omega), ?_⟩
              | refine ⟨fun h => absurd h (by with_reducible exact nI_ge (by omega) (by omega)), fun _ => ?_⟩
              | refine ⟨fun _ => ?_, fun h => absurd (by with_reducible exact nI_le (by omega) (by omega)) h⟩
              | refine ⟨fun h => absurd h (by with_reducible exact nI_nlt (by omega) (by omega)), fun _ => ?_⟩
              | refine ⟨fun _ => ?_, fun h => absurd (by with_reducible exact nI_lt (by omega) (by omega)) h⟩
              | refine ⟨fun h => absurd h (by with_reducible exact nI_pos (by omega)), fun _ => ?_⟩
              | refine ⟨fun _ => ?_, fun h => absurd (by with_reducible exact nI_0le (by omega)) h⟩
              | refine ⟨fun h => absurd h (by decide), fun _ => ?_⟩
              | refine ⟨fun _ => ?_, fun h => absurd (by decide) h⟩
              | refine ⟨fun _ => ?_, fun h => absurd h (by decide)⟩
              | refine ⟨fun h => absurd (by decide) h, fun _ => ?_⟩
              | refine ⟨by decide, ?_⟩
              | refine ⟨rfl, ?_⟩)
      try (conv => whnf)
      exact h32 y s2 (fun q => absurd q hp3) hy d2

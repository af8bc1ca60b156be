/-! ===== the sheet ===== -/
abbrev spJX7_unit : zSp := zJ spX7_unit
abbrev spJX7_variable : zSp := zJ spX7_variable
abbrev spJX7_number : zSp := zJ spX7_number
abbrev spJX7_of : zSp := zJ spX7_of
abbrev spJX7_join : zSp := zJ spX7_join
abbrev spJX7_when : zSp := zJ spX7_when
abbrev spJX7_root : zSp := zJ spX7_root
abbrev spJX7_define : zSp := zJ spX7_define
abbrev spJX7_set : zSp := zJ spX7_set
abbrev spJX7_setTurns : zSp := zJ spX7_setTurns
theorem ctJX7_unit (l : Launch) (D : va_G) (cA : Nat → ClassId) : zCt false l D cA yX7_unit cX7_unit 7 (some .int) rmX7_unit spJX7_unit := zct_J (ctX7_unit l D cA)
theorem ctJX7_variable (l : Launch) (D : va_G) (cA : Nat → ClassId) : zCt false l D cA yX7_variable cX7_variable 2 (some .int) rmX7_variable spJX7_variable := zct_J (ctX7_variable l D cA)
theorem ctJX7_number (l : Launch) (D : va_G) (cA : Nat → ClassId) : zCt false l D cA yX7_number cX7_number 3 (some .int) rmX7_number spJX7_number := zct_J (ctX7_number l D cA)
theorem ctJX7_of (l : Launch) (D : va_G) (cA : Nat → ClassId) : zCt false l D cA yX7_of cX7_of 3 (some .int) rmX7_of spJX7_of := zct_J (ctX7_of l D cA)
theorem ctJX7_join (l : Launch) (D : va_G) (cA : Nat → ClassId) : zCt false l D cA yX7_join cX7_join 4 (some .int) rmX7_join spJX7_join := zct_J (ctX7_join l D cA)
theorem ctJX7_when (l : Launch) (D : va_G) (cA : Nat → ClassId) : zCt false l D cA yX7_when cX7_when 4 (some .int) rmX7_when spJX7_when := zct_J (ctX7_when l D cA)
theorem ctJX7_root (l : Launch) (D : va_G) (cA : Nat → ClassId) : zCt false l D cA yX7_root cX7_root 2 (some .int) rmX7_root spJX7_root := zct_J (ctX7_root l D cA)
theorem ctJX7_define (l : Launch) (D : va_G) (cA : Nat → ClassId) : zCt false l D cA yX7_define cX7_define 4 (some .int) rmX7_define spJX7_define := zct_J (ctX7_define l D cA)
theorem ctJX7_set (l : Launch) (D : va_G) (cA : Nat → ClassId) : zCt false l D cA yX7_set cX7_set 3 (some .int) rmX7_set spJX7_set := zct_J (ctX7_set l D cA)
theorem ctJX7_setTurns (l : Launch) (D : va_G) (cA : Nat → ClassId) : zCt false l D cA yX7_setTurns cX7_setTurns 4 (some .int) rmX7_setTurns spJX7_setTurns := zct_J (ctX7_setTurns l D cA)
def lS (m un n : Nat) (sh : zSh) (rf : zRf) : Prop := (126 ≤ m ∧ 125 + un ≤ m ∧ (0 < n → 129 + n ≤ m) ∧ un ≤ 4 ∧ n ≤ 6) ∧ zBs sh rf ∧ (sh zS).1 = 999 ∧ (sh 0 = (8, 0) ∧ sh 120 = (104, 12) ∧ sh 121 = (104, 16) ∧ sh 122 = (104, 60)) ∧ (rf 0 0 = some 1 ∧ rf 0 1 = some zS ∧ rf 0 4 = some 120 ∧ rf 0 6 = some 121 ∧ rf 0 8 = some 122) ∧ (∀ u, u < un → rf 120 u = some (125 + u) ∧ sh (125 + u) = (100, 6)) ∧ ∀ v, v < n → rf 121 v = some (129 + v) ∧ sh (129 + v) = (100, 3)
def lD (un n pc dr : Nat) (s : zIn) (t : zLo) (σ : zIn) (τ : zLo) : Prop := zBc s t σ τ ∧ (s 0 2 = nI dr ∧ s 0 3 = nI un ∧ s 0 5 = nI n ∧ s 0 7 = nI pc ∧ s 0 9 = σ 100 6) ∧ (∀ u, u < un → s (125 + u) 4 = σ 15 u ∧ s (125 + u) 5 = σ 16 u) ∧ ∀ v, v < n → s (129 + v) 0 = σ 87 v ∧ s (129 + v) 1 = σ 88 v ∧ s (129 + v) 2 = σ 89 v
/-- only the count of what was drawn is another -/
def dS (s s1 : zIn) (dr : Nat) : Prop := s1 0 2 = nI dr ∧ (∀ j, j ≠ 2 → s1 0 j = s 0 j) ∧ ∀ r, r ≠ 0 → s1 r = s r
theorem dS_t {s s1 s2 : zIn} {a b : Nat} (h1 : dS s s1 a) (h2 : dS s1 s2 b) : dS s s2 b := ⟨h2.1, fun j hj => (h2.2.1 j hj).trans (h1.2.1 j hj), fun r hr => (h2.2.2 r hr).trans (h1.2.2 r hr)⟩
theorem lS_0 {m un n : Nat} {sh : zSh} {rf : zRf} (h : lS m un n sh rf) : (sh 0).1 = 8 := congrArg Prod.fst h.2.2.2.1.1
theorem lD_dS {un n pc dr dr1 : Nat} {s s1 : zIn} {t : zLo} {σ : zIn} {τ : zLo} (h : lD un n pc dr s t σ τ) (h1 : dS s s1 dr1) : lD un n pc dr1 s1 t σ τ := by
  obtain ⟨c, ⟨d2, d3, d5, d7, d9⟩, u, v⟩ := h
  obtain ⟨e1, e2, e3⟩ := h1
  refine ⟨fun k hk => by rw [e3 (1 + k) (by omega)]; exact c k hk, ⟨e1, by rw [e2 3 (by decide)]; exact d3, by rw [e2 5 (by decide)]; exact d5, by rw [e2 7 (by decide)]; exact d7, by rw [e2 9 (by decide)]; exact d9⟩, fun k hk => by rw [e3 (125 + k) (by omega)]; exact u k hk, fun k hk => by rw [e3 (129 + k) (by omega)]; exact v k hk⟩
/-- a setting that has one more -/
abbrev kq (x : Int32) : Prop := -999999999 ≤ x.toInt ∧ x.toInt ≤ 999999999
def lKept (a : Int64) : Int64 := if 1000000000 < a then 1000000000 else if a < -1000000000 then -1000000000 else a
theorem lKept_i (a : Int64) : (lKept a).toInt32 = fKept a := by
  unfold lKept fKept
  split
  · rfl
  · split
    · rfl
    · rfl
def spX8_kept : zSp := zD (X := Int64 × zM) (fun x => match x with | (a, μ) => [.long a]) (fun x => match x with | (a, μ) => μ) (fun x => match x with | (a, μ) => True) (fun x => match x with | (a, μ) => some (.long (lKept a))) (fun x => match x with | (a, μ) => μ)
abbrev rmX8_kept : Room := ({ frames := 0, cells := 0, slots := 0, locals := 0 } : Room)
set_option maxRecDepth 100000 in
set_option maxHeartbeats 4000000 in
theorem ctX8_kept (l : Launch) (D : va_G) (cA : Nat → ClassId) : zCt false l D cA yX8_kept cX8_kept 2 (some .long) rmX8_kept spX8_kept := by
  refine zct_D (zCX8_kept []) zpX8_kept [] (by decide +kernel) zkX8_kept (Or.inr (by decide +kernel)) trivial ⟨by decide +kernel, by decide +kernel⟩ (fun x ad => Nat.le_of_ble_eq_true rfl) ?_ ?_
  · intro p e s m args below meth c A H0 ad0 n0 Q F hml hNw hA hX
    exact trivial
  · rintro ⟨a, μ⟩ Ret hP hK Gl hG
    try dsimp only at hP hK
    show Gl 0 (zent 2 [.long a]) [] (0, 0) (μ)
    refine hG 40 _ _ _ _ _ ?_
    conv => whnf
    refine ⟨fun h => ?_, fun h => ?_⟩
    · conv => whnf
      refine ⟨fun h2 => ?_, fun h2 => ?_⟩
      · conv => whnf
        have e : lKept a = a := by
          unfold lKept
          rw [if_neg (Int64.not_lt.mpr ((lg_cmp_le _ _).mp h)), if_neg (Int64.not_lt.mpr ((lg_cmp_ge _ _).mp h2))]
        rw [e] at hK
        exact hK
      · conv => whnf
        have e : lKept a = -1000000000 := by
          unfold lKept
          rw [if_neg (Int64.not_lt.mpr ((lg_cmp_le _ _).mp h)), if_pos (Int64.not_le.mp (fun q => h2 ((lg_cmp_ge _ _).mpr q)))]
        rw [e] at hK
        exact hK
    · conv => whnf
      have e : lKept a = 1000000000 := by
        unfold lKept
        rw [if_pos (Int64.not_le.mp (fun q => h ((lg_cmp_le _ _).mpr q)))]
      rw [e] at hK
      exact hK
def spX8_without : zSp := zD (X := Nat × zSh × zRf × zIn × zLo × Int32 × Nat × Nat × Nat) (fun x => match x with | (m, sh, rf, s, t, a, u, un, n) => [.ref 0, .int a, .int (nI u)]) (fun x => match x with | (m, sh, rf, s, t, a, u, un, n) => (m, sh, rf, s, t)) (fun x => match x with | (m, sh, rf, s, t, a, u, un, n) => lS m un n sh rf ∧ u < un ∧ ¬ (s (125 + u) 5).toInt64 = 0) (fun x => match x with | (m, sh, rf, s, t, a, u, un, n) => some (.int (fKept (a.toInt64 * (s (125 + u) 4).toInt64 / (s (125 + u) 5).toInt64)))) (fun x => match x with | (m, sh, rf, s, t, a, u, un, n) => (m, sh, rf, s, t))
abbrev rmX8_without : Room := ({ frames := 1, cells := 0, slots := 0, locals := 21 } : Room)
set_option maxRecDepth 100000 in
set_option maxHeartbeats 4000000 in
theorem ctX8_without (l : Launch) (D : va_G) (cA : Nat → ClassId) : zCt false l D cA yX8_without cX8_without 3 (some .int) rmX8_without spX8_without := by
  refine zct_D (zCX8_without [(135, 1, 1, spX8_kept, rmX8_kept.cells, rmX8_kept.slots)]) zpX8_without [] (by decide +kernel) zkX8_without (Or.inr (by decide +kernel)) trivial ⟨by decide +kernel, by decide +kernel⟩ (fun x ad => Nat.le_of_ble_eq_true rfl) ?_ ?_
  · intro p e s m args below meth c A H0 ad0 n0 Q F hml hNw hA hX
    exact ⟨zco_S hX hA F hml hNw (ctX8_kept l D cA) ⟨⟨zlX8_without_135, zwX8_kept.1⟩, zwX8_kept.2⟩ zdX8_kept ⟨Nat.le_of_ble_eq_true rfl, Nat.le_of_ble_eq_true rfl⟩, trivial⟩
  · rintro ⟨m, sh, rf, s, t, a, u, un, n⟩ Ret hP hK Gl hG
    try dsimp only at hP hK
    show Gl 0 (zent 3 [.ref 0, .int a, .int (nI u)]) [] (0, 0) ((m, sh, rf, s, t))
    obtain ⟨⟨⟨b1, b2, b3, b4, b5⟩, hBs, h999, ⟨h0, h120, h121, h122⟩, ⟨r0, r1, r4, r6, r8⟩, hu9, hv9⟩, hu, hq⟩ := hP
    obtain ⟨w1, w2⟩ := hu9 u hu
    refine hG 100 _ _ _ _ _ ?_
    repeat (first
      | (conv => whnf
         try dsimp only
         try simp (decide := true) only [h0, r4, h120, w1, w2, nI_clamp (show u < 2 ^ 31 by omega), zu_same, zu_ne1, zu_ne2, zu_row, zuL_same, zuL_ne1, zuL_ne2, zrow_n1, zx0, zx1, zx2, zx3, nI_1, Nat.reduceAdd, Nat.reduceMul, Int32.reduceAdd, Int32.reduceSub, Int32.reduceMul]
         first
         | refine ⟨vp_inb (by decide), ?_⟩
         | refine ⟨by with_reducible exact zi (by omega), ?_⟩
         | refine ⟨fun h => absurd h (by with_reducible exact nI_ge (by omega) (by omega)), fun _ => ?_⟩
         | refine ⟨fun _ => ?_, fun h => absurd (by with_reducible exact nI_le (by omega) (by omega)) h⟩
         | refine ⟨fun h => absurd h (by with_reducible exact nI_nlt (by omega) (by omega)), fun _ => ?_⟩
         | refine ⟨fun _ => ?_, fun h => absurd (by with_reducible exact nI_lt (by omega) (by omega)) h⟩
         | refine ⟨fun h => absurd h (by with_reducible exact nI_pos (by omega)), fun _ => ?_⟩
         | refine ⟨fun _ => ?_, fun h => absurd (by with_reducible exact nI_0le (by omega)) h⟩
         | refine ⟨fun h => absurd h (by decide), fun _ => ?_⟩
         | refine ⟨fun _ => ?_, fun h => absurd (by decide) h⟩
         | refine ⟨fun _ => ?_, fun h => absurd h (by decide)⟩
         | refine ⟨fun h => absurd (by decide) h, fun _ => ?_⟩
         | refine ⟨by decide, ?_⟩
         | refine ⟨rfl, ?_⟩)
      | (conv => whnf
         fail_if_success refine Exists.intro ?_ ?_
         simp only [h0, r4, h120, w1, w2, nI_clamp (show u < 2 ^ 31 by omega)]))
    try (conv => whnf)
    refine ⟨hq, ?_⟩
    repeat (first
      | (conv => whnf
         try dsimp only
         try simp (decide := true) only [h0, r4, h120, w1, w2, nI_clamp (show u < 2 ^ 31 by omega), zu_same, zu_ne1, zu_ne2, zu_row, zuL_same, zuL_ne1, zuL_ne2, zrow_n1, zx0, zx1, zx2, zx3, nI_1, Nat.reduceAdd, Nat.reduceMul, Int32.reduceAdd, Int32.reduceSub, Int32.reduceMul]
         first
         | refine ⟨vp_inb (by decide), ?_⟩
         | refine ⟨by with_reducible exact zi (by omega), ?_⟩
         | refine ⟨fun h => absurd h (by with_reducible exact nI_ge (by omega) (by omega)), fun _ => ?_⟩
         | refine ⟨fun _ => ?_, fun h => absurd (by with_reducible exact nI_le (by omega) (by omega)) h⟩
         | refine ⟨fun h => absurd h (by with_reducible exact nI_nlt (by omega) (by omega)), fun _ => ?_⟩
         | refine ⟨fun _ => ?_, fun h => absurd (by with_reducible exact nI_lt (by omega) (by omega)) h⟩
         | refine ⟨fun h => absurd h (by with_reducible exact nI_pos (by omega)), fun _ => ?_⟩
         | refine ⟨fun _ => ?_, fun h => absurd (by with_reducible exact nI_0le (by omega)) h⟩
         | refine ⟨fun h => absurd h (by decide), fun _ => ?_⟩
         | refine ⟨fun _ => ?_, fun h => absurd (by decide) h⟩
         | refine ⟨fun _ => ?_, fun h => absurd h (by decide)⟩
         | refine ⟨fun h => absurd (by decide) h, fun _ => ?_⟩
         | refine ⟨by decide, ?_⟩
         | refine ⟨rfl, ?_⟩)
      | (conv => whnf
         fail_if_success refine Exists.intro ?_ ?_
         simp only [h0, r4, h120, w1, w2, nI_clamp (show u < 2 ^ 31 by omega)]))
    try (conv => whnf)
    refine ⟨(_, _), rfl, rfl, trivial, ?_⟩
    try dsimp only [cond_true, cond_false]
    repeat (conv => whnf
            try dsimp only
            try simp (decide := true) only [zu_same, zu_ne1, zu_ne2, zu_row, zuL_same, zuL_ne1, zuL_ne2, zrow_n1, zx0, zx1, zx2, zx3, nI_1, Nat.reduceAdd, Nat.reduceMul, Int32.reduceAdd, Int32.reduceSub, Int32.reduceMul]
            first
            | refine ⟨vp_inb (by decide), ?_⟩
            | refine ⟨by with_reducible exact zi (by omega), ?_⟩
            | refine ⟨fun h => absurd h (by with_reducible exact nI_ge (by omega) (by omega)), fun _ => ?_⟩
            | refine ⟨fun _ => ?_, fun h => absurd (by with_reducible exact nI_le (by omega) (by omega)) h⟩
            | refine ⟨fun h => absurd h (by with_reducible exact nI_nlt (by omega) (by omega)), fun _ => ?_⟩
            | refine ⟨fun _ => ?_, fun h => absurd (by with_reducible exact nI_lt (by omega) (by omega)) h⟩
            | refine ⟨fun h => absurd h (by with_reducible exact nI_pos (by omega)), fun _ => ?_⟩
            | refine ⟨fun _ => ?_, fun h => absurd (by with_reducible exact nI_0le (by omega)) h⟩
            | refine ⟨fun h => absurd h (by decide), fun _ => ?_⟩
            | refine ⟨fun _ => ?_, fun h => absurd (by decide) h⟩
            | refine ⟨fun _ => ?_, fun h => absurd h (by decide)⟩
            | refine ⟨fun h => absurd (by decide) h, fun _ => ?_⟩
            | refine ⟨by decide, ?_⟩
            | refine ⟨rfl, ?_⟩)
    try (conv => whnf)
    rw [lKept_i]
    exact hK
def spX8_define : zSp := zDQ (X := Nat × zSh × zRf × zIn × zLo × zIn × zLo × Nat × Nat) (fun x => match x with | (m, sh, rf, s, t, σ, τ, pc, dr) => [.ref 0]) (fun x => match x with | (m, sh, rf, s, t, σ, τ, pc, dr) => (m, sh, rf, s, t)) (fun x => match x with | (m, sh, rf, s, t, σ, τ, pc, dr) => lS m 4 6 sh rf ∧ lD 4 6 pc dr s t σ τ ∧ cI σ τ 6 pc 4 ∧ 0 < pc ∧ dr + 3 < 10000) (fun x r9 μ9 => match x with | (m, sh, rf, s, t, σ, τ, pc, dr) => r9 = some (.int 1) ∧ ∃ (s1 : zIn) (t1 : zLo) (σ1 : zIn) (dr1 : Nat), μ9 = (m, sh, rf, s1, t1) ∧ lD 4 6 pc dr1 s1 t1 σ1 τ ∧ cI σ1 τ 6 pc 4 ∧ dr1 ≤ dr + 3 ∧ (σ1 0 13 = 0 ∧ σ1 0 14 = 0 ∧ σ1 0 15 = 0) ∧ σ1 89 = σ 89)
abbrev rmX8_define : Room := ({ frames := 3, cells := 0, slots := 0, locals := 65 } : Room)
set_option maxRecDepth 100000 in
set_option maxHeartbeats 4000000 in
theorem ctX8_define (l : Launch) (D : va_G) (cA : Nat → ClassId) : zCt true l D cA yX8_define cX8_define 3 (some .boolean) rmX8_define spX8_define := by
  refine zct_Q (zCX8_define [(58, 0, 1, spX8_draw, rmX8_draw.cells, rmX8_draw.slots), (99, 0, 2, spJX7_define, rmX7_define.cells, rmX7_define.slots)]) zpX8_define [46] (by decide +kernel) zkX8_define (Or.inr (by decide +kernel)) trivial ⟨by decide +kernel, by decide +kernel⟩ (fun x ad => Nat.le_of_ble_eq_true rfl) ?_ ?_
  · intro p e s m args below meth c A H0 ad0 n0 Q F hml hNw hA hX
    exact ⟨zco_V hX hA F hml hNw (ctX8_draw l D cA) ⟨⟨zlX8_define_58, zwX8_draw.1.1, zwX8_draw.1.2⟩, zwX8_draw.2⟩ zdX8_draw ⟨Nat.le_of_ble_eq_true rfl, Nat.le_of_ble_eq_true rfl⟩ (ci := 8) (by decide) rfl (by rintro av μ K ⟨⟨m, sh, rf, s, t, dr, k⟩, rfl, rfl, ⟨h, -⟩, -⟩; exact ⟨_, _, rfl, congrArg Prod.fst h⟩), zco_V hX hA F hml hNw (zct_X (ctJX7_define l D cA)) ⟨⟨zlX8_define_99, zwX7_define.1.1, zwX7_define.1.2⟩, zwX7_define.2⟩ zdX7_define ⟨Nat.le_of_ble_eq_true rfl, Nat.le_of_ble_eq_true rfl⟩ (ci := 7) (by decide) rfl (zrvJ (by rintro av μ K ⟨x, rfl, -⟩; exact ⟨_, rfl⟩)), trivial⟩
  · rintro ⟨m, sh, rf, s, t, σ, τ, pc, dr⟩ Ret hP hK Gl hG
    try dsimp only at hP hK
    show Gl 0 (zent 3 [.ref 0]) [] (0, 0) ((m, sh, rf, s, t))
    obtain ⟨hS, hD, hI, hpc, hdr⟩ := hP
    obtain ⟨⟨b1, b2, b3, b4, b5⟩, hBs, h999, ⟨h0, h120, h121, h122⟩, ⟨r0, r1, r4, r6, r8⟩, hu9, hv9⟩ := id hS
    have h60 := hI.1.2.2.1
    refine hG 100 _ _ _ _ _ ?_
    repeat (first
      | (conv => whnf
         try dsimp only
         try simp (decide := true) only [h0, r1, r4, r6, r8, h121, hD.2.1.2.2.1, zu_same, zu_ne1, zu_ne2, zu_row, zuL_same, zuL_ne1, zuL_ne2, zrow_n1, zx0, zx1, zx2, zx3, nI_1, Nat.reduceAdd, Nat.reduceMul, Int32.reduceAdd, Int32.reduceSub, Int32.reduceMul]
         first
         | refine ⟨vp_inb (by decide), ?_⟩
         | refine ⟨by with_reducible exact zi (by omega), ?_⟩
         | refine ⟨fun h => absurd h (by with_reducible exact nI_ge (by omega) (by omega)), fun _ => ?_⟩
         | refine ⟨fun _ => ?_, fun h => absurd (by with_reducible exact nI_le (by omega) (by omega)) h⟩
         | refine ⟨fun h => absurd h (by with_reducible exact nI_nlt (by omega) (by omega)), fun _ => ?_⟩
         | refine ⟨fun _ => ?_, fun h => absurd (by with_reducible exact nI_lt (by omega) (by omega)) h⟩
         | refine ⟨fun h => absurd h (by with_reducible exact nI_pos (by omega)), fun _ => ?_⟩
         | refine ⟨fun _ => ?_, fun h => absurd (by with_reducible exact nI_0le (by omega)) h⟩
         | refine ⟨fun h => absurd h (by decide), fun _ => ?_⟩
         | refine ⟨fun _ => ?_, fun h => absurd (by decide) h⟩
         | refine ⟨fun _ => ?_, fun h => absurd h (by decide)⟩
         | refine ⟨fun h => absurd (by decide) h, fun _ => ?_⟩
         | refine ⟨by decide, ?_⟩
         | refine ⟨rfl, ?_⟩)
      | (conv => whnf
         fail_if_success refine Exists.intro ?_ ?_
         simp only [h0, r1, r4, r6, r8, h121, hD.2.1.2.2.1]))
    try (conv => whnf)
    refine ⟨(m, sh, rf, s, t, dr, 6), rfl, rfl, ⟨h0, r1, h999, hD.2.1.1, by omega, by decide, by decide⟩, ?_⟩
    try dsimp only [cond_true, cond_false]
    rintro _ _ ⟨⟨v, hv, rfl⟩, s1, rfl, d1⟩
    have hD1 := lD_dS hD d1
    obtain ⟨w1, w2⟩ := hv9 v hv
    obtain ⟨y0, y1, y2⟩ := hD1.2.2.2 v hv
    have hw0 : (129 + v : Nat) ≠ 0 := by omega
    have fin : ∀ (s2 : zIn) (p : Int32) (dr2 : Nat), dS s s2 dr2 → dr2 ≤ dr + 3 → (p = -1 ∨ ∃ g, p = nI g ∧ g < pc) → Gl 46 [some (.ref 0), some (.int (nI v)), some (.int (σ 88 v))] [.int p, .int 1, .ref (129 + v)] (0, 0) (m, sh, rf, s2, t) := by
      intro s2 p dr2 d2 hdr2 hp
      have hD2 := lD_dS hD d2
      refine hG 100 _ _ _ _ _ ?_
      repeat (first
        | (conv => whnf
           try dsimp only
           try simp (decide := true) only [h0, r0, r1, r4, r6, r8, h121, w1, w2, nI_clamp (show v < 2 ^ 31 by omega), zu_same, zu_ne1, zu_ne2, zu_row, zuL_same, zuL_ne1, zuL_ne2, zrow_n1, zx0, zx1, zx2, zx3, nI_1, Nat.reduceAdd, Nat.reduceMul, Int32.reduceAdd, Int32.reduceSub, Int32.reduceMul]
           first
           | refine ⟨vp_inb (by decide), ?_⟩
           | refine ⟨by with_reducible exact zi (by omega), ?_⟩
           | refine ⟨fun h => absurd h (by with_reducible exact nI_ge (by omega) (by omega)), fun _ => ?_⟩
           | refine ⟨fun _ => ?_, fun h => absurd (by with_reducible exact nI_le (by omega) (by omega)) h⟩
           | refine ⟨fun h => absurd h (by with_reducible exact nI_nlt (by omega) (by omega)), fun _ => ?_⟩
           | refine ⟨fun _ => ?_, fun h => absurd (by with_reducible exact nI_lt (by omega) (by omega)) h⟩
           | refine ⟨fun h => absurd h (by with_reducible exact nI_pos (by omega)), fun _ => ?_⟩
           | refine ⟨fun _ => ?_, fun h => absurd (by with_reducible exact nI_0le (by omega)) h⟩
           | refine ⟨fun h => absurd h (by decide), fun _ => ?_⟩
           | refine ⟨fun _ => ?_, fun h => absurd (by decide) h⟩
           | refine ⟨fun _ => ?_, fun h => absurd h (by decide)⟩
           | refine ⟨fun h => absurd (by decide) h, fun _ => ?_⟩
           | refine ⟨by decide, ?_⟩
           | refine ⟨rfl, ?_⟩)
        | (conv => whnf
           fail_if_success refine Exists.intro ?_ ?_
           simp only [h0, r0, r1, r4, r6, r8, h121, w1, w2, nI_clamp (show v < 2 ^ 31 by omega)]))
      try (conv => whnf)
      refine ⟨[.ref 0, .int (nI v), .int p], σ, τ, rfl, rfl, hBs, (zBc_zu (Or.inr (by omega)) hD2.1), by show 120 ≤ m; omega, (σ, τ, 6, pc, 4, v, p), rfl, rfl, ⟨hI, hv, hp⟩, ?_⟩
      try dsimp only [cond_true, cond_false]
      rintro _ _ ⟨rfl, σ1, rfl, c1, c2, c3, c4⟩
      refine ⟨σ1, τ, rfl, rfl, fun s3 t3 hc hfr => ?_⟩
      repeat (conv => whnf
              try dsimp only
              try simp (decide := true) only [zu_same, zu_ne1, zu_ne2, zu_row, zuL_same, zuL_ne1, zuL_ne2, zrow_n1, zx0, zx1, zx2, zx3, nI_1, Nat.reduceAdd, Nat.reduceMul, Int32.reduceAdd, Int32.reduceSub, Int32.reduceMul]
              first
              | refine ⟨vp_inb (by decide), ?_⟩
              | refine ⟨by with_reducible exact zi (by omega), ?_⟩
              | refine ⟨fun h => absurd h (by with_reducible exact nI_ge (by omega) (by omega)), fun _ => ?_⟩
              | refine ⟨fun _ => ?_, fun h => absurd (by with_reducible exact nI_le (by omega) (by omega)) h⟩
              | refine ⟨fun h => absurd h (by with_reducible exact nI_nlt (by omega) (by omega)), fun _ => ?_⟩
              | refine ⟨fun _ => ?_, fun h => absurd (by with_reducible exact nI_lt (by omega) (by omega)) h⟩
              | refine ⟨fun h => absurd h (by with_reducible exact nI_pos (by omega)), fun _ => ?_⟩
              | refine ⟨fun _ => ?_, fun h => absurd (by with_reducible exact nI_0le (by omega)) h⟩
              | refine ⟨fun h => absurd h (by decide), fun _ => ?_⟩
              | refine ⟨fun _ => ?_, fun h => absurd (by decide) h⟩
              | refine ⟨fun _ => ?_, fun h => absurd h (by decide)⟩
              | refine ⟨fun h => absurd (by decide) h, fun _ => ?_⟩
              | refine ⟨by decide, ?_⟩
              | refine ⟨rfl, ?_⟩)
      try (conv => whnf)
      have z1 : ∀ j, s3 0 j = s2 0 j := fun j => by rw [(hfr 0 (Or.inl rfl)).1]; exact zu_ne1 (by omega)
      have z2 : ∀ r, 120 ≤ r → r ≠ 129 + v → s3 r = s2 r := fun r hr hn => by rw [(hfr r (Or.inr hr)).1]; exact zu_row hn
      obtain ⟨-, ⟨q2, q3, q5, q7, q9⟩, qu, qv⟩ := hD2
      refine hK _ _ ⟨rfl, s3, t3, σ1, dr2, rfl, ⟨hc, ⟨by rw [z1]; exact q2, by rw [z1]; exact q3, by rw [z1]; exact q5, by rw [z1]; exact q7, by rw [z1, c3 100 (by decide) (by decide)]; exact q9⟩, fun u hu => ?_, fun w hw => ?_⟩, c1, hdr2, c2, c3 89 (by decide) (by decide)⟩
      · rw [z2 (125 + u) (by omega) (by omega), c3 15 (by decide) (by decide), c3 16 (by decide) (by decide)]
        exact qu u hu
      · rw [c3 87 (by decide) (by decide), c3 89 (by decide) (by decide), c4]
        dsimp only
        by_cases e : w = v
        · rw [e, if_pos rfl, (hfr (129 + v) (Or.inr (by omega))).1]
          exact ⟨(zu_ne2 (by decide)).trans (qv v hv).1, zu_same, (zu_ne2 (by decide)).trans (qv v hv).2.2⟩
        · rw [if_neg e, z2 (129 + w) (by omega) (by omega)]
          exact qv w hw
    repeat (first
      | (conv => whnf
         try dsimp only
         try simp (decide := true) only [h0, r0, r1, r4, r6, r8, h121, w1, w2, y1, nI_clamp (show v < 2 ^ 31 by omega), zu_same, zu_ne1, zu_ne2, zu_row, zuL_same, zuL_ne1, zuL_ne2, zrow_n1, zx0, zx1, zx2, zx3, nI_1, Nat.reduceAdd, Nat.reduceMul, Int32.reduceAdd, Int32.reduceSub, Int32.reduceMul]
         first
         | refine ⟨vp_inb (by decide), ?_⟩
         | refine ⟨by with_reducible exact zi (by omega), ?_⟩
         | refine ⟨fun h => absurd h (by with_reducible exact nI_ge (by omega) (by omega)), fun _ => ?_⟩
         | refine ⟨fun _ => ?_, fun h => absurd (by with_reducible exact nI_le (by omega) (by omega)) h⟩
         | refine ⟨fun h => absurd h (by with_reducible exact nI_nlt (by omega) (by omega)), fun _ => ?_⟩
         | refine ⟨fun _ => ?_, fun h => absurd (by with_reducible exact nI_lt (by omega) (by omega)) h⟩
         | refine ⟨fun h => absurd h (by with_reducible exact nI_pos (by omega)), fun _ => ?_⟩
         | refine ⟨fun _ => ?_, fun h => absurd (by with_reducible exact nI_0le (by omega)) h⟩
         | refine ⟨fun h => absurd h (by decide), fun _ => ?_⟩
         | refine ⟨fun _ => ?_, fun h => absurd (by decide) h⟩
         | refine ⟨fun _ => ?_, fun h => absurd h (by decide)⟩
         | refine ⟨fun h => absurd (by decide) h, fun _ => ?_⟩
         | refine ⟨by decide, ?_⟩
         | refine ⟨rfl, ?_⟩)
      | (conv => whnf
         fail_if_success refine Exists.intro ?_ ?_
         simp only [h0, r0, r1, r4, r6, r8, h121, w1, w2, y1, nI_clamp (show v < 2 ^ 31 by omega)]))
    try (conv => whnf)
    refine ⟨(m, sh, rf, s1, t, dr + 1, 6), rfl, rfl, ⟨h0, r1, h999, d1.1, by omega, by decide, by decide⟩, ?_⟩
    try dsimp only [cond_true, cond_false]
    rintro _ _ ⟨⟨y, hy, rfl⟩, s2, rfl, d2⟩
    have d2' := dS_t d1 d2
    have hD2 := lD_dS hD d2'
    refine ⟨fun h => ?_, fun h => ?_⟩
    · skip
      repeat (first
        | (conv => whnf
           try dsimp only
           try simp (decide := true) only [h0, r8, hD2.2.1.2.2.2.1, zu_same, zu_ne1, zu_ne2, zu_row, zuL_same, zuL_ne1, zuL_ne2, zrow_n1, zx0, zx1, zx2, zx3, nI_1, Nat.reduceAdd, Nat.reduceMul, Int32.reduceAdd, Int32.reduceSub, Int32.reduceMul]
           first
           | refine ⟨vp_inb (by decide), ?_⟩
           | refine ⟨by with_reducible exact zi (by omega), ?_⟩
           | refine ⟨fun h => absurd h (by with_reducible exact nI_ge (by omega) (by omega)), fun _ => ?_⟩
           | refine ⟨fun _ => ?_, fun h => absurd (by with_reducible exact nI_le (by omega) (by omega)) h⟩
           | refine ⟨fun h => absurd h (by with_reducible exact nI_nlt (by omega) (by omega)), fun _ => ?_⟩
           | refine ⟨fun _ => ?_, fun h => absurd (by with_reducible exact nI_lt (by omega) (by omega)) h⟩
           | refine ⟨fun h => absurd h (by with_reducible exact nI_pos (by omega)), fun _ => ?_⟩
           | refine ⟨fun _ => ?_, fun h => absurd (by with_reducible exact nI_0le (by omega)) h⟩
           | refine ⟨fun h => absurd h (by decide), fun _ => ?_⟩
           | refine ⟨fun _ => ?_, fun h => absurd (by decide) h⟩
           | refine ⟨fun _ => ?_, fun h => absurd h (by decide)⟩
           | refine ⟨fun h => absurd (by decide) h, fun _ => ?_⟩
           | refine ⟨by decide, ?_⟩
           | refine ⟨rfl, ?_⟩)
        | (conv => whnf
           fail_if_success refine Exists.intro ?_ ?_
           simp only [h0, r8, hD2.2.1.2.2.2.1]))
      try (conv => whnf)
      refine ⟨(m, sh, rf, s2, t, dr + 2, pc), rfl, rfl, ⟨h0, r1, h999, d2.1, by omega, hpc, by omega⟩, ?_⟩
      try dsimp only [cond_true, cond_false]
      rintro _ _ ⟨⟨g, hg, rfl⟩, s3, rfl, d3⟩
      repeat (conv => whnf
              try dsimp only
              try simp (decide := true) only [zu_same, zu_ne1, zu_ne2, zu_row, zuL_same, zuL_ne1, zuL_ne2, zrow_n1, zx0, zx1, zx2, zx3, nI_1, Nat.reduceAdd, Nat.reduceMul, Int32.reduceAdd, Int32.reduceSub, Int32.reduceMul]
              first
              | refine ⟨vp_inb (by decide), ?_⟩
              | refine ⟨by with_reducible exact zi (by omega), ?_⟩
              | refine ⟨fun h => absurd h (by with_reducible exact nI_ge (by omega) (by omega)), fun _ => ?_⟩
              | refine ⟨fun _ => ?_, fun h => absurd (by with_reducible exact nI_le (by omega) (by omega)) h⟩
              | refine ⟨fun h => absurd h (by with_reducible exact nI_nlt (by omega) (by omega)), fun _ => ?_⟩
              | refine ⟨fun _ => ?_, fun h => absurd (by with_reducible exact nI_lt (by omega) (by omega)) h⟩
              | refine ⟨fun h => absurd h (by with_reducible exact nI_pos (by omega)), fun _ => ?_⟩
              | refine ⟨fun _ => ?_, fun h => absurd (by with_reducible exact nI_0le (by omega)) h⟩
              | refine ⟨fun h => absurd h (by decide), fun _ => ?_⟩
              | refine ⟨fun _ => ?_, fun h => absurd (by decide) h⟩
              | refine ⟨fun _ => ?_, fun h => absurd h (by decide)⟩
              | refine ⟨fun h => absurd (by decide) h, fun _ => ?_⟩
              | refine ⟨by decide, ?_⟩
              | refine ⟨rfl, ?_⟩)
      try (conv => whnf)
      exact fin s3 (nI g) (dr + 3) (dS_t d2' d3) (by omega) (Or.inr ⟨g, rfl, hg⟩)
    · skip
      repeat (conv => whnf
              try dsimp only
              try simp (decide := true) only [zu_same, zu_ne1, zu_ne2, zu_row, zuL_same, zuL_ne1, zuL_ne2, zrow_n1, zx0, zx1, zx2, zx3, nI_1, Nat.reduceAdd, Nat.reduceMul, Int32.reduceAdd, Int32.reduceSub, Int32.reduceMul]
              first
              | refine ⟨vp_inb (by decide), ?_⟩
              | refine ⟨by with_reducible exact zi (by omega), ?_⟩
              | refine ⟨fun h => absurd h (by with_reducible exact nI_ge (by omega) (by omega)), fun _ => ?_⟩
              | refine ⟨fun _ => ?_, fun h => absurd (by with_reducible exact nI_le (by omega) (by omega)) h⟩
              | refine ⟨fun h => absurd h (by with_reducible exact nI_nlt (by omega) (by omega)), fun _ => ?_⟩
              | refine ⟨fun _ => ?_, fun h => absurd (by with_reducible exact nI_lt (by omega) (by omega)) h⟩
              | refine ⟨fun h => absurd h (by with_reducible exact nI_pos (by omega)), fun _ => ?_⟩
              | refine ⟨fun _ => ?_, fun h => absurd (by with_reducible exact nI_0le (by omega)) h⟩
              | refine ⟨fun h => absurd h (by decide), fun _ => ?_⟩
              | refine ⟨fun _ => ?_, fun h => absurd (by decide) h⟩
              | refine ⟨fun _ => ?_, fun h => absurd h (by decide)⟩
              | refine ⟨fun h => absurd (by decide) h, fun _ => ?_⟩
              | refine ⟨by decide, ?_⟩
              | refine ⟨rfl, ?_⟩)
      try (conv => whnf)
      exact fin s2 (-1) (dr + 2) d2' (by omega) (Or.inl rfl)

/-! ===== the model's public methods, fresh ===== -/
theorem znoM1 {v : Int32} : ¬ (0 ≤ v ∧ v ≤ -1) := fun q => absurd (Int32.le_trans q.1 q.2) (by decide)
theorem zsw_one {x : Int} {K : Nat → Prop} : ∀ (l : List Nat) (lo : Int) (j t : Nat), l[j]? = some t → x = lo + (j : Int) → K t → zsw x lo l K
  | [], _, _, _, _, _, _ => trivial
  | t0 :: l, lo, 0, t, h, hx, hk => by
    have e : t0 = t := by simpa using h
    subst e
    have rest : ∀ (l : List Nat) (lo' : Int), x < lo' → zsw x lo' l K := by
      intro l
      induction l with
      | nil => intro _ _; trivial
      | cons t2 l ih => intro lo' h'; exact ⟨fun q => absurd q (by omega), ih (lo' + 1) (by omega)⟩
    exact ⟨fun _ => hk, rest l (lo + 1) (by omega)⟩
  | t0 :: l, lo, j + 1, t, h, hx, hk => ⟨fun q => absurd q (by omega), zsw_one l (lo + 1) j t (by simpa using h) (by rw [hx]; omega) hk⟩
theorem zin3 {q : Int32} (h : 0 ≤ q ∧ q ≤ 3) : vp_in q 4 := vp_in_iff.mpr ⟨Int32.le_iff_toInt_le.mp h.1, by have := Int32.le_iff_toInt_le.mp h.2; have e : (3 : Int32).toInt = 3 := rfl; omega⟩
theorem zu0' {u : Int32} (h : 0 ≤ u ∧ u ≤ 0) : u = 0 := Int32.le_antisymm h.2 h.1
def spX8_of : zSp := zDQ (X := Int32 × zIn × zLo × Int64) (fun x => match x with | (v, s1, t1, v9) => [.ref 119, .int v]) (fun x => match x with | (v, s1, t1, v9) => (145, zSH, zRH, zmx s1, zmxL t1 v9)) (fun x => match x with | (v, s1, t1, v9) => True) (fun x r9 μ9 => match x with | (v, s1, t1, v9) => r9 = some (.int 0) ∧ zaft v9 1 μ9)
abbrev rmX8_of : Room := ({ frames := 2, cells := 0, slots := 0, locals := 43 } : Room)
set_option maxRecDepth 100000 in
set_option maxHeartbeats 4000000 in
theorem ctX8_of (l : Launch) (D : va_G) (cA : Nat → ClassId) : zCt false l D cA yX8_of cX8_of 2 (some .int) rmX8_of spX8_of := by
  refine zct_Q (zCX8_of [(142, 0, 1, spX8_isVariable, rmX8_isVariable.cells, rmX8_isVariable.slots), (118, 0, 1, spX8_no, rmX8_no.cells, rmX8_no.slots)]) zpX8_of [] (by decide +kernel) zkX8_of (Or.inr (by decide +kernel)) trivial ⟨by decide +kernel, by decide +kernel⟩ (fun x ad => Nat.le_of_ble_eq_true rfl) ?_ ?_
  · intro p e s m args below meth c A H0 ad0 n0 Q F hml hNw hA hX
    exact ⟨zco_V hX hA F hml hNw (ctX8_isVariable l D cA) ⟨⟨zlX8_of_142, zwX8_isVariable.1.1, zwX8_isVariable.1.2⟩, zwX8_isVariable.2⟩ zdX8_isVariable ⟨Nat.le_of_ble_eq_true rfl, Nat.le_of_ble_eq_true rfl⟩ (ci := 8) (by decide) rfl (by rintro av μ K ⟨x, rfl, rfl, -⟩; exact ⟨_, _, rfl, rfl⟩), zco_V hX hA F hml hNw (ctX8_no l D cA) ⟨⟨zlX8_of_118, zwX8_no.1.1, zwX8_no.1.2⟩, zwX8_no.2⟩ zdX8_no ⟨Nat.le_of_ble_eq_true rfl, Nat.le_of_ble_eq_true rfl⟩ (ci := 8) (by decide) rfl (by rintro av μ K ⟨⟨μ0, x9⟩, rfl, rfl, h9, -⟩; exact ⟨_, _, rfl, congrArg Prod.fst h9.1⟩), trivial⟩
  · rintro ⟨v, s1, t1, v9⟩ Ret hP hK Gl hG
    try dsimp only at hP hK
    show Gl 0 (zent 2 [.ref 119, .int v]) [] (0, 0) ((145, zSH, zRH, zmx s1, zmxL t1 v9))
    refine hG 1000 _ _ _ _ _ ?_
    repeat (conv => whnf
            try dsimp only
            try simp (decide := true) only [zu_same, zu_ne1, zu_ne2, zuL_same, zuL_ne1, zuL_ne2, zrow_n1, zx0, zx1, zx2, zx3, zf_0_13, zf_0_14, zf_0_15, zf_1_3, zf_15_0, zf_16_0, zf_17_10, zf_86_3, zf_90_6, zf_90_7, zf_94_7, zf_100_6, zf_100_7, zf_118_0, zf_118_1, zf_118_2, zf_118_3, zg_119_0, zg_119_5, zg_119_9, zg_119_15, zg_119_19, zg_119_22, zg_119_1, zg_119_16, zg_120_0, zg_120_1, zg_120_2, zg_120_3, zg_121_0, zg_122_0, zg_124_0, zg_126_0, zg_127_0, zg_128_0, zg_129_0, zg_131_0, zg_131_1, zg_131_2, zg_131_3, Nat.reduceAdd, Nat.reduceMul, Int32.reduceAdd, Int32.reduceSub, Int32.reduceMul]
            first
            | refine ⟨vp_inb rfl, ?_⟩
            | refine ⟨fun h => absurd h (of_decide_eq_false rfl), fun _ => ?_⟩
            | refine ⟨fun _ => ?_, fun h => absurd (of_decide_eq_true rfl) h⟩
            | refine ⟨fun _ => ?_, fun h => absurd h (of_decide_eq_false rfl)⟩
            | refine ⟨fun h => absurd (of_decide_eq_true rfl) h, fun _ => ?_⟩
            | refine ⟨of_decide_eq_true rfl, ?_⟩
            | refine ⟨rfl, ?_⟩)
    try (conv => whnf)
    refine ⟨(zu (zmx s1) 119 0 0, zmxL t1 v9, v), rfl, rfl, rfl, ?_⟩
    try dsimp only
    repeat (conv => whnf
            try dsimp only
            try simp (decide := true) only [zu_same, zu_ne1, zu_ne2, zuL_same, zuL_ne1, zuL_ne2, zrow_n1, zx0, zx1, zx2, zx3, zf_0_13, zf_0_14, zf_0_15, zf_1_3, zf_15_0, zf_16_0, zf_17_10, zf_86_3, zf_90_6, zf_90_7, zf_94_7, zf_100_6, zf_100_7, zf_118_0, zf_118_1, zf_118_2, zf_118_3, zg_119_0, zg_119_5, zg_119_9, zg_119_15, zg_119_19, zg_119_22, zg_119_1, zg_119_16, zg_120_0, zg_120_1, zg_120_2, zg_120_3, zg_121_0, zg_122_0, zg_124_0, zg_126_0, zg_127_0, zg_128_0, zg_129_0, zg_131_0, zg_131_1, zg_131_2, zg_131_3, Nat.reduceAdd, Nat.reduceMul, Int32.reduceAdd, Int32.reduceSub, Int32.reduceMul]
            first
            | refine ⟨vp_inb rfl, ?_⟩
            | refine ⟨fun h => absurd h (of_decide_eq_false rfl), fun _ => ?_⟩
            | refine ⟨fun _ => ?_, fun h => absurd (of_decide_eq_true rfl) h⟩
            | refine ⟨fun _ => ?_, fun h => absurd h (of_decide_eq_false rfl)⟩
            | refine ⟨fun h => absurd (of_decide_eq_true rfl) h, fun _ => ?_⟩
            | refine ⟨of_decide_eq_true rfl, ?_⟩
            | refine ⟨rfl, ?_⟩)
    try (conv => whnf)
    refine ⟨(_, 1), rfl, rfl, ⟨rfl, trivial⟩, ?_⟩
    try dsimp only
    repeat (conv => whnf
            try dsimp only
            try simp (decide := true) only [zu_same, zu_ne1, zu_ne2, zuL_same, zuL_ne1, zuL_ne2, zrow_n1, zx0, zx1, zx2, zx3, zf_0_13, zf_0_14, zf_0_15, zf_1_3, zf_15_0, zf_16_0, zf_17_10, zf_86_3, zf_90_6, zf_90_7, zf_94_7, zf_100_6, zf_100_7, zf_118_0, zf_118_1, zf_118_2, zf_118_3, zg_119_0, zg_119_5, zg_119_9, zg_119_15, zg_119_19, zg_119_22, zg_119_1, zg_119_16, zg_120_0, zg_120_1, zg_120_2, zg_120_3, zg_121_0, zg_122_0, zg_124_0, zg_126_0, zg_127_0, zg_128_0, zg_129_0, zg_131_0, zg_131_1, zg_131_2, zg_131_3, Nat.reduceAdd, Nat.reduceMul, Int32.reduceAdd, Int32.reduceSub, Int32.reduceMul]
            first
            | refine ⟨vp_inb rfl, ?_⟩
            | refine ⟨fun h => absurd h (of_decide_eq_false rfl), fun _ => ?_⟩
            | refine ⟨fun _ => ?_, fun h => absurd (of_decide_eq_true rfl) h⟩
            | refine ⟨fun _ => ?_, fun h => absurd h (of_decide_eq_false rfl)⟩
            | refine ⟨fun h => absurd (of_decide_eq_true rfl) h, fun _ => ?_⟩
            | refine ⟨of_decide_eq_true rfl, ?_⟩
            | refine ⟨rfl, ?_⟩)
    try (conv => whnf)
    exact hK _ _ ⟨rfl, rfl, rfl, rfl, rfl⟩
def spX8_join : zSp := zDQ (X := Int32 × Int32 × Int32 × zIn × zLo × Int64) (fun x => match x with | (k, a, b, s1, t1, v9) => [.ref 119, .int k, .int a, .int b]) (fun x => match x with | (k, a, b, s1, t1, v9) => (145, zSH, zRH, zmx s1, zmxL t1 v9)) (fun x => match x with | (k, a, b, s1, t1, v9) => True) (fun x r9 μ9 => match x with | (k, a, b, s1, t1, v9) => r9 = some (.int 0) ∧ zaft v9 1 μ9)
abbrev rmX8_join : Room := ({ frames := 2, cells := 0, slots := 0, locals := 43 } : Room)
set_option maxRecDepth 100000 in
set_option maxHeartbeats 4000000 in
theorem ctX8_join (l : Launch) (D : va_G) (cA : Nat → ClassId) : zCt false l D cA yX8_join cX8_join 4 (some .int) rmX8_join spX8_join := by
  refine zct_Q (zCX8_join [(145, 0, 1, spX8_isPart, rmX8_isPart.cells, rmX8_isPart.slots), (118, 0, 1, spX8_no, rmX8_no.cells, rmX8_no.slots)]) zpX8_join [] (by decide +kernel) zkX8_join (Or.inr (by decide +kernel)) trivial ⟨by decide +kernel, by decide +kernel⟩ (fun x ad => Nat.le_of_ble_eq_true rfl) ?_ ?_
  · intro p e s m args below meth c A H0 ad0 n0 Q F hml hNw hA hX
    exact ⟨zco_V hX hA F hml hNw (ctX8_isPart l D cA) ⟨⟨zlX8_join_145, zwX8_isPart.1.1, zwX8_isPart.1.2⟩, zwX8_isPart.2⟩ zdX8_isPart ⟨Nat.le_of_ble_eq_true rfl, Nat.le_of_ble_eq_true rfl⟩ (ci := 8) (by decide) rfl (by rintro av μ K ⟨x, rfl, rfl, -⟩; exact ⟨_, _, rfl, rfl⟩), zco_V hX hA F hml hNw (ctX8_no l D cA) ⟨⟨zlX8_join_118, zwX8_no.1.1, zwX8_no.1.2⟩, zwX8_no.2⟩ zdX8_no ⟨Nat.le_of_ble_eq_true rfl, Nat.le_of_ble_eq_true rfl⟩ (ci := 8) (by decide) rfl (by rintro av μ K ⟨⟨μ0, x9⟩, rfl, rfl, h9, -⟩; exact ⟨_, _, rfl, congrArg Prod.fst h9.1⟩), trivial⟩
  · rintro ⟨k, a, b, s1, t1, v9⟩ Ret hP hK Gl hG
    try dsimp only at hP hK
    show Gl 0 (zent 4 [.ref 119, .int k, .int a, .int b]) [] (0, 0) ((145, zSH, zRH, zmx s1, zmxL t1 v9))
    refine hG 1000 _ _ _ _ _ ?_
    repeat (conv => whnf
            try dsimp only
            try simp (decide := true) only [zu_same, zu_ne1, zu_ne2, zuL_same, zuL_ne1, zuL_ne2, zrow_n1, zx0, zx1, zx2, zx3, zf_0_13, zf_0_14, zf_0_15, zf_1_3, zf_15_0, zf_16_0, zf_17_10, zf_86_3, zf_90_6, zf_90_7, zf_94_7, zf_100_6, zf_100_7, zf_118_0, zf_118_1, zf_118_2, zf_118_3, zg_119_0, zg_119_5, zg_119_9, zg_119_15, zg_119_19, zg_119_22, zg_119_1, zg_119_16, zg_120_0, zg_120_1, zg_120_2, zg_120_3, zg_121_0, zg_122_0, zg_124_0, zg_126_0, zg_127_0, zg_128_0, zg_129_0, zg_131_0, zg_131_1, zg_131_2, zg_131_3, Nat.reduceAdd, Nat.reduceMul, Int32.reduceAdd, Int32.reduceSub, Int32.reduceMul]
            first
            | refine ⟨vp_inb rfl, ?_⟩
            | refine ⟨fun h => absurd h (of_decide_eq_false rfl), fun _ => ?_⟩
            | refine ⟨fun _ => ?_, fun h => absurd (of_decide_eq_true rfl) h⟩
            | refine ⟨fun _ => ?_, fun h => absurd h (of_decide_eq_false rfl)⟩
            | refine ⟨fun h => absurd (of_decide_eq_true rfl) h, fun _ => ?_⟩
            | refine ⟨of_decide_eq_true rfl, ?_⟩
            | refine ⟨rfl, ?_⟩)
    try (conv => whnf)
    refine ⟨(zu (zmx s1) 119 0 0, zmxL t1 v9, a), rfl, rfl, rfl, ?_⟩
    try dsimp only
    repeat (conv => whnf
            try dsimp only
            try simp (decide := true) only [zu_same, zu_ne1, zu_ne2, zuL_same, zuL_ne1, zuL_ne2, zrow_n1, zx0, zx1, zx2, zx3, zf_0_13, zf_0_14, zf_0_15, zf_1_3, zf_15_0, zf_16_0, zf_17_10, zf_86_3, zf_90_6, zf_90_7, zf_94_7, zf_100_6, zf_100_7, zf_118_0, zf_118_1, zf_118_2, zf_118_3, zg_119_0, zg_119_5, zg_119_9, zg_119_15, zg_119_19, zg_119_22, zg_119_1, zg_119_16, zg_120_0, zg_120_1, zg_120_2, zg_120_3, zg_121_0, zg_122_0, zg_124_0, zg_126_0, zg_127_0, zg_128_0, zg_129_0, zg_131_0, zg_131_1, zg_131_2, zg_131_3, Nat.reduceAdd, Nat.reduceMul, Int32.reduceAdd, Int32.reduceSub, Int32.reduceMul]
            first
            | refine ⟨vp_inb rfl, ?_⟩
            | refine ⟨fun h => absurd h (of_decide_eq_false rfl), fun _ => ?_⟩
            | refine ⟨fun _ => ?_, fun h => absurd (of_decide_eq_true rfl) h⟩
            | refine ⟨fun _ => ?_, fun h => absurd h (of_decide_eq_false rfl)⟩
            | refine ⟨fun h => absurd (of_decide_eq_true rfl) h, fun _ => ?_⟩
            | refine ⟨of_decide_eq_true rfl, ?_⟩
            | refine ⟨rfl, ?_⟩)
    try (conv => whnf)
    refine ⟨(_, 1), rfl, rfl, ⟨rfl, trivial⟩, ?_⟩
    try dsimp only
    repeat (conv => whnf
            try dsimp only
            try simp (decide := true) only [zu_same, zu_ne1, zu_ne2, zuL_same, zuL_ne1, zuL_ne2, zrow_n1, zx0, zx1, zx2, zx3, zf_0_13, zf_0_14, zf_0_15, zf_1_3, zf_15_0, zf_16_0, zf_17_10, zf_86_3, zf_90_6, zf_90_7, zf_94_7, zf_100_6, zf_100_7, zf_118_0, zf_118_1, zf_118_2, zf_118_3, zg_119_0, zg_119_5, zg_119_9, zg_119_15, zg_119_19, zg_119_22, zg_119_1, zg_119_16, zg_120_0, zg_120_1, zg_120_2, zg_120_3, zg_121_0, zg_122_0, zg_124_0, zg_126_0, zg_127_0, zg_128_0, zg_129_0, zg_131_0, zg_131_1, zg_131_2, zg_131_3, Nat.reduceAdd, Nat.reduceMul, Int32.reduceAdd, Int32.reduceSub, Int32.reduceMul]
            first
            | refine ⟨vp_inb rfl, ?_⟩
            | refine ⟨fun h => absurd h (of_decide_eq_false rfl), fun _ => ?_⟩
            | refine ⟨fun _ => ?_, fun h => absurd (of_decide_eq_true rfl) h⟩
            | refine ⟨fun _ => ?_, fun h => absurd h (of_decide_eq_false rfl)⟩
            | refine ⟨fun h => absurd (of_decide_eq_true rfl) h, fun _ => ?_⟩
            | refine ⟨of_decide_eq_true rfl, ?_⟩
            | refine ⟨rfl, ?_⟩)
    try (conv => whnf)
    exact hK _ _ ⟨rfl, rfl, rfl, rfl, rfl⟩
def spX8_when : zSp := zDQ (X := Int32 × Int32 × Int32 × zIn × zLo × Int64) (fun x => match x with | (a, b, c, s1, t1, v9) => [.ref 119, .int a, .int b, .int c]) (fun x => match x with | (a, b, c, s1, t1, v9) => (145, zSH, zRH, zmx s1, zmxL t1 v9)) (fun x => match x with | (a, b, c, s1, t1, v9) => True) (fun x r9 μ9 => match x with | (a, b, c, s1, t1, v9) => r9 = some (.int 0) ∧ zaft v9 1 μ9)
abbrev rmX8_when : Room := ({ frames := 2, cells := 0, slots := 0, locals := 43 } : Room)
set_option maxRecDepth 100000 in
set_option maxHeartbeats 4000000 in
theorem ctX8_when (l : Launch) (D : va_G) (cA : Nat → ClassId) : zCt false l D cA yX8_when cX8_when 4 (some .int) rmX8_when spX8_when := by
  refine zct_Q (zCX8_when [(145, 0, 1, spX8_isPart, rmX8_isPart.cells, rmX8_isPart.slots), (118, 0, 1, spX8_no, rmX8_no.cells, rmX8_no.slots)]) zpX8_when [] (by decide +kernel) zkX8_when (Or.inr (by decide +kernel)) trivial ⟨by decide +kernel, by decide +kernel⟩ (fun x ad => Nat.le_of_ble_eq_true rfl) ?_ ?_
  · intro p e s m args below meth c A H0 ad0 n0 Q F hml hNw hA hX
    exact ⟨zco_V hX hA F hml hNw (ctX8_isPart l D cA) ⟨⟨zlX8_when_145, zwX8_isPart.1.1, zwX8_isPart.1.2⟩, zwX8_isPart.2⟩ zdX8_isPart ⟨Nat.le_of_ble_eq_true rfl, Nat.le_of_ble_eq_true rfl⟩ (ci := 8) (by decide) rfl (by rintro av μ K ⟨x, rfl, rfl, -⟩; exact ⟨_, _, rfl, rfl⟩), zco_V hX hA F hml hNw (ctX8_no l D cA) ⟨⟨zlX8_when_118, zwX8_no.1.1, zwX8_no.1.2⟩, zwX8_no.2⟩ zdX8_no ⟨Nat.le_of_ble_eq_true rfl, Nat.le_of_ble_eq_true rfl⟩ (ci := 8) (by decide) rfl (by rintro av μ K ⟨⟨μ0, x9⟩, rfl, rfl, h9, -⟩; exact ⟨_, _, rfl, congrArg Prod.fst h9.1⟩), trivial⟩
  · rintro ⟨a, b, c, s1, t1, v9⟩ Ret hP hK Gl hG
    try dsimp only at hP hK
    show Gl 0 (zent 4 [.ref 119, .int a, .int b, .int c]) [] (0, 0) ((145, zSH, zRH, zmx s1, zmxL t1 v9))
    refine hG 1000 _ _ _ _ _ ?_
    repeat (conv => whnf
            try dsimp only
            try simp (decide := true) only [zu_same, zu_ne1, zu_ne2, zuL_same, zuL_ne1, zuL_ne2, zrow_n1, zx0, zx1, zx2, zx3, zf_0_13, zf_0_14, zf_0_15, zf_1_3, zf_15_0, zf_16_0, zf_17_10, zf_86_3, zf_90_6, zf_90_7, zf_94_7, zf_100_6, zf_100_7, zf_118_0, zf_118_1, zf_118_2, zf_118_3, zg_119_0, zg_119_5, zg_119_9, zg_119_15, zg_119_19, zg_119_22, zg_119_1, zg_119_16, zg_120_0, zg_120_1, zg_120_2, zg_120_3, zg_121_0, zg_122_0, zg_124_0, zg_126_0, zg_127_0, zg_128_0, zg_129_0, zg_131_0, zg_131_1, zg_131_2, zg_131_3, Nat.reduceAdd, Nat.reduceMul, Int32.reduceAdd, Int32.reduceSub, Int32.reduceMul]
            first
            | refine ⟨vp_inb rfl, ?_⟩
            | refine ⟨fun h => absurd h (of_decide_eq_false rfl), fun _ => ?_⟩
            | refine ⟨fun _ => ?_, fun h => absurd (of_decide_eq_true rfl) h⟩
            | refine ⟨fun _ => ?_, fun h => absurd h (of_decide_eq_false rfl)⟩
            | refine ⟨fun h => absurd (of_decide_eq_true rfl) h, fun _ => ?_⟩
            | refine ⟨of_decide_eq_true rfl, ?_⟩
            | refine ⟨rfl, ?_⟩)
    try (conv => whnf)
    refine ⟨(zu (zmx s1) 119 0 0, zmxL t1 v9, a), rfl, rfl, rfl, ?_⟩
    try dsimp only
    repeat (conv => whnf
            try dsimp only
            try simp (decide := true) only [zu_same, zu_ne1, zu_ne2, zuL_same, zuL_ne1, zuL_ne2, zrow_n1, zx0, zx1, zx2, zx3, zf_0_13, zf_0_14, zf_0_15, zf_1_3, zf_15_0, zf_16_0, zf_17_10, zf_86_3, zf_90_6, zf_90_7, zf_94_7, zf_100_6, zf_100_7, zf_118_0, zf_118_1, zf_118_2, zf_118_3, zg_119_0, zg_119_5, zg_119_9, zg_119_15, zg_119_19, zg_119_22, zg_119_1, zg_119_16, zg_120_0, zg_120_1, zg_120_2, zg_120_3, zg_121_0, zg_122_0, zg_124_0, zg_126_0, zg_127_0, zg_128_0, zg_129_0, zg_131_0, zg_131_1, zg_131_2, zg_131_3, Nat.reduceAdd, Nat.reduceMul, Int32.reduceAdd, Int32.reduceSub, Int32.reduceMul]
            first
            | refine ⟨vp_inb rfl, ?_⟩
            | refine ⟨fun h => absurd h (of_decide_eq_false rfl), fun _ => ?_⟩
            | refine ⟨fun _ => ?_, fun h => absurd (of_decide_eq_true rfl) h⟩
            | refine ⟨fun _ => ?_, fun h => absurd h (of_decide_eq_false rfl)⟩
            | refine ⟨fun h => absurd (of_decide_eq_true rfl) h, fun _ => ?_⟩
            | refine ⟨of_decide_eq_true rfl, ?_⟩
            | refine ⟨rfl, ?_⟩)
    try (conv => whnf)
    refine ⟨(_, 1), rfl, rfl, ⟨rfl, trivial⟩, ?_⟩
    try dsimp only
    repeat (conv => whnf
            try dsimp only
            try simp (decide := true) only [zu_same, zu_ne1, zu_ne2, zuL_same, zuL_ne1, zuL_ne2, zrow_n1, zx0, zx1, zx2, zx3, zf_0_13, zf_0_14, zf_0_15, zf_1_3, zf_15_0, zf_16_0, zf_17_10, zf_86_3, zf_90_6, zf_90_7, zf_94_7, zf_100_6, zf_100_7, zf_118_0, zf_118_1, zf_118_2, zf_118_3, zg_119_0, zg_119_5, zg_119_9, zg_119_15, zg_119_19, zg_119_22, zg_119_1, zg_119_16, zg_120_0, zg_120_1, zg_120_2, zg_120_3, zg_121_0, zg_122_0, zg_124_0, zg_126_0, zg_127_0, zg_128_0, zg_129_0, zg_131_0, zg_131_1, zg_131_2, zg_131_3, Nat.reduceAdd, Nat.reduceMul, Int32.reduceAdd, Int32.reduceSub, Int32.reduceMul]
            first
            | refine ⟨vp_inb rfl, ?_⟩
            | refine ⟨fun h => absurd h (of_decide_eq_false rfl), fun _ => ?_⟩
            | refine ⟨fun _ => ?_, fun h => absurd (of_decide_eq_true rfl) h⟩
            | refine ⟨fun _ => ?_, fun h => absurd h (of_decide_eq_false rfl)⟩
            | refine ⟨fun h => absurd (of_decide_eq_true rfl) h, fun _ => ?_⟩
            | refine ⟨of_decide_eq_true rfl, ?_⟩
            | refine ⟨rfl, ?_⟩)
    try (conv => whnf)
    exact hK _ _ ⟨rfl, rfl, rfl, rfl, rfl⟩
def spX8_root : zSp := zDQ (X := Int32 × zIn × zLo × Int64) (fun x => match x with | (a, s1, t1, v9) => [.ref 119, .int a]) (fun x => match x with | (a, s1, t1, v9) => (145, zSH, zRH, zmx s1, zmxL t1 v9)) (fun x => match x with | (a, s1, t1, v9) => True) (fun x r9 μ9 => match x with | (a, s1, t1, v9) => r9 = some (.int 0) ∧ zaft v9 1 μ9)
abbrev rmX8_root : Room := ({ frames := 2, cells := 0, slots := 0, locals := 43 } : Room)
set_option maxRecDepth 100000 in
set_option maxHeartbeats 4000000 in
theorem ctX8_root (l : Launch) (D : va_G) (cA : Nat → ClassId) : zCt false l D cA yX8_root cX8_root 2 (some .int) rmX8_root spX8_root := by
  refine zct_Q (zCX8_root [(145, 0, 1, spX8_isPart, rmX8_isPart.cells, rmX8_isPart.slots), (118, 0, 1, spX8_no, rmX8_no.cells, rmX8_no.slots)]) zpX8_root [] (by decide +kernel) zkX8_root (Or.inr (by decide +kernel)) trivial ⟨by decide +kernel, by decide +kernel⟩ (fun x ad => Nat.le_of_ble_eq_true rfl) ?_ ?_
  · intro p e s m args below meth c A H0 ad0 n0 Q F hml hNw hA hX
    exact ⟨zco_V hX hA F hml hNw (ctX8_isPart l D cA) ⟨⟨zlX8_root_145, zwX8_isPart.1.1, zwX8_isPart.1.2⟩, zwX8_isPart.2⟩ zdX8_isPart ⟨Nat.le_of_ble_eq_true rfl, Nat.le_of_ble_eq_true rfl⟩ (ci := 8) (by decide) rfl (by rintro av μ K ⟨x, rfl, rfl, -⟩; exact ⟨_, _, rfl, rfl⟩), zco_V hX hA F hml hNw (ctX8_no l D cA) ⟨⟨zlX8_root_118, zwX8_no.1.1, zwX8_no.1.2⟩, zwX8_no.2⟩ zdX8_no ⟨Nat.le_of_ble_eq_true rfl, Nat.le_of_ble_eq_true rfl⟩ (ci := 8) (by decide) rfl (by rintro av μ K ⟨⟨μ0, x9⟩, rfl, rfl, h9, -⟩; exact ⟨_, _, rfl, congrArg Prod.fst h9.1⟩), trivial⟩
  · rintro ⟨a, s1, t1, v9⟩ Ret hP hK Gl hG
    try dsimp only at hP hK
    show Gl 0 (zent 2 [.ref 119, .int a]) [] (0, 0) ((145, zSH, zRH, zmx s1, zmxL t1 v9))
    refine hG 1000 _ _ _ _ _ ?_
    repeat (conv => whnf
            try dsimp only
            try simp (decide := true) only [zu_same, zu_ne1, zu_ne2, zuL_same, zuL_ne1, zuL_ne2, zrow_n1, zx0, zx1, zx2, zx3, zf_0_13, zf_0_14, zf_0_15, zf_1_3, zf_15_0, zf_16_0, zf_17_10, zf_86_3, zf_90_6, zf_90_7, zf_94_7, zf_100_6, zf_100_7, zf_118_0, zf_118_1, zf_118_2, zf_118_3, zg_119_0, zg_119_5, zg_119_9, zg_119_15, zg_119_19, zg_119_22, zg_119_1, zg_119_16, zg_120_0, zg_120_1, zg_120_2, zg_120_3, zg_121_0, zg_122_0, zg_124_0, zg_126_0, zg_127_0, zg_128_0, zg_129_0, zg_131_0, zg_131_1, zg_131_2, zg_131_3, Nat.reduceAdd, Nat.reduceMul, Int32.reduceAdd, Int32.reduceSub, Int32.reduceMul]
            first
            | refine ⟨vp_inb rfl, ?_⟩
            | refine ⟨fun h => absurd h (of_decide_eq_false rfl), fun _ => ?_⟩
            | refine ⟨fun _ => ?_, fun h => absurd (of_decide_eq_true rfl) h⟩
            | refine ⟨fun _ => ?_, fun h => absurd h (of_decide_eq_false rfl)⟩
            | refine ⟨fun h => absurd (of_decide_eq_true rfl) h, fun _ => ?_⟩
            | refine ⟨of_decide_eq_true rfl, ?_⟩
            | refine ⟨rfl, ?_⟩)
    try (conv => whnf)
    refine ⟨(zu (zmx s1) 119 0 0, zmxL t1 v9, a), rfl, rfl, rfl, ?_⟩
    try dsimp only
    repeat (conv => whnf
            try dsimp only
            try simp (decide := true) only [zu_same, zu_ne1, zu_ne2, zuL_same, zuL_ne1, zuL_ne2, zrow_n1, zx0, zx1, zx2, zx3, zf_0_13, zf_0_14, zf_0_15, zf_1_3, zf_15_0, zf_16_0, zf_17_10, zf_86_3, zf_90_6, zf_90_7, zf_94_7, zf_100_6, zf_100_7, zf_118_0, zf_118_1, zf_118_2, zf_118_3, zg_119_0, zg_119_5, zg_119_9, zg_119_15, zg_119_19, zg_119_22, zg_119_1, zg_119_16, zg_120_0, zg_120_1, zg_120_2, zg_120_3, zg_121_0, zg_122_0, zg_124_0, zg_126_0, zg_127_0, zg_128_0, zg_129_0, zg_131_0, zg_131_1, zg_131_2, zg_131_3, Nat.reduceAdd, Nat.reduceMul, Int32.reduceAdd, Int32.reduceSub, Int32.reduceMul]
            first
            | refine ⟨vp_inb rfl, ?_⟩
            | refine ⟨fun h => absurd h (of_decide_eq_false rfl), fun _ => ?_⟩
            | refine ⟨fun _ => ?_, fun h => absurd (of_decide_eq_true rfl) h⟩
            | refine ⟨fun _ => ?_, fun h => absurd h (of_decide_eq_false rfl)⟩
            | refine ⟨fun h => absurd (of_decide_eq_true rfl) h, fun _ => ?_⟩
            | refine ⟨of_decide_eq_true rfl, ?_⟩
            | refine ⟨rfl, ?_⟩)
    try (conv => whnf)
    refine ⟨(_, 1), rfl, rfl, ⟨rfl, trivial⟩, ?_⟩
    try dsimp only
    repeat (conv => whnf
            try dsimp only
            try simp (decide := true) only [zu_same, zu_ne1, zu_ne2, zuL_same, zuL_ne1, zuL_ne2, zrow_n1, zx0, zx1, zx2, zx3, zf_0_13, zf_0_14, zf_0_15, zf_1_3, zf_15_0, zf_16_0, zf_17_10, zf_86_3, zf_90_6, zf_90_7, zf_94_7, zf_100_6, zf_100_7, zf_118_0, zf_118_1, zf_118_2, zf_118_3, zg_119_0, zg_119_5, zg_119_9, zg_119_15, zg_119_19, zg_119_22, zg_119_1, zg_119_16, zg_120_0, zg_120_1, zg_120_2, zg_120_3, zg_121_0, zg_122_0, zg_124_0, zg_126_0, zg_127_0, zg_128_0, zg_129_0, zg_131_0, zg_131_1, zg_131_2, zg_131_3, Nat.reduceAdd, Nat.reduceMul, Int32.reduceAdd, Int32.reduceSub, Int32.reduceMul]
            first
            | refine ⟨vp_inb rfl, ?_⟩
            | refine ⟨fun h => absurd h (of_decide_eq_false rfl), fun _ => ?_⟩
            | refine ⟨fun _ => ?_, fun h => absurd (of_decide_eq_true rfl) h⟩
            | refine ⟨fun _ => ?_, fun h => absurd h (of_decide_eq_false rfl)⟩
            | refine ⟨fun h => absurd (of_decide_eq_true rfl) h, fun _ => ?_⟩
            | refine ⟨of_decide_eq_true rfl, ?_⟩
            | refine ⟨rfl, ?_⟩)
    try (conv => whnf)
    exact hK _ _ ⟨rfl, rfl, rfl, rfl, rfl⟩
def spX8_define : zSp := zDQ (X := Int32 × Int32 × zIn × zLo × Int64) (fun x => match x with | (v, p, s1, t1, v9) => [.ref 119, .int v, .int p]) (fun x => match x with | (v, p, s1, t1, v9) => (145, zSH, zRH, zmx s1, zmxL t1 v9)) (fun x => match x with | (v, p, s1, t1, v9) => True) (fun x r9 μ9 => match x with | (v, p, s1, t1, v9) => r9 = some (.int 0) ∧ zaft v9 1 μ9)
abbrev rmX8_define : Room := ({ frames := 2, cells := 0, slots := 0, locals := 43 } : Room)
set_option maxRecDepth 100000 in
set_option maxHeartbeats 4000000 in
theorem ctX8_define (l : Launch) (D : va_G) (cA : Nat → ClassId) : zCt false l D cA yX8_define cX8_define 4 (some .int) rmX8_define spX8_define := by
  refine zct_Q (zCX8_define [(142, 0, 1, spX8_isVariable, rmX8_isVariable.cells, rmX8_isVariable.slots), (118, 0, 1, spX8_no, rmX8_no.cells, rmX8_no.slots)]) zpX8_define [] (by decide +kernel) zkX8_define (Or.inr (by decide +kernel)) trivial ⟨by decide +kernel, by decide +kernel⟩ (fun x ad => Nat.le_of_ble_eq_true rfl) ?_ ?_
  · intro p e s m args below meth c A H0 ad0 n0 Q F hml hNw hA hX
    exact ⟨zco_V hX hA F hml hNw (ctX8_isVariable l D cA) ⟨⟨zlX8_define_142, zwX8_isVariable.1.1, zwX8_isVariable.1.2⟩, zwX8_isVariable.2⟩ zdX8_isVariable ⟨Nat.le_of_ble_eq_true rfl, Nat.le_of_ble_eq_true rfl⟩ (ci := 8) (by decide) rfl (by rintro av μ K ⟨x, rfl, rfl, -⟩; exact ⟨_, _, rfl, rfl⟩), zco_V hX hA F hml hNw (ctX8_no l D cA) ⟨⟨zlX8_define_118, zwX8_no.1.1, zwX8_no.1.2⟩, zwX8_no.2⟩ zdX8_no ⟨Nat.le_of_ble_eq_true rfl, Nat.le_of_ble_eq_true rfl⟩ (ci := 8) (by decide) rfl (by rintro av μ K ⟨⟨μ0, x9⟩, rfl, rfl, h9, -⟩; exact ⟨_, _, rfl, congrArg Prod.fst h9.1⟩), trivial⟩
  · rintro ⟨v, p, s1, t1, v9⟩ Ret hP hK Gl hG
    try dsimp only at hP hK
    show Gl 0 (zent 4 [.ref 119, .int v, .int p]) [] (0, 0) ((145, zSH, zRH, zmx s1, zmxL t1 v9))
    refine hG 1000 _ _ _ _ _ ?_
    repeat (conv => whnf
            try dsimp only
            try simp (decide := true) only [zu_same, zu_ne1, zu_ne2, zuL_same, zuL_ne1, zuL_ne2, zrow_n1, zx0, zx1, zx2, zx3, zf_0_13, zf_0_14, zf_0_15, zf_1_3, zf_15_0, zf_16_0, zf_17_10, zf_86_3, zf_90_6, zf_90_7, zf_94_7, zf_100_6, zf_100_7, zf_118_0, zf_118_1, zf_118_2, zf_118_3, zg_119_0, zg_119_5, zg_119_9, zg_119_15, zg_119_19, zg_119_22, zg_119_1, zg_119_16, zg_120_0, zg_120_1, zg_120_2, zg_120_3, zg_121_0, zg_122_0, zg_124_0, zg_126_0, zg_127_0, zg_128_0, zg_129_0, zg_131_0, zg_131_1, zg_131_2, zg_131_3, Nat.reduceAdd, Nat.reduceMul, Int32.reduceAdd, Int32.reduceSub, Int32.reduceMul]
            first
            | refine ⟨vp_inb rfl, ?_⟩
            | refine ⟨fun h => absurd h (of_decide_eq_false rfl), fun _ => ?_⟩
            | refine ⟨fun _ => ?_, fun h => absurd (of_decide_eq_true rfl) h⟩
            | refine ⟨fun _ => ?_, fun h => absurd h (of_decide_eq_false rfl)⟩
            | refine ⟨fun h => absurd (of_decide_eq_true rfl) h, fun _ => ?_⟩
            | refine ⟨of_decide_eq_true rfl, ?_⟩
            | refine ⟨rfl, ?_⟩)
    try (conv => whnf)
    refine ⟨(zu (zmx s1) 119 0 0, zmxL t1 v9, v), rfl, rfl, rfl, ?_⟩
    try dsimp only
    repeat (conv => whnf
            try dsimp only
            try simp (decide := true) only [zu_same, zu_ne1, zu_ne2, zuL_same, zuL_ne1, zuL_ne2, zrow_n1, zx0, zx1, zx2, zx3, zf_0_13, zf_0_14, zf_0_15, zf_1_3, zf_15_0, zf_16_0, zf_17_10, zf_86_3, zf_90_6, zf_90_7, zf_94_7, zf_100_6, zf_100_7, zf_118_0, zf_118_1, zf_118_2, zf_118_3, zg_119_0, zg_119_5, zg_119_9, zg_119_15, zg_119_19, zg_119_22, zg_119_1, zg_119_16, zg_120_0, zg_120_1, zg_120_2, zg_120_3, zg_121_0, zg_122_0, zg_124_0, zg_126_0, zg_127_0, zg_128_0, zg_129_0, zg_131_0, zg_131_1, zg_131_2, zg_131_3, Nat.reduceAdd, Nat.reduceMul, Int32.reduceAdd, Int32.reduceSub, Int32.reduceMul]
            first
            | refine ⟨vp_inb rfl, ?_⟩
            | refine ⟨fun h => absurd h (of_decide_eq_false rfl), fun _ => ?_⟩
            | refine ⟨fun _ => ?_, fun h => absurd (of_decide_eq_true rfl) h⟩
            | refine ⟨fun _ => ?_, fun h => absurd h (of_decide_eq_false rfl)⟩
            | refine ⟨fun h => absurd (of_decide_eq_true rfl) h, fun _ => ?_⟩
            | refine ⟨of_decide_eq_true rfl, ?_⟩
            | refine ⟨rfl, ?_⟩)
    try (conv => whnf)
    refine ⟨(_, 1), rfl, rfl, ⟨rfl, trivial⟩, ?_⟩
    try dsimp only
    repeat (conv => whnf
            try dsimp only
            try simp (decide := true) only [zu_same, zu_ne1, zu_ne2, zuL_same, zuL_ne1, zuL_ne2, zrow_n1, zx0, zx1, zx2, zx3, zf_0_13, zf_0_14, zf_0_15, zf_1_3, zf_15_0, zf_16_0, zf_17_10, zf_86_3, zf_90_6, zf_90_7, zf_94_7, zf_100_6, zf_100_7, zf_118_0, zf_118_1, zf_118_2, zf_118_3, zg_119_0, zg_119_5, zg_119_9, zg_119_15, zg_119_19, zg_119_22, zg_119_1, zg_119_16, zg_120_0, zg_120_1, zg_120_2, zg_120_3, zg_121_0, zg_122_0, zg_124_0, zg_126_0, zg_127_0, zg_128_0, zg_129_0, zg_131_0, zg_131_1, zg_131_2, zg_131_3, Nat.reduceAdd, Nat.reduceMul, Int32.reduceAdd, Int32.reduceSub, Int32.reduceMul]
            first
            | refine ⟨vp_inb rfl, ?_⟩
            | refine ⟨fun h => absurd h (of_decide_eq_false rfl), fun _ => ?_⟩
            | refine ⟨fun _ => ?_, fun h => absurd (of_decide_eq_true rfl) h⟩
            | refine ⟨fun _ => ?_, fun h => absurd h (of_decide_eq_false rfl)⟩
            | refine ⟨fun h => absurd (of_decide_eq_true rfl) h, fun _ => ?_⟩
            | refine ⟨of_decide_eq_true rfl, ?_⟩
            | refine ⟨rfl, ?_⟩)
    try (conv => whnf)
    exact hK _ _ ⟨rfl, rfl, rfl, rfl, rfl⟩
def spX8_set : zSp := zDQ (X := Int32 × Int32 × zIn × zLo × Int64) (fun x => match x with | (v, n, s1, t1, v9) => [.ref 119, .int v, .int n]) (fun x => match x with | (v, n, s1, t1, v9) => (145, zSH, zRH, zmx s1, zmxL t1 v9)) (fun x => match x with | (v, n, s1, t1, v9) => True) (fun x r9 μ9 => match x with | (v, n, s1, t1, v9) => r9 = some (.int 0) ∧ zaft v9 1 μ9)
abbrev rmX8_set : Room := ({ frames := 2, cells := 0, slots := 0, locals := 43 } : Room)
set_option maxRecDepth 100000 in
set_option maxHeartbeats 4000000 in
theorem ctX8_set (l : Launch) (D : va_G) (cA : Nat → ClassId) : zCt false l D cA yX8_set cX8_set 3 (some .int) rmX8_set spX8_set := by
  refine zct_Q (zCX8_set [(142, 0, 1, spX8_isVariable, rmX8_isVariable.cells, rmX8_isVariable.slots), (118, 0, 1, spX8_no, rmX8_no.cells, rmX8_no.slots)]) zpX8_set [] (by decide +kernel) zkX8_set (Or.inr (by decide +kernel)) trivial ⟨by decide +kernel, by decide +kernel⟩ (fun x ad => Nat.le_of_ble_eq_true rfl) ?_ ?_
  · intro p e s m args below meth c A H0 ad0 n0 Q F hml hNw hA hX
    exact ⟨zco_V hX hA F hml hNw (ctX8_isVariable l D cA) ⟨⟨zlX8_set_142, zwX8_isVariable.1.1, zwX8_isVariable.1.2⟩, zwX8_isVariable.2⟩ zdX8_isVariable ⟨Nat.le_of_ble_eq_true rfl, Nat.le_of_ble_eq_true rfl⟩ (ci := 8) (by decide) rfl (by rintro av μ K ⟨x, rfl, rfl, -⟩; exact ⟨_, _, rfl, rfl⟩), zco_V hX hA F hml hNw (ctX8_no l D cA) ⟨⟨zlX8_set_118, zwX8_no.1.1, zwX8_no.1.2⟩, zwX8_no.2⟩ zdX8_no ⟨Nat.le_of_ble_eq_true rfl, Nat.le_of_ble_eq_true rfl⟩ (ci := 8) (by decide) rfl (by rintro av μ K ⟨⟨μ0, x9⟩, rfl, rfl, h9, -⟩; exact ⟨_, _, rfl, congrArg Prod.fst h9.1⟩), trivial⟩
  · rintro ⟨v, n, s1, t1, v9⟩ Ret hP hK Gl hG
    try dsimp only at hP hK
    show Gl 0 (zent 3 [.ref 119, .int v, .int n]) [] (0, 0) ((145, zSH, zRH, zmx s1, zmxL t1 v9))
    refine hG 1000 _ _ _ _ _ ?_
    repeat (conv => whnf
            try dsimp only
            try simp (decide := true) only [zu_same, zu_ne1, zu_ne2, zuL_same, zuL_ne1, zuL_ne2, zrow_n1, zx0, zx1, zx2, zx3, zf_0_13, zf_0_14, zf_0_15, zf_1_3, zf_15_0, zf_16_0, zf_17_10, zf_86_3, zf_90_6, zf_90_7, zf_94_7, zf_100_6, zf_100_7, zf_118_0, zf_118_1, zf_118_2, zf_118_3, zg_119_0, zg_119_5, zg_119_9, zg_119_15, zg_119_19, zg_119_22, zg_119_1, zg_119_16, zg_120_0, zg_120_1, zg_120_2, zg_120_3, zg_121_0, zg_122_0, zg_124_0, zg_126_0, zg_127_0, zg_128_0, zg_129_0, zg_131_0, zg_131_1, zg_131_2, zg_131_3, Nat.reduceAdd, Nat.reduceMul, Int32.reduceAdd, Int32.reduceSub, Int32.reduceMul]
            first
            | refine ⟨vp_inb rfl, ?_⟩
            | refine ⟨fun h => absurd h (of_decide_eq_false rfl), fun _ => ?_⟩
            | refine ⟨fun _ => ?_, fun h => absurd (of_decide_eq_true rfl) h⟩
            | refine ⟨fun _ => ?_, fun h => absurd h (of_decide_eq_false rfl)⟩
            | refine ⟨fun h => absurd (of_decide_eq_true rfl) h, fun _ => ?_⟩
            | refine ⟨of_decide_eq_true rfl, ?_⟩
            | refine ⟨rfl, ?_⟩)
    try (conv => whnf)
    refine ⟨(zu (zmx s1) 119 0 0, zmxL t1 v9, v), rfl, rfl, rfl, ?_⟩
    try dsimp only
    repeat (conv => whnf
            try dsimp only
            try simp (decide := true) only [zu_same, zu_ne1, zu_ne2, zuL_same, zuL_ne1, zuL_ne2, zrow_n1, zx0, zx1, zx2, zx3, zf_0_13, zf_0_14, zf_0_15, zf_1_3, zf_15_0, zf_16_0, zf_17_10, zf_86_3, zf_90_6, zf_90_7, zf_94_7, zf_100_6, zf_100_7, zf_118_0, zf_118_1, zf_118_2, zf_118_3, zg_119_0, zg_119_5, zg_119_9, zg_119_15, zg_119_19, zg_119_22, zg_119_1, zg_119_16, zg_120_0, zg_120_1, zg_120_2, zg_120_3, zg_121_0, zg_122_0, zg_124_0, zg_126_0, zg_127_0, zg_128_0, zg_129_0, zg_131_0, zg_131_1, zg_131_2, zg_131_3, Nat.reduceAdd, Nat.reduceMul, Int32.reduceAdd, Int32.reduceSub, Int32.reduceMul]
            first
            | refine ⟨vp_inb rfl, ?_⟩
            | refine ⟨fun h => absurd h (of_decide_eq_false rfl), fun _ => ?_⟩
            | refine ⟨fun _ => ?_, fun h => absurd (of_decide_eq_true rfl) h⟩
            | refine ⟨fun _ => ?_, fun h => absurd h (of_decide_eq_false rfl)⟩
            | refine ⟨fun h => absurd (of_decide_eq_true rfl) h, fun _ => ?_⟩
            | refine ⟨of_decide_eq_true rfl, ?_⟩
            | refine ⟨rfl, ?_⟩)
    try (conv => whnf)
    refine ⟨(_, 1), rfl, rfl, ⟨rfl, trivial⟩, ?_⟩
    try dsimp only
    repeat (conv => whnf
            try dsimp only
            try simp (decide := true) only [zu_same, zu_ne1, zu_ne2, zuL_same, zuL_ne1, zuL_ne2, zrow_n1, zx0, zx1, zx2, zx3, zf_0_13, zf_0_14, zf_0_15, zf_1_3, zf_15_0, zf_16_0, zf_17_10, zf_86_3, zf_90_6, zf_90_7, zf_94_7, zf_100_6, zf_100_7, zf_118_0, zf_118_1, zf_118_2, zf_118_3, zg_119_0, zg_119_5, zg_119_9, zg_119_15, zg_119_19, zg_119_22, zg_119_1, zg_119_16, zg_120_0, zg_120_1, zg_120_2, zg_120_3, zg_121_0, zg_122_0, zg_124_0, zg_126_0, zg_127_0, zg_128_0, zg_129_0, zg_131_0, zg_131_1, zg_131_2, zg_131_3, Nat.reduceAdd, Nat.reduceMul, Int32.reduceAdd, Int32.reduceSub, Int32.reduceMul]
            first
            | refine ⟨vp_inb rfl, ?_⟩
            | refine ⟨fun h => absurd h (of_decide_eq_false rfl), fun _ => ?_⟩
            | refine ⟨fun _ => ?_, fun h => absurd (of_decide_eq_true rfl) h⟩
            | refine ⟨fun _ => ?_, fun h => absurd h (of_decide_eq_false rfl)⟩
            | refine ⟨fun h => absurd (of_decide_eq_true rfl) h, fun _ => ?_⟩
            | refine ⟨of_decide_eq_true rfl, ?_⟩
            | refine ⟨rfl, ?_⟩)
    try (conv => whnf)
    exact hK _ _ ⟨rfl, rfl, rfl, rfl, rfl⟩
def spX8_exponent : zSp := zDQ (X := Int32 × Int32 × zIn × zLo × Int64) (fun x => match x with | (p, d, s1, t1, v9) => [.ref 119, .int p, .int d]) (fun x => match x with | (p, d, s1, t1, v9) => (145, zSH, zRH, zmx s1, zmxL t1 v9)) (fun x => match x with | (p, d, s1, t1, v9) => True) (fun x r9 μ9 => match x with | (p, d, s1, t1, v9) => r9 = some (.int 0) ∧ zaft v9 1 μ9)
abbrev rmX8_exponent : Room := ({ frames := 2, cells := 0, slots := 0, locals := 43 } : Room)
set_option maxRecDepth 100000 in
set_option maxHeartbeats 4000000 in
theorem ctX8_exponent (l : Launch) (D : va_G) (cA : Nat → ClassId) : zCt false l D cA yX8_exponent cX8_exponent 3 (some .int) rmX8_exponent spX8_exponent := by
  refine zct_Q (zCX8_exponent [(145, 0, 1, spX8_isPart, rmX8_isPart.cells, rmX8_isPart.slots), (118, 0, 1, spX8_no, rmX8_no.cells, rmX8_no.slots)]) zpX8_exponent [] (by decide +kernel) zkX8_exponent (Or.inr (by decide +kernel)) trivial ⟨by decide +kernel, by decide +kernel⟩ (fun x ad => Nat.le_of_ble_eq_true rfl) ?_ ?_
  · intro p e s m args below meth c A H0 ad0 n0 Q F hml hNw hA hX
    exact ⟨zco_V hX hA F hml hNw (ctX8_isPart l D cA) ⟨⟨zlX8_exponent_145, zwX8_isPart.1.1, zwX8_isPart.1.2⟩, zwX8_isPart.2⟩ zdX8_isPart ⟨Nat.le_of_ble_eq_true rfl, Nat.le_of_ble_eq_true rfl⟩ (ci := 8) (by decide) rfl (by rintro av μ K ⟨x, rfl, rfl, -⟩; exact ⟨_, _, rfl, rfl⟩), zco_V hX hA F hml hNw (ctX8_no l D cA) ⟨⟨zlX8_exponent_118, zwX8_no.1.1, zwX8_no.1.2⟩, zwX8_no.2⟩ zdX8_no ⟨Nat.le_of_ble_eq_true rfl, Nat.le_of_ble_eq_true rfl⟩ (ci := 8) (by decide) rfl (by rintro av μ K ⟨⟨μ0, x9⟩, rfl, rfl, h9, -⟩; exact ⟨_, _, rfl, congrArg Prod.fst h9.1⟩), trivial⟩
  · rintro ⟨p, d, s1, t1, v9⟩ Ret hP hK Gl hG
    try dsimp only at hP hK
    show Gl 0 (zent 3 [.ref 119, .int p, .int d]) [] (0, 0) ((145, zSH, zRH, zmx s1, zmxL t1 v9))
    refine hG 1000 _ _ _ _ _ ?_
    repeat (conv => whnf
            try dsimp only
            try simp (decide := true) only [zu_same, zu_ne1, zu_ne2, zuL_same, zuL_ne1, zuL_ne2, zrow_n1, zx0, zx1, zx2, zx3, zf_0_13, zf_0_14, zf_0_15, zf_1_3, zf_15_0, zf_16_0, zf_17_10, zf_86_3, zf_90_6, zf_90_7, zf_94_7, zf_100_6, zf_100_7, zf_118_0, zf_118_1, zf_118_2, zf_118_3, zg_119_0, zg_119_5, zg_119_9, zg_119_15, zg_119_19, zg_119_22, zg_119_1, zg_119_16, zg_120_0, zg_120_1, zg_120_2, zg_120_3, zg_121_0, zg_122_0, zg_124_0, zg_126_0, zg_127_0, zg_128_0, zg_129_0, zg_131_0, zg_131_1, zg_131_2, zg_131_3, Nat.reduceAdd, Nat.reduceMul, Int32.reduceAdd, Int32.reduceSub, Int32.reduceMul]
            first
            | refine ⟨vp_inb rfl, ?_⟩
            | refine ⟨fun h => absurd h (of_decide_eq_false rfl), fun _ => ?_⟩
            | refine ⟨fun _ => ?_, fun h => absurd (of_decide_eq_true rfl) h⟩
            | refine ⟨fun _ => ?_, fun h => absurd h (of_decide_eq_false rfl)⟩
            | refine ⟨fun h => absurd (of_decide_eq_true rfl) h, fun _ => ?_⟩
            | refine ⟨of_decide_eq_true rfl, ?_⟩
            | refine ⟨rfl, ?_⟩)
    try (conv => whnf)
    refine ⟨(zu (zmx s1) 119 0 0, zmxL t1 v9, p), rfl, rfl, rfl, ?_⟩
    try dsimp only
    repeat (conv => whnf
            try dsimp only
            try simp (decide := true) only [zu_same, zu_ne1, zu_ne2, zuL_same, zuL_ne1, zuL_ne2, zrow_n1, zx0, zx1, zx2, zx3, zf_0_13, zf_0_14, zf_0_15, zf_1_3, zf_15_0, zf_16_0, zf_17_10, zf_86_3, zf_90_6, zf_90_7, zf_94_7, zf_100_6, zf_100_7, zf_118_0, zf_118_1, zf_118_2, zf_118_3, zg_119_0, zg_119_5, zg_119_9, zg_119_15, zg_119_19, zg_119_22, zg_119_1, zg_119_16, zg_120_0, zg_120_1, zg_120_2, zg_120_3, zg_121_0, zg_122_0, zg_124_0, zg_126_0, zg_127_0, zg_128_0, zg_129_0, zg_131_0, zg_131_1, zg_131_2, zg_131_3, Nat.reduceAdd, Nat.reduceMul, Int32.reduceAdd, Int32.reduceSub, Int32.reduceMul]
            first
            | refine ⟨vp_inb rfl, ?_⟩
            | refine ⟨fun h => absurd h (of_decide_eq_false rfl), fun _ => ?_⟩
            | refine ⟨fun _ => ?_, fun h => absurd (of_decide_eq_true rfl) h⟩
            | refine ⟨fun _ => ?_, fun h => absurd h (of_decide_eq_false rfl)⟩
            | refine ⟨fun h => absurd (of_decide_eq_true rfl) h, fun _ => ?_⟩
            | refine ⟨of_decide_eq_true rfl, ?_⟩
            | refine ⟨rfl, ?_⟩)
    try (conv => whnf)
    refine ⟨(_, 1), rfl, rfl, ⟨rfl, trivial⟩, ?_⟩
    try dsimp only
    repeat (conv => whnf
            try dsimp only
            try simp (decide := true) only [zu_same, zu_ne1, zu_ne2, zuL_same, zuL_ne1, zuL_ne2, zrow_n1, zx0, zx1, zx2, zx3, zf_0_13, zf_0_14, zf_0_15, zf_1_3, zf_15_0, zf_16_0, zf_17_10, zf_86_3, zf_90_6, zf_90_7, zf_94_7, zf_100_6, zf_100_7, zf_118_0, zf_118_1, zf_118_2, zf_118_3, zg_119_0, zg_119_5, zg_119_9, zg_119_15, zg_119_19, zg_119_22, zg_119_1, zg_119_16, zg_120_0, zg_120_1, zg_120_2, zg_120_3, zg_121_0, zg_122_0, zg_124_0, zg_126_0, zg_127_0, zg_128_0, zg_129_0, zg_131_0, zg_131_1, zg_131_2, zg_131_3, Nat.reduceAdd, Nat.reduceMul, Int32.reduceAdd, Int32.reduceSub, Int32.reduceMul]
            first
            | refine ⟨vp_inb rfl, ?_⟩
            | refine ⟨fun h => absurd h (of_decide_eq_false rfl), fun _ => ?_⟩
            | refine ⟨fun _ => ?_, fun h => absurd (of_decide_eq_true rfl) h⟩
            | refine ⟨fun _ => ?_, fun h => absurd h (of_decide_eq_false rfl)⟩
            | refine ⟨fun h => absurd (of_decide_eq_true rfl) h, fun _ => ?_⟩
            | refine ⟨of_decide_eq_true rfl, ?_⟩
            | refine ⟨rfl, ?_⟩)
    try (conv => whnf)
    exact hK _ _ ⟨rfl, rfl, rfl, rfl, rfl⟩
def spX8_leansOn : zSp := zDQ (X := Int32 × zIn × zLo × Int64) (fun x => match x with | (v, s1, t1, v9) => [.ref 119, .int v]) (fun x => match x with | (v, s1, t1, v9) => (145, zSH, zRH, zmx s1, zmxL t1 v9)) (fun x => match x with | (v, s1, t1, v9) => True) (fun x r9 μ9 => match x with | (v, s1, t1, v9) => r9 = some (.int 0) ∧ zaft v9 1 μ9)
abbrev rmX8_leansOn : Room := ({ frames := 2, cells := 0, slots := 0, locals := 43 } : Room)
set_option maxRecDepth 100000 in
set_option maxHeartbeats 4000000 in
theorem ctX8_leansOn (l : Launch) (D : va_G) (cA : Nat → ClassId) : zCt false l D cA yX8_leansOn cX8_leansOn 2 (some .int) rmX8_leansOn spX8_leansOn := by
  refine zct_Q (zCX8_leansOn [(142, 0, 1, spX8_isVariable, rmX8_isVariable.cells, rmX8_isVariable.slots), (118, 0, 1, spX8_no, rmX8_no.cells, rmX8_no.slots)]) zpX8_leansOn [] (by decide +kernel) zkX8_leansOn (Or.inr (by decide +kernel)) trivial ⟨by decide +kernel, by decide +kernel⟩ (fun x ad => Nat.le_of_ble_eq_true rfl) ?_ ?_
  · intro p e s m args below meth c A H0 ad0 n0 Q F hml hNw hA hX
    exact ⟨zco_V hX hA F hml hNw (ctX8_isVariable l D cA) ⟨⟨zlX8_leansOn_142, zwX8_isVariable.1.1, zwX8_isVariable.1.2⟩, zwX8_isVariable.2⟩ zdX8_isVariable ⟨Nat.le_of_ble_eq_true rfl, Nat.le_of_ble_eq_true rfl⟩ (ci := 8) (by decide) rfl (by rintro av μ K ⟨x, rfl, rfl, -⟩; exact ⟨_, _, rfl, rfl⟩), zco_V hX hA F hml hNw (ctX8_no l D cA) ⟨⟨zlX8_leansOn_118, zwX8_no.1.1, zwX8_no.1.2⟩, zwX8_no.2⟩ zdX8_no ⟨Nat.le_of_ble_eq_true rfl, Nat.le_of_ble_eq_true rfl⟩ (ci := 8) (by decide) rfl (by rintro av μ K ⟨⟨μ0, x9⟩, rfl, rfl, h9, -⟩; exact ⟨_, _, rfl, congrArg Prod.fst h9.1⟩), trivial⟩
  · rintro ⟨v, s1, t1, v9⟩ Ret hP hK Gl hG
    try dsimp only at hP hK
    show Gl 0 (zent 2 [.ref 119, .int v]) [] (0, 0) ((145, zSH, zRH, zmx s1, zmxL t1 v9))
    refine hG 1000 _ _ _ _ _ ?_
    repeat (conv => whnf
            try dsimp only
            try simp (decide := true) only [zu_same, zu_ne1, zu_ne2, zuL_same, zuL_ne1, zuL_ne2, zrow_n1, zx0, zx1, zx2, zx3, zf_0_13, zf_0_14, zf_0_15, zf_1_3, zf_15_0, zf_16_0, zf_17_10, zf_86_3, zf_90_6, zf_90_7, zf_94_7, zf_100_6, zf_100_7, zf_118_0, zf_118_1, zf_118_2, zf_118_3, zg_119_0, zg_119_5, zg_119_9, zg_119_15, zg_119_19, zg_119_22, zg_119_1, zg_119_16, zg_120_0, zg_120_1, zg_120_2, zg_120_3, zg_121_0, zg_122_0, zg_124_0, zg_126_0, zg_127_0, zg_128_0, zg_129_0, zg_131_0, zg_131_1, zg_131_2, zg_131_3, Nat.reduceAdd, Nat.reduceMul, Int32.reduceAdd, Int32.reduceSub, Int32.reduceMul]
            first
            | refine ⟨vp_inb rfl, ?_⟩
            | refine ⟨fun h => absurd h (of_decide_eq_false rfl), fun _ => ?_⟩
            | refine ⟨fun _ => ?_, fun h => absurd (of_decide_eq_true rfl) h⟩
            | refine ⟨fun _ => ?_, fun h => absurd h (of_decide_eq_false rfl)⟩
            | refine ⟨fun h => absurd (of_decide_eq_true rfl) h, fun _ => ?_⟩
            | refine ⟨of_decide_eq_true rfl, ?_⟩
            | refine ⟨rfl, ?_⟩)
    try (conv => whnf)
    refine ⟨(zu (zmx s1) 119 0 0, zmxL t1 v9, v), rfl, rfl, rfl, ?_⟩
    try dsimp only
    repeat (conv => whnf
            try dsimp only
            try simp (decide := true) only [zu_same, zu_ne1, zu_ne2, zuL_same, zuL_ne1, zuL_ne2, zrow_n1, zx0, zx1, zx2, zx3, zf_0_13, zf_0_14, zf_0_15, zf_1_3, zf_15_0, zf_16_0, zf_17_10, zf_86_3, zf_90_6, zf_90_7, zf_94_7, zf_100_6, zf_100_7, zf_118_0, zf_118_1, zf_118_2, zf_118_3, zg_119_0, zg_119_5, zg_119_9, zg_119_15, zg_119_19, zg_119_22, zg_119_1, zg_119_16, zg_120_0, zg_120_1, zg_120_2, zg_120_3, zg_121_0, zg_122_0, zg_124_0, zg_126_0, zg_127_0, zg_128_0, zg_129_0, zg_131_0, zg_131_1, zg_131_2, zg_131_3, Nat.reduceAdd, Nat.reduceMul, Int32.reduceAdd, Int32.reduceSub, Int32.reduceMul]
            first
            | refine ⟨vp_inb rfl, ?_⟩
            | refine ⟨fun h => absurd h (of_decide_eq_false rfl), fun _ => ?_⟩
            | refine ⟨fun _ => ?_, fun h => absurd (of_decide_eq_true rfl) h⟩
            | refine ⟨fun _ => ?_, fun h => absurd h (of_decide_eq_false rfl)⟩
            | refine ⟨fun h => absurd (of_decide_eq_true rfl) h, fun _ => ?_⟩
            | refine ⟨of_decide_eq_true rfl, ?_⟩
            | refine ⟨rfl, ?_⟩)
    try (conv => whnf)
    refine ⟨(_, 1), rfl, rfl, ⟨rfl, trivial⟩, ?_⟩
    try dsimp only
    repeat (conv => whnf
            try dsimp only
            try simp (decide := true) only [zu_same, zu_ne1, zu_ne2, zuL_same, zuL_ne1, zuL_ne2, zrow_n1, zx0, zx1, zx2, zx3, zf_0_13, zf_0_14, zf_0_15, zf_1_3, zf_15_0, zf_16_0, zf_17_10, zf_86_3, zf_90_6, zf_90_7, zf_94_7, zf_100_6, zf_100_7, zf_118_0, zf_118_1, zf_118_2, zf_118_3, zg_119_0, zg_119_5, zg_119_9, zg_119_15, zg_119_19, zg_119_22, zg_119_1, zg_119_16, zg_120_0, zg_120_1, zg_120_2, zg_120_3, zg_121_0, zg_122_0, zg_124_0, zg_126_0, zg_127_0, zg_128_0, zg_129_0, zg_131_0, zg_131_1, zg_131_2, zg_131_3, Nat.reduceAdd, Nat.reduceMul, Int32.reduceAdd, Int32.reduceSub, Int32.reduceMul]
            first
            | refine ⟨vp_inb rfl, ?_⟩
            | refine ⟨fun h => absurd h (of_decide_eq_false rfl), fun _ => ?_⟩
            | refine ⟨fun _ => ?_, fun h => absurd (of_decide_eq_true rfl) h⟩
            | refine ⟨fun _ => ?_, fun h => absurd h (of_decide_eq_false rfl)⟩
            | refine ⟨fun h => absurd (of_decide_eq_true rfl) h, fun _ => ?_⟩
            | refine ⟨of_decide_eq_true rfl, ?_⟩
            | refine ⟨rfl, ?_⟩)
    try (conv => whnf)
    exact hK _ _ ⟨rfl, rfl, rfl, rfl, rfl⟩
def spX8_amount : zSp := zDQ (X := Int32 × zIn × zLo × Int64) (fun x => match x with | (v, s1, t1, v9) => [.ref 119, .int v]) (fun x => match x with | (v, s1, t1, v9) => (145, zSH, zRH, zmx s1, zmxL t1 v9)) (fun x => match x with | (v, s1, t1, v9) => True) (fun x r9 μ9 => match x with | (v, s1, t1, v9) => r9 = some (.int 0) ∧ zaft v9 1 μ9)
abbrev rmX8_amount : Room := ({ frames := 2, cells := 0, slots := 0, locals := 43 } : Room)
set_option maxRecDepth 100000 in
set_option maxHeartbeats 4000000 in
theorem ctX8_amount (l : Launch) (D : va_G) (cA : Nat → ClassId) : zCt false l D cA yX8_amount cX8_amount 2 (some .int) rmX8_amount spX8_amount := by
  refine zct_Q (zCX8_amount [(142, 0, 1, spX8_isVariable, rmX8_isVariable.cells, rmX8_isVariable.slots), (118, 0, 1, spX8_no, rmX8_no.cells, rmX8_no.slots)]) zpX8_amount [] (by decide +kernel) zkX8_amount (Or.inr (by decide +kernel)) trivial ⟨by decide +kernel, by decide +kernel⟩ (fun x ad => Nat.le_of_ble_eq_true rfl) ?_ ?_
  · intro p e s m args below meth c A H0 ad0 n0 Q F hml hNw hA hX
    exact ⟨zco_V hX hA F hml hNw (ctX8_isVariable l D cA) ⟨⟨zlX8_amount_142, zwX8_isVariable.1.1, zwX8_isVariable.1.2⟩, zwX8_isVariable.2⟩ zdX8_isVariable ⟨Nat.le_of_ble_eq_true rfl, Nat.le_of_ble_eq_true rfl⟩ (ci := 8) (by decide) rfl (by rintro av μ K ⟨x, rfl, rfl, -⟩; exact ⟨_, _, rfl, rfl⟩), zco_V hX hA F hml hNw (ctX8_no l D cA) ⟨⟨zlX8_amount_118, zwX8_no.1.1, zwX8_no.1.2⟩, zwX8_no.2⟩ zdX8_no ⟨Nat.le_of_ble_eq_true rfl, Nat.le_of_ble_eq_true rfl⟩ (ci := 8) (by decide) rfl (by rintro av μ K ⟨⟨μ0, x9⟩, rfl, rfl, h9, -⟩; exact ⟨_, _, rfl, congrArg Prod.fst h9.1⟩), trivial⟩
  · rintro ⟨v, s1, t1, v9⟩ Ret hP hK Gl hG
    try dsimp only at hP hK
    show Gl 0 (zent 2 [.ref 119, .int v]) [] (0, 0) ((145, zSH, zRH, zmx s1, zmxL t1 v9))
    refine hG 1000 _ _ _ _ _ ?_
    repeat (conv => whnf
            try dsimp only
            try simp (decide := true) only [zu_same, zu_ne1, zu_ne2, zuL_same, zuL_ne1, zuL_ne2, zrow_n1, zx0, zx1, zx2, zx3, zf_0_13, zf_0_14, zf_0_15, zf_1_3, zf_15_0, zf_16_0, zf_17_10, zf_86_3, zf_90_6, zf_90_7, zf_94_7, zf_100_6, zf_100_7, zf_118_0, zf_118_1, zf_118_2, zf_118_3, zg_119_0, zg_119_5, zg_119_9, zg_119_15, zg_119_19, zg_119_22, zg_119_1, zg_119_16, zg_120_0, zg_120_1, zg_120_2, zg_120_3, zg_121_0, zg_122_0, zg_124_0, zg_126_0, zg_127_0, zg_128_0, zg_129_0, zg_131_0, zg_131_1, zg_131_2, zg_131_3, Nat.reduceAdd, Nat.reduceMul, Int32.reduceAdd, Int32.reduceSub, Int32.reduceMul]
            first
            | refine ⟨vp_inb rfl, ?_⟩
            | refine ⟨fun h => absurd h (of_decide_eq_false rfl), fun _ => ?_⟩
            | refine ⟨fun _ => ?_, fun h => absurd (of_decide_eq_true rfl) h⟩
            | refine ⟨fun _ => ?_, fun h => absurd h (of_decide_eq_false rfl)⟩
            | refine ⟨fun h => absurd (of_decide_eq_true rfl) h, fun _ => ?_⟩
            | refine ⟨of_decide_eq_true rfl, ?_⟩
            | refine ⟨rfl, ?_⟩)
    try (conv => whnf)
    refine ⟨(zu (zmx s1) 119 0 0, zmxL t1 v9, v), rfl, rfl, rfl, ?_⟩
    try dsimp only
    repeat (conv => whnf
            try dsimp only
            try simp (decide := true) only [zu_same, zu_ne1, zu_ne2, zuL_same, zuL_ne1, zuL_ne2, zrow_n1, zx0, zx1, zx2, zx3, zf_0_13, zf_0_14, zf_0_15, zf_1_3, zf_15_0, zf_16_0, zf_17_10, zf_86_3, zf_90_6, zf_90_7, zf_94_7, zf_100_6, zf_100_7, zf_118_0, zf_118_1, zf_118_2, zf_118_3, zg_119_0, zg_119_5, zg_119_9, zg_119_15, zg_119_19, zg_119_22, zg_119_1, zg_119_16, zg_120_0, zg_120_1, zg_120_2, zg_120_3, zg_121_0, zg_122_0, zg_124_0, zg_126_0, zg_127_0, zg_128_0, zg_129_0, zg_131_0, zg_131_1, zg_131_2, zg_131_3, Nat.reduceAdd, Nat.reduceMul, Int32.reduceAdd, Int32.reduceSub, Int32.reduceMul]
            first
            | refine ⟨vp_inb rfl, ?_⟩
            | refine ⟨fun h => absurd h (of_decide_eq_false rfl), fun _ => ?_⟩
            | refine ⟨fun _ => ?_, fun h => absurd (of_decide_eq_true rfl) h⟩
            | refine ⟨fun _ => ?_, fun h => absurd h (of_decide_eq_false rfl)⟩
            | refine ⟨fun h => absurd (of_decide_eq_true rfl) h, fun _ => ?_⟩
            | refine ⟨of_decide_eq_true rfl, ?_⟩
            | refine ⟨rfl, ?_⟩)
    try (conv => whnf)
    refine ⟨(_, 1), rfl, rfl, ⟨rfl, trivial⟩, ?_⟩
    try dsimp only
    repeat (conv => whnf
            try dsimp only
            try simp (decide := true) only [zu_same, zu_ne1, zu_ne2, zuL_same, zuL_ne1, zuL_ne2, zrow_n1, zx0, zx1, zx2, zx3, zf_0_13, zf_0_14, zf_0_15, zf_1_3, zf_15_0, zf_16_0, zf_17_10, zf_86_3, zf_90_6, zf_90_7, zf_94_7, zf_100_6, zf_100_7, zf_118_0, zf_118_1, zf_118_2, zf_118_3, zg_119_0, zg_119_5, zg_119_9, zg_119_15, zg_119_19, zg_119_22, zg_119_1, zg_119_16, zg_120_0, zg_120_1, zg_120_2, zg_120_3, zg_121_0, zg_122_0, zg_124_0, zg_126_0, zg_127_0, zg_128_0, zg_129_0, zg_131_0, zg_131_1, zg_131_2, zg_131_3, Nat.reduceAdd, Nat.reduceMul, Int32.reduceAdd, Int32.reduceSub, Int32.reduceMul]
            first
            | refine ⟨vp_inb rfl, ?_⟩
            | refine ⟨fun h => absurd h (of_decide_eq_false rfl), fun _ => ?_⟩
            | refine ⟨fun _ => ?_, fun h => absurd (of_decide_eq_true rfl) h⟩
            | refine ⟨fun _ => ?_, fun h => absurd h (of_decide_eq_false rfl)⟩
            | refine ⟨fun h => absurd (of_decide_eq_true rfl) h, fun _ => ?_⟩
            | refine ⟨of_decide_eq_true rfl, ?_⟩
            | refine ⟨rfl, ?_⟩)
    try (conv => whnf)
    exact hK _ _ ⟨rfl, rfl, rfl, rfl, rfl⟩
def spX8_amountIn : zSp := zDQ (X := Int32 × Int32 × zIn × zLo × Int64) (fun x => match x with | (v, u, s1, t1, v9) => [.ref 119, .int v, .int u]) (fun x => match x with | (v, u, s1, t1, v9) => (145, zSH, zRH, zmx s1, zmxL t1 v9)) (fun x => match x with | (v, u, s1, t1, v9) => True) (fun x r9 μ9 => match x with | (v, u, s1, t1, v9) => r9 = some (.int 0) ∧ zaft v9 1 μ9)
abbrev rmX8_amountIn : Room := ({ frames := 2, cells := 0, slots := 0, locals := 43 } : Room)
set_option maxRecDepth 100000 in
set_option maxHeartbeats 4000000 in
theorem ctX8_amountIn (l : Launch) (D : va_G) (cA : Nat → ClassId) : zCt false l D cA yX8_amountIn cX8_amountIn 4 (some .int) rmX8_amountIn spX8_amountIn := by
  refine zct_Q (zCX8_amountIn [(142, 0, 1, spX8_isVariable, rmX8_isVariable.cells, rmX8_isVariable.slots), (118, 0, 1, spX8_no, rmX8_no.cells, rmX8_no.slots)]) zpX8_amountIn [] (by decide +kernel) zkX8_amountIn (Or.inr (by decide +kernel)) trivial ⟨by decide +kernel, by decide +kernel⟩ (fun x ad => Nat.le_of_ble_eq_true rfl) ?_ ?_
  · intro p e s m args below meth c A H0 ad0 n0 Q F hml hNw hA hX
    exact ⟨zco_V hX hA F hml hNw (ctX8_isVariable l D cA) ⟨⟨zlX8_amountIn_142, zwX8_isVariable.1.1, zwX8_isVariable.1.2⟩, zwX8_isVariable.2⟩ zdX8_isVariable ⟨Nat.le_of_ble_eq_true rfl, Nat.le_of_ble_eq_true rfl⟩ (ci := 8) (by decide) rfl (by rintro av μ K ⟨x, rfl, rfl, -⟩; exact ⟨_, _, rfl, rfl⟩), zco_V hX hA F hml hNw (ctX8_no l D cA) ⟨⟨zlX8_amountIn_118, zwX8_no.1.1, zwX8_no.1.2⟩, zwX8_no.2⟩ zdX8_no ⟨Nat.le_of_ble_eq_true rfl, Nat.le_of_ble_eq_true rfl⟩ (ci := 8) (by decide) rfl (by rintro av μ K ⟨⟨μ0, x9⟩, rfl, rfl, h9, -⟩; exact ⟨_, _, rfl, congrArg Prod.fst h9.1⟩), trivial⟩
  · rintro ⟨v, u, s1, t1, v9⟩ Ret hP hK Gl hG
    try dsimp only at hP hK
    show Gl 0 (zent 4 [.ref 119, .int v, .int u]) [] (0, 0) ((145, zSH, zRH, zmx s1, zmxL t1 v9))
    refine hG 1000 _ _ _ _ _ ?_
    repeat (conv => whnf
            try dsimp only
            try simp (decide := true) only [zu_same, zu_ne1, zu_ne2, zuL_same, zuL_ne1, zuL_ne2, zrow_n1, zx0, zx1, zx2, zx3, zf_0_13, zf_0_14, zf_0_15, zf_1_3, zf_15_0, zf_16_0, zf_17_10, zf_86_3, zf_90_6, zf_90_7, zf_94_7, zf_100_6, zf_100_7, zf_118_0, zf_118_1, zf_118_2, zf_118_3, zg_119_0, zg_119_5, zg_119_9, zg_119_15, zg_119_19, zg_119_22, zg_119_1, zg_119_16, zg_120_0, zg_120_1, zg_120_2, zg_120_3, zg_121_0, zg_122_0, zg_124_0, zg_126_0, zg_127_0, zg_128_0, zg_129_0, zg_131_0, zg_131_1, zg_131_2, zg_131_3, Nat.reduceAdd, Nat.reduceMul, Int32.reduceAdd, Int32.reduceSub, Int32.reduceMul]
            first
            | refine ⟨vp_inb rfl, ?_⟩
            | refine ⟨fun h => absurd h (of_decide_eq_false rfl), fun _ => ?_⟩
            | refine ⟨fun _ => ?_, fun h => absurd (of_decide_eq_true rfl) h⟩
            | refine ⟨fun _ => ?_, fun h => absurd h (of_decide_eq_false rfl)⟩
            | refine ⟨fun h => absurd (of_decide_eq_true rfl) h, fun _ => ?_⟩
            | refine ⟨of_decide_eq_true rfl, ?_⟩
            | refine ⟨rfl, ?_⟩)
    try (conv => whnf)
    refine ⟨(zu (zmx s1) 119 0 0, zmxL t1 v9, v), rfl, rfl, rfl, ?_⟩
    try dsimp only
    repeat (conv => whnf
            try dsimp only
            try simp (decide := true) only [zu_same, zu_ne1, zu_ne2, zuL_same, zuL_ne1, zuL_ne2, zrow_n1, zx0, zx1, zx2, zx3, zf_0_13, zf_0_14, zf_0_15, zf_1_3, zf_15_0, zf_16_0, zf_17_10, zf_86_3, zf_90_6, zf_90_7, zf_94_7, zf_100_6, zf_100_7, zf_118_0, zf_118_1, zf_118_2, zf_118_3, zg_119_0, zg_119_5, zg_119_9, zg_119_15, zg_119_19, zg_119_22, zg_119_1, zg_119_16, zg_120_0, zg_120_1, zg_120_2, zg_120_3, zg_121_0, zg_122_0, zg_124_0, zg_126_0, zg_127_0, zg_128_0, zg_129_0, zg_131_0, zg_131_1, zg_131_2, zg_131_3, Nat.reduceAdd, Nat.reduceMul, Int32.reduceAdd, Int32.reduceSub, Int32.reduceMul]
            first
            | refine ⟨vp_inb rfl, ?_⟩
            | refine ⟨fun h => absurd h (of_decide_eq_false rfl), fun _ => ?_⟩
            | refine ⟨fun _ => ?_, fun h => absurd (of_decide_eq_true rfl) h⟩
            | refine ⟨fun _ => ?_, fun h => absurd h (of_decide_eq_false rfl)⟩
            | refine ⟨fun h => absurd (of_decide_eq_true rfl) h, fun _ => ?_⟩
            | refine ⟨of_decide_eq_true rfl, ?_⟩
            | refine ⟨rfl, ?_⟩)
    try (conv => whnf)
    refine ⟨(_, 1), rfl, rfl, ⟨rfl, trivial⟩, ?_⟩
    try dsimp only
    repeat (conv => whnf
            try dsimp only
            try simp (decide := true) only [zu_same, zu_ne1, zu_ne2, zuL_same, zuL_ne1, zuL_ne2, zrow_n1, zx0, zx1, zx2, zx3, zf_0_13, zf_0_14, zf_0_15, zf_1_3, zf_15_0, zf_16_0, zf_17_10, zf_86_3, zf_90_6, zf_90_7, zf_94_7, zf_100_6, zf_100_7, zf_118_0, zf_118_1, zf_118_2, zf_118_3, zg_119_0, zg_119_5, zg_119_9, zg_119_15, zg_119_19, zg_119_22, zg_119_1, zg_119_16, zg_120_0, zg_120_1, zg_120_2, zg_120_3, zg_121_0, zg_122_0, zg_124_0, zg_126_0, zg_127_0, zg_128_0, zg_129_0, zg_131_0, zg_131_1, zg_131_2, zg_131_3, Nat.reduceAdd, Nat.reduceMul, Int32.reduceAdd, Int32.reduceSub, Int32.reduceMul]
            first
            | refine ⟨vp_inb rfl, ?_⟩
            | refine ⟨fun h => absurd h (of_decide_eq_false rfl), fun _ => ?_⟩
            | refine ⟨fun _ => ?_, fun h => absurd (of_decide_eq_true rfl) h⟩
            | refine ⟨fun _ => ?_, fun h => absurd h (of_decide_eq_false rfl)⟩
            | refine ⟨fun h => absurd (of_decide_eq_true rfl) h, fun _ => ?_⟩
            | refine ⟨of_decide_eq_true rfl, ?_⟩
            | refine ⟨rfl, ?_⟩)
    try (conv => whnf)
    exact hK _ _ ⟨rfl, rfl, rfl, rfl, rfl⟩
def spX8_worth : zSp := zDQ (X := Int32 × zIn × zLo × Int64) (fun x => match x with | (p, s1, t1, v9) => [.ref 119, .int p]) (fun x => match x with | (p, s1, t1, v9) => (145, zSH, zRH, zmx s1, zmxL t1 v9)) (fun x => match x with | (p, s1, t1, v9) => True) (fun x r9 μ9 => match x with | (p, s1, t1, v9) => r9 = some (.int 0) ∧ zaft v9 1 μ9)
abbrev rmX8_worth : Room := ({ frames := 2, cells := 0, slots := 0, locals := 43 } : Room)
set_option maxRecDepth 100000 in
set_option maxHeartbeats 4000000 in
theorem ctX8_worth (l : Launch) (D : va_G) (cA : Nat → ClassId) : zCt false l D cA yX8_worth cX8_worth 2 (some .int) rmX8_worth spX8_worth := by
  refine zct_Q (zCX8_worth [(145, 0, 1, spX8_isPart, rmX8_isPart.cells, rmX8_isPart.slots), (118, 0, 1, spX8_no, rmX8_no.cells, rmX8_no.slots)]) zpX8_worth [] (by decide +kernel) zkX8_worth (Or.inr (by decide +kernel)) trivial ⟨by decide +kernel, by decide +kernel⟩ (fun x ad => Nat.le_of_ble_eq_true rfl) ?_ ?_
  · intro p e s m args below meth c A H0 ad0 n0 Q F hml hNw hA hX
    exact ⟨zco_V hX hA F hml hNw (ctX8_isPart l D cA) ⟨⟨zlX8_worth_145, zwX8_isPart.1.1, zwX8_isPart.1.2⟩, zwX8_isPart.2⟩ zdX8_isPart ⟨Nat.le_of_ble_eq_true rfl, Nat.le_of_ble_eq_true rfl⟩ (ci := 8) (by decide) rfl (by rintro av μ K ⟨x, rfl, rfl, -⟩; exact ⟨_, _, rfl, rfl⟩), zco_V hX hA F hml hNw (ctX8_no l D cA) ⟨⟨zlX8_worth_118, zwX8_no.1.1, zwX8_no.1.2⟩, zwX8_no.2⟩ zdX8_no ⟨Nat.le_of_ble_eq_true rfl, Nat.le_of_ble_eq_true rfl⟩ (ci := 8) (by decide) rfl (by rintro av μ K ⟨⟨μ0, x9⟩, rfl, rfl, h9, -⟩; exact ⟨_, _, rfl, congrArg Prod.fst h9.1⟩), trivial⟩
  · rintro ⟨p, s1, t1, v9⟩ Ret hP hK Gl hG
    try dsimp only at hP hK
    show Gl 0 (zent 2 [.ref 119, .int p]) [] (0, 0) ((145, zSH, zRH, zmx s1, zmxL t1 v9))
    refine hG 1000 _ _ _ _ _ ?_
    repeat (conv => whnf
            try dsimp only
            try simp (decide := true) only [zu_same, zu_ne1, zu_ne2, zuL_same, zuL_ne1, zuL_ne2, zrow_n1, zx0, zx1, zx2, zx3, zf_0_13, zf_0_14, zf_0_15, zf_1_3, zf_15_0, zf_16_0, zf_17_10, zf_86_3, zf_90_6, zf_90_7, zf_94_7, zf_100_6, zf_100_7, zf_118_0, zf_118_1, zf_118_2, zf_118_3, zg_119_0, zg_119_5, zg_119_9, zg_119_15, zg_119_19, zg_119_22, zg_119_1, zg_119_16, zg_120_0, zg_120_1, zg_120_2, zg_120_3, zg_121_0, zg_122_0, zg_124_0, zg_126_0, zg_127_0, zg_128_0, zg_129_0, zg_131_0, zg_131_1, zg_131_2, zg_131_3, Nat.reduceAdd, Nat.reduceMul, Int32.reduceAdd, Int32.reduceSub, Int32.reduceMul]
            first
            | refine ⟨vp_inb rfl, ?_⟩
            | refine ⟨fun h => absurd h (of_decide_eq_false rfl), fun _ => ?_⟩
            | refine ⟨fun _ => ?_, fun h => absurd (of_decide_eq_true rfl) h⟩
            | refine ⟨fun _ => ?_, fun h => absurd h (of_decide_eq_false rfl)⟩
            | refine ⟨fun h => absurd (of_decide_eq_true rfl) h, fun _ => ?_⟩
            | refine ⟨of_decide_eq_true rfl, ?_⟩
            | refine ⟨rfl, ?_⟩)
    try (conv => whnf)
    refine ⟨(zu (zmx s1) 119 0 0, zmxL t1 v9, p), rfl, rfl, rfl, ?_⟩
    try dsimp only
    repeat (conv => whnf
            try dsimp only
            try simp (decide := true) only [zu_same, zu_ne1, zu_ne2, zuL_same, zuL_ne1, zuL_ne2, zrow_n1, zx0, zx1, zx2, zx3, zf_0_13, zf_0_14, zf_0_15, zf_1_3, zf_15_0, zf_16_0, zf_17_10, zf_86_3, zf_90_6, zf_90_7, zf_94_7, zf_100_6, zf_100_7, zf_118_0, zf_118_1, zf_118_2, zf_118_3, zg_119_0, zg_119_5, zg_119_9, zg_119_15, zg_119_19, zg_119_22, zg_119_1, zg_119_16, zg_120_0, zg_120_1, zg_120_2, zg_120_3, zg_121_0, zg_122_0, zg_124_0, zg_126_0, zg_127_0, zg_128_0, zg_129_0, zg_131_0, zg_131_1, zg_131_2, zg_131_3, Nat.reduceAdd, Nat.reduceMul, Int32.reduceAdd, Int32.reduceSub, Int32.reduceMul]
            first
            | refine ⟨vp_inb rfl, ?_⟩
            | refine ⟨fun h => absurd h (of_decide_eq_false rfl), fun _ => ?_⟩
            | refine ⟨fun _ => ?_, fun h => absurd (of_decide_eq_true rfl) h⟩
            | refine ⟨fun _ => ?_, fun h => absurd h (of_decide_eq_false rfl)⟩
            | refine ⟨fun h => absurd (of_decide_eq_true rfl) h, fun _ => ?_⟩
            | refine ⟨of_decide_eq_true rfl, ?_⟩
            | refine ⟨rfl, ?_⟩)
    try (conv => whnf)
    refine ⟨(_, 1), rfl, rfl, ⟨rfl, trivial⟩, ?_⟩
    try dsimp only
    repeat (conv => whnf
            try dsimp only
            try simp (decide := true) only [zu_same, zu_ne1, zu_ne2, zuL_same, zuL_ne1, zuL_ne2, zrow_n1, zx0, zx1, zx2, zx3, zf_0_13, zf_0_14, zf_0_15, zf_1_3, zf_15_0, zf_16_0, zf_17_10, zf_86_3, zf_90_6, zf_90_7, zf_94_7, zf_100_6, zf_100_7, zf_118_0, zf_118_1, zf_118_2, zf_118_3, zg_119_0, zg_119_5, zg_119_9, zg_119_15, zg_119_19, zg_119_22, zg_119_1, zg_119_16, zg_120_0, zg_120_1, zg_120_2, zg_120_3, zg_121_0, zg_122_0, zg_124_0, zg_126_0, zg_127_0, zg_128_0, zg_129_0, zg_131_0, zg_131_1, zg_131_2, zg_131_3, Nat.reduceAdd, Nat.reduceMul, Int32.reduceAdd, Int32.reduceSub, Int32.reduceMul]
            first
            | refine ⟨vp_inb rfl, ?_⟩
            | refine ⟨fun h => absurd h (of_decide_eq_false rfl), fun _ => ?_⟩
            | refine ⟨fun _ => ?_, fun h => absurd (of_decide_eq_true rfl) h⟩
            | refine ⟨fun _ => ?_, fun h => absurd h (of_decide_eq_false rfl)⟩
            | refine ⟨fun h => absurd (of_decide_eq_true rfl) h, fun _ => ?_⟩
            | refine ⟨of_decide_eq_true rfl, ?_⟩
            | refine ⟨rfl, ?_⟩)
    try (conv => whnf)
    exact hK _ _ ⟨rfl, rfl, rfl, rfl, rfl⟩
def spX8_movedBy : zSp := zDQ (X := Int32 × zIn × zLo × Int64) (fun x => match x with | (v, s1, t1, v9) => [.ref 119, .int v]) (fun x => match x with | (v, s1, t1, v9) => (145, zSH, zRH, zmx s1, zmxL t1 v9)) (fun x => match x with | (v, s1, t1, v9) => True) (fun x r9 μ9 => match x with | (v, s1, t1, v9) => r9 = some (.int 0) ∧ zaft v9 1 μ9)
abbrev rmX8_movedBy : Room := ({ frames := 2, cells := 0, slots := 0, locals := 43 } : Room)
set_option maxRecDepth 100000 in
set_option maxHeartbeats 4000000 in
theorem ctX8_movedBy (l : Launch) (D : va_G) (cA : Nat → ClassId) : zCt false l D cA yX8_movedBy cX8_movedBy 2 (some .int) rmX8_movedBy spX8_movedBy := by
  refine zct_Q (zCX8_movedBy [(142, 0, 1, spX8_isVariable, rmX8_isVariable.cells, rmX8_isVariable.slots), (118, 0, 1, spX8_no, rmX8_no.cells, rmX8_no.slots)]) zpX8_movedBy [] (by decide +kernel) zkX8_movedBy (Or.inr (by decide +kernel)) trivial ⟨by decide +kernel, by decide +kernel⟩ (fun x ad => Nat.le_of_ble_eq_true rfl) ?_ ?_
  · intro p e s m args below meth c A H0 ad0 n0 Q F hml hNw hA hX
    exact ⟨zco_V hX hA F hml hNw (ctX8_isVariable l D cA) ⟨⟨zlX8_movedBy_142, zwX8_isVariable.1.1, zwX8_isVariable.1.2⟩, zwX8_isVariable.2⟩ zdX8_isVariable ⟨Nat.le_of_ble_eq_true rfl, Nat.le_of_ble_eq_true rfl⟩ (ci := 8) (by decide) rfl (by rintro av μ K ⟨x, rfl, rfl, -⟩; exact ⟨_, _, rfl, rfl⟩), zco_V hX hA F hml hNw (ctX8_no l D cA) ⟨⟨zlX8_movedBy_118, zwX8_no.1.1, zwX8_no.1.2⟩, zwX8_no.2⟩ zdX8_no ⟨Nat.le_of_ble_eq_true rfl, Nat.le_of_ble_eq_true rfl⟩ (ci := 8) (by decide) rfl (by rintro av μ K ⟨⟨μ0, x9⟩, rfl, rfl, h9, -⟩; exact ⟨_, _, rfl, congrArg Prod.fst h9.1⟩), trivial⟩
  · rintro ⟨v, s1, t1, v9⟩ Ret hP hK Gl hG
    try dsimp only at hP hK
    show Gl 0 (zent 2 [.ref 119, .int v]) [] (0, 0) ((145, zSH, zRH, zmx s1, zmxL t1 v9))
    refine hG 1000 _ _ _ _ _ ?_
    repeat (conv => whnf
            try dsimp only
            try simp (decide := true) only [zu_same, zu_ne1, zu_ne2, zuL_same, zuL_ne1, zuL_ne2, zrow_n1, zx0, zx1, zx2, zx3, zf_0_13, zf_0_14, zf_0_15, zf_1_3, zf_15_0, zf_16_0, zf_17_10, zf_86_3, zf_90_6, zf_90_7, zf_94_7, zf_100_6, zf_100_7, zf_118_0, zf_118_1, zf_118_2, zf_118_3, zg_119_0, zg_119_5, zg_119_9, zg_119_15, zg_119_19, zg_119_22, zg_119_1, zg_119_16, zg_120_0, zg_120_1, zg_120_2, zg_120_3, zg_121_0, zg_122_0, zg_124_0, zg_126_0, zg_127_0, zg_128_0, zg_129_0, zg_131_0, zg_131_1, zg_131_2, zg_131_3, Nat.reduceAdd, Nat.reduceMul, Int32.reduceAdd, Int32.reduceSub, Int32.reduceMul]
            first
            | refine ⟨vp_inb rfl, ?_⟩
            | refine ⟨fun h => absurd h (of_decide_eq_false rfl), fun _ => ?_⟩
            | refine ⟨fun _ => ?_, fun h => absurd (of_decide_eq_true rfl) h⟩
            | refine ⟨fun _ => ?_, fun h => absurd h (of_decide_eq_false rfl)⟩
            | refine ⟨fun h => absurd (of_decide_eq_true rfl) h, fun _ => ?_⟩
            | refine ⟨of_decide_eq_true rfl, ?_⟩
            | refine ⟨rfl, ?_⟩)
    try (conv => whnf)
    refine ⟨(zu (zmx s1) 119 0 0, zmxL t1 v9, v), rfl, rfl, rfl, ?_⟩
    try dsimp only
    repeat (conv => whnf
            try dsimp only
            try simp (decide := true) only [zu_same, zu_ne1, zu_ne2, zuL_same, zuL_ne1, zuL_ne2, zrow_n1, zx0, zx1, zx2, zx3, zf_0_13, zf_0_14, zf_0_15, zf_1_3, zf_15_0, zf_16_0, zf_17_10, zf_86_3, zf_90_6, zf_90_7, zf_94_7, zf_100_6, zf_100_7, zf_118_0, zf_118_1, zf_118_2, zf_118_3, zg_119_0, zg_119_5, zg_119_9, zg_119_15, zg_119_19, zg_119_22, zg_119_1, zg_119_16, zg_120_0, zg_120_1, zg_120_2, zg_120_3, zg_121_0, zg_122_0, zg_124_0, zg_126_0, zg_127_0, zg_128_0, zg_129_0, zg_131_0, zg_131_1, zg_131_2, zg_131_3, Nat.reduceAdd, Nat.reduceMul, Int32.reduceAdd, Int32.reduceSub, Int32.reduceMul]
            first
            | refine ⟨vp_inb rfl, ?_⟩
            | refine ⟨fun h => absurd h (of_decide_eq_false rfl), fun _ => ?_⟩
            | refine ⟨fun _ => ?_, fun h => absurd (of_decide_eq_true rfl) h⟩
            | refine ⟨fun _ => ?_, fun h => absurd h (of_decide_eq_false rfl)⟩
            | refine ⟨fun h => absurd (of_decide_eq_true rfl) h, fun _ => ?_⟩
            | refine ⟨of_decide_eq_true rfl, ?_⟩
            | refine ⟨rfl, ?_⟩)
    try (conv => whnf)
    refine ⟨(_, 1), rfl, rfl, ⟨rfl, trivial⟩, ?_⟩
    try dsimp only
    repeat (conv => whnf
            try dsimp only
            try simp (decide := true) only [zu_same, zu_ne1, zu_ne2, zuL_same, zuL_ne1, zuL_ne2, zrow_n1, zx0, zx1, zx2, zx3, zf_0_13, zf_0_14, zf_0_15, zf_1_3, zf_15_0, zf_16_0, zf_17_10, zf_86_3, zf_90_6, zf_90_7, zf_94_7, zf_100_6, zf_100_7, zf_118_0, zf_118_1, zf_118_2, zf_118_3, zg_119_0, zg_119_5, zg_119_9, zg_119_15, zg_119_19, zg_119_22, zg_119_1, zg_119_16, zg_120_0, zg_120_1, zg_120_2, zg_120_3, zg_121_0, zg_122_0, zg_124_0, zg_126_0, zg_127_0, zg_128_0, zg_129_0, zg_131_0, zg_131_1, zg_131_2, zg_131_3, Nat.reduceAdd, Nat.reduceMul, Int32.reduceAdd, Int32.reduceSub, Int32.reduceMul]
            first
            | refine ⟨vp_inb rfl, ?_⟩
            | refine ⟨fun h => absurd h (of_decide_eq_false rfl), fun _ => ?_⟩
            | refine ⟨fun _ => ?_, fun h => absurd (of_decide_eq_true rfl) h⟩
            | refine ⟨fun _ => ?_, fun h => absurd h (of_decide_eq_false rfl)⟩
            | refine ⟨fun h => absurd (of_decide_eq_true rfl) h, fun _ => ?_⟩
            | refine ⟨of_decide_eq_true rfl, ?_⟩
            | refine ⟨rfl, ?_⟩)
    try (conv => whnf)
    exact hK _ _ ⟨rfl, rfl, rfl, rfl, rfl⟩
def spX8_faultsWith : zSp := zDQ (X := Int32 × Int32 × zIn × zLo × Int64) (fun x => match x with | (v, p, s1, t1, v9) => [.ref 119, .int v, .int p]) (fun x => match x with | (v, p, s1, t1, v9) => (145, zSH, zRH, zmx s1, zmxL t1 v9)) (fun x => match x with | (v, p, s1, t1, v9) => True) (fun x r9 μ9 => match x with | (v, p, s1, t1, v9) => r9 = some (.int 0) ∧ zaft v9 1 μ9)
abbrev rmX8_faultsWith : Room := ({ frames := 2, cells := 0, slots := 0, locals := 43 } : Room)
set_option maxRecDepth 100000 in
set_option maxHeartbeats 4000000 in
theorem ctX8_faultsWith (l : Launch) (D : va_G) (cA : Nat → ClassId) : zCt false l D cA yX8_faultsWith cX8_faultsWith 4 (some .int) rmX8_faultsWith spX8_faultsWith := by
  refine zct_Q (zCX8_faultsWith [(142, 0, 1, spX8_isVariable, rmX8_isVariable.cells, rmX8_isVariable.slots), (118, 0, 1, spX8_no, rmX8_no.cells, rmX8_no.slots)]) zpX8_faultsWith [] (by decide +kernel) zkX8_faultsWith (Or.inr (by decide +kernel)) trivial ⟨by decide +kernel, by decide +kernel⟩ (fun x ad => Nat.le_of_ble_eq_true rfl) ?_ ?_
  · intro p e s m args below meth c A H0 ad0 n0 Q F hml hNw hA hX
    exact ⟨zco_V hX hA F hml hNw (ctX8_isVariable l D cA) ⟨⟨zlX8_faultsWith_142, zwX8_isVariable.1.1, zwX8_isVariable.1.2⟩, zwX8_isVariable.2⟩ zdX8_isVariable ⟨Nat.le_of_ble_eq_true rfl, Nat.le_of_ble_eq_true rfl⟩ (ci := 8) (by decide) rfl (by rintro av μ K ⟨x, rfl, rfl, -⟩; exact ⟨_, _, rfl, rfl⟩), zco_V hX hA F hml hNw (ctX8_no l D cA) ⟨⟨zlX8_faultsWith_118, zwX8_no.1.1, zwX8_no.1.2⟩, zwX8_no.2⟩ zdX8_no ⟨Nat.le_of_ble_eq_true rfl, Nat.le_of_ble_eq_true rfl⟩ (ci := 8) (by decide) rfl (by rintro av μ K ⟨⟨μ0, x9⟩, rfl, rfl, h9, -⟩; exact ⟨_, _, rfl, congrArg Prod.fst h9.1⟩), trivial⟩
  · rintro ⟨v, p, s1, t1, v9⟩ Ret hP hK Gl hG
    try dsimp only at hP hK
    show Gl 0 (zent 4 [.ref 119, .int v, .int p]) [] (0, 0) ((145, zSH, zRH, zmx s1, zmxL t1 v9))
    refine hG 1000 _ _ _ _ _ ?_
    repeat (conv => whnf
            try dsimp only
            try simp (decide := true) only [zu_same, zu_ne1, zu_ne2, zuL_same, zuL_ne1, zuL_ne2, zrow_n1, zx0, zx1, zx2, zx3, zf_0_13, zf_0_14, zf_0_15, zf_1_3, zf_15_0, zf_16_0, zf_17_10, zf_86_3, zf_90_6, zf_90_7, zf_94_7, zf_100_6, zf_100_7, zf_118_0, zf_118_1, zf_118_2, zf_118_3, zg_119_0, zg_119_5, zg_119_9, zg_119_15, zg_119_19, zg_119_22, zg_119_1, zg_119_16, zg_120_0, zg_120_1, zg_120_2, zg_120_3, zg_121_0, zg_122_0, zg_124_0, zg_126_0, zg_127_0, zg_128_0, zg_129_0, zg_131_0, zg_131_1, zg_131_2, zg_131_3, Nat.reduceAdd, Nat.reduceMul, Int32.reduceAdd, Int32.reduceSub, Int32.reduceMul]
            first
            | refine ⟨vp_inb rfl, ?_⟩
            | refine ⟨fun h => absurd h (of_decide_eq_false rfl), fun _ => ?_⟩
            | refine ⟨fun _ => ?_, fun h => absurd (of_decide_eq_true rfl) h⟩
            | refine ⟨fun _ => ?_, fun h => absurd h (of_decide_eq_false rfl)⟩
            | refine ⟨fun h => absurd (of_decide_eq_true rfl) h, fun _ => ?_⟩
            | refine ⟨of_decide_eq_true rfl, ?_⟩
            | refine ⟨rfl, ?_⟩)
    try (conv => whnf)
    refine ⟨(zu (zmx s1) 119 0 0, zmxL t1 v9, v), rfl, rfl, rfl, ?_⟩
    try dsimp only
    repeat (conv => whnf
            try dsimp only
            try simp (decide := true) only [zu_same, zu_ne1, zu_ne2, zuL_same, zuL_ne1, zuL_ne2, zrow_n1, zx0, zx1, zx2, zx3, zf_0_13, zf_0_14, zf_0_15, zf_1_3, zf_15_0, zf_16_0, zf_17_10, zf_86_3, zf_90_6, zf_90_7, zf_94_7, zf_100_6, zf_100_7, zf_118_0, zf_118_1, zf_118_2, zf_118_3, zg_119_0, zg_119_5, zg_119_9, zg_119_15, zg_119_19, zg_119_22, zg_119_1, zg_119_16, zg_120_0, zg_120_1, zg_120_2, zg_120_3, zg_121_0, zg_122_0, zg_124_0, zg_126_0, zg_127_0, zg_128_0, zg_129_0, zg_131_0, zg_131_1, zg_131_2, zg_131_3, Nat.reduceAdd, Nat.reduceMul, Int32.reduceAdd, Int32.reduceSub, Int32.reduceMul]
            first
            | refine ⟨vp_inb rfl, ?_⟩
            | refine ⟨fun h => absurd h (of_decide_eq_false rfl), fun _ => ?_⟩
            | refine ⟨fun _ => ?_, fun h => absurd (of_decide_eq_true rfl) h⟩
            | refine ⟨fun _ => ?_, fun h => absurd h (of_decide_eq_false rfl)⟩
            | refine ⟨fun h => absurd (of_decide_eq_true rfl) h, fun _ => ?_⟩
            | refine ⟨of_decide_eq_true rfl, ?_⟩
            | refine ⟨rfl, ?_⟩)
    try (conv => whnf)
    refine ⟨(_, 1), rfl, rfl, ⟨rfl, trivial⟩, ?_⟩
    try dsimp only
    repeat (conv => whnf
            try dsimp only
            try simp (decide := true) only [zu_same, zu_ne1, zu_ne2, zuL_same, zuL_ne1, zuL_ne2, zrow_n1, zx0, zx1, zx2, zx3, zf_0_13, zf_0_14, zf_0_15, zf_1_3, zf_15_0, zf_16_0, zf_17_10, zf_86_3, zf_90_6, zf_90_7, zf_94_7, zf_100_6, zf_100_7, zf_118_0, zf_118_1, zf_118_2, zf_118_3, zg_119_0, zg_119_5, zg_119_9, zg_119_15, zg_119_19, zg_119_22, zg_119_1, zg_119_16, zg_120_0, zg_120_1, zg_120_2, zg_120_3, zg_121_0, zg_122_0, zg_124_0, zg_126_0, zg_127_0, zg_128_0, zg_129_0, zg_131_0, zg_131_1, zg_131_2, zg_131_3, Nat.reduceAdd, Nat.reduceMul, Int32.reduceAdd, Int32.reduceSub, Int32.reduceMul]
            first
            | refine ⟨vp_inb rfl, ?_⟩
            | refine ⟨fun h => absurd h (of_decide_eq_false rfl), fun _ => ?_⟩
            | refine ⟨fun _ => ?_, fun h => absurd (of_decide_eq_true rfl) h⟩
            | refine ⟨fun _ => ?_, fun h => absurd h (of_decide_eq_false rfl)⟩
            | refine ⟨fun h => absurd (of_decide_eq_true rfl) h, fun _ => ?_⟩
            | refine ⟨of_decide_eq_true rfl, ?_⟩
            | refine ⟨rfl, ?_⟩)
    try (conv => whnf)
    exact hK _ _ ⟨rfl, rfl, rfl, rfl, rfl⟩
def spX8_isBroken : zSp := zDQ (X := Int32 × zIn × zLo × Int64) (fun x => match x with | (v, s1, t1, v9) => [.ref 119, .int v]) (fun x => match x with | (v, s1, t1, v9) => (145, zSH, zRH, zmx s1, zmxL t1 v9)) (fun x => match x with | (v, s1, t1, v9) => True) (fun x r9 μ9 => match x with | (v, s1, t1, v9) => r9 = some (.int 0) ∧ zaft v9 1 μ9)
abbrev rmX8_isBroken : Room := ({ frames := 2, cells := 0, slots := 0, locals := 43 } : Room)
set_option maxRecDepth 100000 in
set_option maxHeartbeats 4000000 in
theorem ctX8_isBroken (l : Launch) (D : va_G) (cA : Nat → ClassId) : zCt false l D cA yX8_isBroken cX8_isBroken 2 (some .boolean) rmX8_isBroken spX8_isBroken := by
  refine zct_Q (zCX8_isBroken [(142, 0, 1, spX8_isVariable, rmX8_isVariable.cells, rmX8_isVariable.slots)]) zpX8_isBroken [] (by decide +kernel) zkX8_isBroken (Or.inr (by decide +kernel)) trivial ⟨by decide +kernel, by decide +kernel⟩ (fun x ad => Nat.le_of_ble_eq_true rfl) ?_ ?_
  · intro p e s m args below meth c A H0 ad0 n0 Q F hml hNw hA hX
    exact ⟨zco_V hX hA F hml hNw (ctX8_isVariable l D cA) ⟨⟨zlX8_isBroken_142, zwX8_isVariable.1.1, zwX8_isVariable.1.2⟩, zwX8_isVariable.2⟩ zdX8_isVariable ⟨Nat.le_of_ble_eq_true rfl, Nat.le_of_ble_eq_true rfl⟩ (ci := 8) (by decide) rfl (by rintro av μ K ⟨x, rfl, rfl, -⟩; exact ⟨_, _, rfl, rfl⟩), trivial⟩
  · rintro ⟨v, s1, t1, v9⟩ Ret hP hK Gl hG
    try dsimp only at hP hK
    show Gl 0 (zent 2 [.ref 119, .int v]) [] (0, 0) ((145, zSH, zRH, zmx s1, zmxL t1 v9))
    refine hG 1000 _ _ _ _ _ ?_
    repeat (conv => whnf
            try dsimp only
            try simp (decide := true) only [zu_same, zu_ne1, zu_ne2, zuL_same, zuL_ne1, zuL_ne2, zrow_n1, zx0, zx1, zx2, zx3, zf_0_13, zf_0_14, zf_0_15, zf_1_3, zf_15_0, zf_16_0, zf_17_10, zf_86_3, zf_90_6, zf_90_7, zf_94_7, zf_100_6, zf_100_7, zf_118_0, zf_118_1, zf_118_2, zf_118_3, zg_119_0, zg_119_5, zg_119_9, zg_119_15, zg_119_19, zg_119_22, zg_119_1, zg_119_16, zg_120_0, zg_120_1, zg_120_2, zg_120_3, zg_121_0, zg_122_0, zg_124_0, zg_126_0, zg_127_0, zg_128_0, zg_129_0, zg_131_0, zg_131_1, zg_131_2, zg_131_3, Nat.reduceAdd, Nat.reduceMul, Int32.reduceAdd, Int32.reduceSub, Int32.reduceMul]
            first
            | refine ⟨vp_inb rfl, ?_⟩
            | refine ⟨fun h => absurd h (of_decide_eq_false rfl), fun _ => ?_⟩
            | refine ⟨fun _ => ?_, fun h => absurd (of_decide_eq_true rfl) h⟩
            | refine ⟨fun _ => ?_, fun h => absurd h (of_decide_eq_false rfl)⟩
            | refine ⟨fun h => absurd (of_decide_eq_true rfl) h, fun _ => ?_⟩
            | refine ⟨of_decide_eq_true rfl, ?_⟩
            | refine ⟨rfl, ?_⟩)
    try (conv => whnf)
    refine ⟨(zmx s1, zmxL t1 v9, v), rfl, rfl, rfl, ?_⟩
    try dsimp only
    repeat (conv => whnf
            try dsimp only
            try simp (decide := true) only [zu_same, zu_ne1, zu_ne2, zuL_same, zuL_ne1, zuL_ne2, zrow_n1, zx0, zx1, zx2, zx3, zf_0_13, zf_0_14, zf_0_15, zf_1_3, zf_15_0, zf_16_0, zf_17_10, zf_86_3, zf_90_6, zf_90_7, zf_94_7, zf_100_6, zf_100_7, zf_118_0, zf_118_1, zf_118_2, zf_118_3, zg_119_0, zg_119_5, zg_119_9, zg_119_15, zg_119_19, zg_119_22, zg_119_1, zg_119_16, zg_120_0, zg_120_1, zg_120_2, zg_120_3, zg_121_0, zg_122_0, zg_124_0, zg_126_0, zg_127_0, zg_128_0, zg_129_0, zg_131_0, zg_131_1, zg_131_2, zg_131_3, Nat.reduceAdd, Nat.reduceMul, Int32.reduceAdd, Int32.reduceSub, Int32.reduceMul]
            first
            | refine ⟨vp_inb rfl, ?_⟩
            | refine ⟨fun h => absurd h (of_decide_eq_false rfl), fun _ => ?_⟩
            | refine ⟨fun _ => ?_, fun h => absurd (of_decide_eq_true rfl) h⟩
            | refine ⟨fun _ => ?_, fun h => absurd h (of_decide_eq_false rfl)⟩
            | refine ⟨fun h => absurd (of_decide_eq_true rfl) h, fun _ => ?_⟩
            | refine ⟨of_decide_eq_true rfl, ?_⟩
            | refine ⟨rfl, ?_⟩)
    try (conv => whnf)
    exact hK _ _ ⟨rfl, rfl, rfl, rfl, rfl⟩
def spX8_seek : zSp := zDQ (X := Int32 × Int32 × Int32 × Int32 × Int32 × zIn × zLo × Int64) (fun x => match x with | (i, w, g, a, b, s1, t1, v9) => [.ref 119, .int i, .int w, .int g, .int a, .int b]) (fun x => match x with | (i, w, g, a, b, s1, t1, v9) => (145, zSH, zRH, zmx s1, zmxL t1 v9)) (fun x => match x with | (i, w, g, a, b, s1, t1, v9) => True) (fun x r9 μ9 => match x with | (i, w, g, a, b, s1, t1, v9) => r9 = some (.int 0) ∧ zaft v9 1 μ9)
abbrev rmX8_seek : Room := ({ frames := 3, cells := 0, slots := 0, locals := 66 } : Room)
set_option maxRecDepth 100000 in
set_option maxHeartbeats 4000000 in
theorem ctX8_seek (l : Launch) (D : va_G) (cA : Nat → ClassId) : zCt false l D cA yX8_seek cX8_seek 9 (some .int) rmX8_seek spX8_seek := by
  refine zct_Q (zCX8_seek [(90, 1, 3, spX8_isIn, rmX8_isIn.cells, rmX8_isIn.slots), (252, 0, 3, spX8_asked, rmX8_asked.cells, rmX8_asked.slots)]) zpX8_seek [] (by decide +kernel) zkX8_seek (Or.inr (by decide +kernel)) trivial ⟨by decide +kernel, by decide +kernel⟩ (fun x ad => Nat.le_of_ble_eq_true rfl) ?_ ?_
  · intro p e s m args below meth c A H0 ad0 n0 Q F hml hNw hA hX
    exact ⟨zco_S hX hA F hml hNw (ctX8_isIn l D cA) ⟨⟨zlX8_seek_90, zwX8_isIn.1⟩, zwX8_isIn.2⟩ zdX8_isIn ⟨Nat.le_of_ble_eq_true rfl, Nat.le_of_ble_eq_true rfl⟩, zco_V hX hA F hml hNw (ctX8_asked l D cA) ⟨⟨zlX8_seek_252, zwX8_asked.1.1, zwX8_asked.1.2⟩, zwX8_asked.2⟩ zdX8_asked ⟨Nat.le_of_ble_eq_true rfl, Nat.le_of_ble_eq_true rfl⟩ (ci := 8) (by decide) rfl (by rintro av μ K ⟨x, rfl, rfl, -⟩; exact ⟨_, _, rfl, rfl⟩), trivial⟩
  · rintro ⟨i, w, g, a, b, s1, t1, v9⟩ Ret hP hK Gl hG
    try dsimp only at hP hK
    show Gl 0 (zent 9 [.ref 119, .int i, .int w, .int g, .int a, .int b]) [] (0, 0) ((145, zSH, zRH, zmx s1, zmxL t1 v9))
    refine hG 1000 _ _ _ _ _ ?_
    repeat (conv => whnf
            try dsimp only
            try simp (decide := true) only [zu_same, zu_ne1, zu_ne2, zuL_same, zuL_ne1, zuL_ne2, zrow_n1, zx0, zx1, zx2, zx3, zf_0_13, zf_0_14, zf_0_15, zf_1_3, zf_15_0, zf_16_0, zf_17_10, zf_86_3, zf_90_6, zf_90_7, zf_94_7, zf_100_6, zf_100_7, zf_118_0, zf_118_1, zf_118_2, zf_118_3, zg_119_0, zg_119_5, zg_119_9, zg_119_15, zg_119_19, zg_119_22, zg_119_1, zg_119_16, zg_120_0, zg_120_1, zg_120_2, zg_120_3, zg_121_0, zg_122_0, zg_124_0, zg_126_0, zg_127_0, zg_128_0, zg_129_0, zg_131_0, zg_131_1, zg_131_2, zg_131_3, Nat.reduceAdd, Nat.reduceMul, Int32.reduceAdd, Int32.reduceSub, Int32.reduceMul]
            first
            | refine ⟨vp_inb rfl, ?_⟩
            | refine ⟨fun h => absurd h (of_decide_eq_false rfl), fun _ => ?_⟩
            | refine ⟨fun _ => ?_, fun h => absurd (of_decide_eq_true rfl) h⟩
            | refine ⟨fun _ => ?_, fun h => absurd h (of_decide_eq_false rfl)⟩
            | refine ⟨fun h => absurd (of_decide_eq_true rfl) h, fun _ => ?_⟩
            | refine ⟨of_decide_eq_true rfl, ?_⟩
            | refine ⟨rfl, ?_⟩)
    try (conv => whnf)
    refine ⟨(a, -1000000000, 1000000000, _), rfl, rfl, trivial, ?_⟩
    try dsimp only
    by_cases h9 : -1000000000 ≤ a ∧ a ≤ 1000000000
    · rw [if_pos h9]
      clear h9
      repeat (conv => whnf
              try dsimp only
              try simp (decide := true) only [zu_same, zu_ne1, zu_ne2, zuL_same, zuL_ne1, zuL_ne2, zrow_n1, zx0, zx1, zx2, zx3, zf_0_13, zf_0_14, zf_0_15, zf_1_3, zf_15_0, zf_16_0, zf_17_10, zf_86_3, zf_90_6, zf_90_7, zf_94_7, zf_100_6, zf_100_7, zf_118_0, zf_118_1, zf_118_2, zf_118_3, zg_119_0, zg_119_5, zg_119_9, zg_119_15, zg_119_19, zg_119_22, zg_119_1, zg_119_16, zg_120_0, zg_120_1, zg_120_2, zg_120_3, zg_121_0, zg_122_0, zg_124_0, zg_126_0, zg_127_0, zg_128_0, zg_129_0, zg_131_0, zg_131_1, zg_131_2, zg_131_3, Nat.reduceAdd, Nat.reduceMul, Int32.reduceAdd, Int32.reduceSub, Int32.reduceMul]
              first
              | refine ⟨vp_inb rfl, ?_⟩
              | refine ⟨fun h => absurd h (of_decide_eq_false rfl), fun _ => ?_⟩
              | refine ⟨fun _ => ?_, fun h => absurd (of_decide_eq_true rfl) h⟩
              | refine ⟨fun _ => ?_, fun h => absurd h (of_decide_eq_false rfl)⟩
              | refine ⟨fun h => absurd (of_decide_eq_true rfl) h, fun _ => ?_⟩
              | refine ⟨of_decide_eq_true rfl, ?_⟩
              | refine ⟨rfl, ?_⟩)
      try (conv => whnf)
      refine ⟨(b, a, 1000000000, _), rfl, rfl, trivial, ?_⟩
      try dsimp only
      by_cases h9 : a ≤ b ∧ b ≤ 1000000000
      · rw [if_pos h9]
        clear h9
        repeat (conv => whnf
                try dsimp only
                try simp (decide := true) only [zu_same, zu_ne1, zu_ne2, zuL_same, zuL_ne1, zuL_ne2, zrow_n1, zx0, zx1, zx2, zx3, zf_0_13, zf_0_14, zf_0_15, zf_1_3, zf_15_0, zf_16_0, zf_17_10, zf_86_3, zf_90_6, zf_90_7, zf_94_7, zf_100_6, zf_100_7, zf_118_0, zf_118_1, zf_118_2, zf_118_3, zg_119_0, zg_119_5, zg_119_9, zg_119_15, zg_119_19, zg_119_22, zg_119_1, zg_119_16, zg_120_0, zg_120_1, zg_120_2, zg_120_3, zg_121_0, zg_122_0, zg_124_0, zg_126_0, zg_127_0, zg_128_0, zg_129_0, zg_131_0, zg_131_1, zg_131_2, zg_131_3, Nat.reduceAdd, Nat.reduceMul, Int32.reduceAdd, Int32.reduceSub, Int32.reduceMul]
                first
                | refine ⟨vp_inb rfl, ?_⟩
                | refine ⟨fun h => absurd h (of_decide_eq_false rfl), fun _ => ?_⟩
                | refine ⟨fun _ => ?_, fun h => absurd (of_decide_eq_true rfl) h⟩
                | refine ⟨fun _ => ?_, fun h => absurd h (of_decide_eq_false rfl)⟩
                | refine ⟨fun h => absurd (of_decide_eq_true rfl) h, fun _ => ?_⟩
                | refine ⟨of_decide_eq_true rfl, ?_⟩
                | refine ⟨rfl, ?_⟩)
        try (conv => whnf)
        refine ⟨(zmx s1, zmxL t1 v9, i, w, _), rfl, rfl, rfl, ?_⟩
        try dsimp only
        repeat (conv => whnf
                try dsimp only
                try simp (decide := true) only [zu_same, zu_ne1, zu_ne2, zuL_same, zuL_ne1, zuL_ne2, zrow_n1, zx0, zx1, zx2, zx3, zf_0_13, zf_0_14, zf_0_15, zf_1_3, zf_15_0, zf_16_0, zf_17_10, zf_86_3, zf_90_6, zf_90_7, zf_94_7, zf_100_6, zf_100_7, zf_118_0, zf_118_1, zf_118_2, zf_118_3, zg_119_0, zg_119_5, zg_119_9, zg_119_15, zg_119_19, zg_119_22, zg_119_1, zg_119_16, zg_120_0, zg_120_1, zg_120_2, zg_120_3, zg_121_0, zg_122_0, zg_124_0, zg_126_0, zg_127_0, zg_128_0, zg_129_0, zg_131_0, zg_131_1, zg_131_2, zg_131_3, Nat.reduceAdd, Nat.reduceMul, Int32.reduceAdd, Int32.reduceSub, Int32.reduceMul]
                first
                | refine ⟨vp_inb rfl, ?_⟩
                | refine ⟨fun h => absurd h (of_decide_eq_false rfl), fun _ => ?_⟩
                | refine ⟨fun _ => ?_, fun h => absurd (of_decide_eq_true rfl) h⟩
                | refine ⟨fun _ => ?_, fun h => absurd h (of_decide_eq_false rfl)⟩
                | refine ⟨fun h => absurd (of_decide_eq_true rfl) h, fun _ => ?_⟩
                | refine ⟨of_decide_eq_true rfl, ?_⟩
                | refine ⟨rfl, ?_⟩)
        try (conv => whnf)
        exact hK _ _ ⟨rfl, rfl, rfl, rfl, rfl⟩
      · rw [if_neg h9]
        repeat (conv => whnf
                try dsimp only
                try simp (decide := true) only [zu_same, zu_ne1, zu_ne2, zuL_same, zuL_ne1, zuL_ne2, zrow_n1, zx0, zx1, zx2, zx3, zf_0_13, zf_0_14, zf_0_15, zf_1_3, zf_15_0, zf_16_0, zf_17_10, zf_86_3, zf_90_6, zf_90_7, zf_94_7, zf_100_6, zf_100_7, zf_118_0, zf_118_1, zf_118_2, zf_118_3, zg_119_0, zg_119_5, zg_119_9, zg_119_15, zg_119_19, zg_119_22, zg_119_1, zg_119_16, zg_120_0, zg_120_1, zg_120_2, zg_120_3, zg_121_0, zg_122_0, zg_124_0, zg_126_0, zg_127_0, zg_128_0, zg_129_0, zg_131_0, zg_131_1, zg_131_2, zg_131_3, Nat.reduceAdd, Nat.reduceMul, Int32.reduceAdd, Int32.reduceSub, Int32.reduceMul]
                first
                | refine ⟨vp_inb rfl, ?_⟩
                | refine ⟨fun h => absurd h (of_decide_eq_false rfl), fun _ => ?_⟩
                | refine ⟨fun _ => ?_, fun h => absurd (of_decide_eq_true rfl) h⟩
                | refine ⟨fun _ => ?_, fun h => absurd h (of_decide_eq_false rfl)⟩
                | refine ⟨fun h => absurd (of_decide_eq_true rfl) h, fun _ => ?_⟩
                | refine ⟨of_decide_eq_true rfl, ?_⟩
                | refine ⟨rfl, ?_⟩)
        try (conv => whnf)
        refine ⟨(zmx s1, zmxL t1 v9, i, w, _), rfl, rfl, rfl, ?_⟩
        try dsimp only
        repeat (conv => whnf
                try dsimp only
                try simp (decide := true) only [zu_same, zu_ne1, zu_ne2, zuL_same, zuL_ne1, zuL_ne2, zrow_n1, zx0, zx1, zx2, zx3, zf_0_13, zf_0_14, zf_0_15, zf_1_3, zf_15_0, zf_16_0, zf_17_10, zf_86_3, zf_90_6, zf_90_7, zf_94_7, zf_100_6, zf_100_7, zf_118_0, zf_118_1, zf_118_2, zf_118_3, zg_119_0, zg_119_5, zg_119_9, zg_119_15, zg_119_19, zg_119_22, zg_119_1, zg_119_16, zg_120_0, zg_120_1, zg_120_2, zg_120_3, zg_121_0, zg_122_0, zg_124_0, zg_126_0, zg_127_0, zg_128_0, zg_129_0, zg_131_0, zg_131_1, zg_131_2, zg_131_3, Nat.reduceAdd, Nat.reduceMul, Int32.reduceAdd, Int32.reduceSub, Int32.reduceMul]
                first
                | refine ⟨vp_inb rfl, ?_⟩
                | refine ⟨fun h => absurd h (of_decide_eq_false rfl), fun _ => ?_⟩
                | refine ⟨fun _ => ?_, fun h => absurd (of_decide_eq_true rfl) h⟩
                | refine ⟨fun _ => ?_, fun h => absurd h (of_decide_eq_false rfl)⟩
                | refine ⟨fun h => absurd (of_decide_eq_true rfl) h, fun _ => ?_⟩
                | refine ⟨of_decide_eq_true rfl, ?_⟩
                | refine ⟨rfl, ?_⟩)
        try (conv => whnf)
        exact hK _ _ ⟨rfl, rfl, rfl, rfl, rfl⟩
    · rw [if_neg h9]
      repeat (conv => whnf
              try dsimp only
              try simp (decide := true) only [zu_same, zu_ne1, zu_ne2, zuL_same, zuL_ne1, zuL_ne2, zrow_n1, zx0, zx1, zx2, zx3, zf_0_13, zf_0_14, zf_0_15, zf_1_3, zf_15_0, zf_16_0, zf_17_10, zf_86_3, zf_90_6, zf_90_7, zf_94_7, zf_100_6, zf_100_7, zf_118_0, zf_118_1, zf_118_2, zf_118_3, zg_119_0, zg_119_5, zg_119_9, zg_119_15, zg_119_19, zg_119_22, zg_119_1, zg_119_16, zg_120_0, zg_120_1, zg_120_2, zg_120_3, zg_121_0, zg_122_0, zg_124_0, zg_126_0, zg_127_0, zg_128_0, zg_129_0, zg_131_0, zg_131_1, zg_131_2, zg_131_3, Nat.reduceAdd, Nat.reduceMul, Int32.reduceAdd, Int32.reduceSub, Int32.reduceMul]
              first
              | refine ⟨vp_inb rfl, ?_⟩
              | refine ⟨fun h => absurd h (of_decide_eq_false rfl), fun _ => ?_⟩
              | refine ⟨fun _ => ?_, fun h => absurd (of_decide_eq_true rfl) h⟩
              | refine ⟨fun _ => ?_, fun h => absurd h (of_decide_eq_false rfl)⟩
              | refine ⟨fun h => absurd (of_decide_eq_true rfl) h, fun _ => ?_⟩
              | refine ⟨of_decide_eq_true rfl, ?_⟩
              | refine ⟨rfl, ?_⟩)
      try (conv => whnf)
      refine ⟨(zmx s1, zmxL t1 v9, i, w, _), rfl, rfl, rfl, ?_⟩
      try dsimp only
      repeat (conv => whnf
              try dsimp only
              try simp (decide := true) only [zu_same, zu_ne1, zu_ne2, zuL_same, zuL_ne1, zuL_ne2, zrow_n1, zx0, zx1, zx2, zx3, zf_0_13, zf_0_14, zf_0_15, zf_1_3, zf_15_0, zf_16_0, zf_17_10, zf_86_3, zf_90_6, zf_90_7, zf_94_7, zf_100_6, zf_100_7, zf_118_0, zf_118_1, zf_118_2, zf_118_3, zg_119_0, zg_119_5, zg_119_9, zg_119_15, zg_119_19, zg_119_22, zg_119_1, zg_119_16, zg_120_0, zg_120_1, zg_120_2, zg_120_3, zg_121_0, zg_122_0, zg_124_0, zg_126_0, zg_127_0, zg_128_0, zg_129_0, zg_131_0, zg_131_1, zg_131_2, zg_131_3, Nat.reduceAdd, Nat.reduceMul, Int32.reduceAdd, Int32.reduceSub, Int32.reduceMul]
              first
              | refine ⟨vp_inb rfl, ?_⟩
              | refine ⟨fun h => absurd h (of_decide_eq_false rfl), fun _ => ?_⟩
              | refine ⟨fun _ => ?_, fun h => absurd (of_decide_eq_true rfl) h⟩
              | refine ⟨fun _ => ?_, fun h => absurd h (of_decide_eq_false rfl)⟩
              | refine ⟨fun h => absurd (of_decide_eq_true rfl) h, fun _ => ?_⟩
              | refine ⟨of_decide_eq_true rfl, ?_⟩
              | refine ⟨rfl, ?_⟩)
      try (conv => whnf)
      exact hK _ _ ⟨rfl, rfl, rfl, rfl, rfl⟩
def spX8_amountWith : zSp := zDQ (X := Int32 × Int32 × Int32 × zIn × zLo × Int64) (fun x => match x with | (i, w, n, s1, t1, v9) => [.ref 119, .int i, .int w, .int n]) (fun x => match x with | (i, w, n, s1, t1, v9) => (145, zSH, zRH, zmx s1, zmxL t1 v9)) (fun x => match x with | (i, w, n, s1, t1, v9) => True) (fun x r9 μ9 => match x with | (i, w, n, s1, t1, v9) => r9 = some (.int 0) ∧ zaft v9 1 μ9)
abbrev rmX8_amountWith : Room := ({ frames := 3, cells := 0, slots := 0, locals := 66 } : Room)
set_option maxRecDepth 100000 in
set_option maxHeartbeats 4000000 in
theorem ctX8_amountWith (l : Launch) (D : va_G) (cA : Nat → ClassId) : zCt false l D cA yX8_amountWith cX8_amountWith 4 (some .int) rmX8_amountWith spX8_amountWith := by
  refine zct_Q (zCX8_amountWith [(90, 1, 3, spX8_isIn, rmX8_isIn.cells, rmX8_isIn.slots), (252, 0, 3, spX8_asked, rmX8_asked.cells, rmX8_asked.slots)]) zpX8_amountWith [] (by decide +kernel) zkX8_amountWith (Or.inr (by decide +kernel)) trivial ⟨by decide +kernel, by decide +kernel⟩ (fun x ad => Nat.le_of_ble_eq_true rfl) ?_ ?_
  · intro p e s m args below meth c A H0 ad0 n0 Q F hml hNw hA hX
    exact ⟨zco_S hX hA F hml hNw (ctX8_isIn l D cA) ⟨⟨zlX8_amountWith_90, zwX8_isIn.1⟩, zwX8_isIn.2⟩ zdX8_isIn ⟨Nat.le_of_ble_eq_true rfl, Nat.le_of_ble_eq_true rfl⟩, zco_V hX hA F hml hNw (ctX8_asked l D cA) ⟨⟨zlX8_amountWith_252, zwX8_asked.1.1, zwX8_asked.1.2⟩, zwX8_asked.2⟩ zdX8_asked ⟨Nat.le_of_ble_eq_true rfl, Nat.le_of_ble_eq_true rfl⟩ (ci := 8) (by decide) rfl (by rintro av μ K ⟨x, rfl, rfl, -⟩; exact ⟨_, _, rfl, rfl⟩), trivial⟩
  · rintro ⟨i, w, n, s1, t1, v9⟩ Ret hP hK Gl hG
    try dsimp only at hP hK
    show Gl 0 (zent 4 [.ref 119, .int i, .int w, .int n]) [] (0, 0) ((145, zSH, zRH, zmx s1, zmxL t1 v9))
    refine hG 1000 _ _ _ _ _ ?_
    repeat (conv => whnf
            try dsimp only
            try simp (decide := true) only [zu_same, zu_ne1, zu_ne2, zuL_same, zuL_ne1, zuL_ne2, zrow_n1, zx0, zx1, zx2, zx3, zf_0_13, zf_0_14, zf_0_15, zf_1_3, zf_15_0, zf_16_0, zf_17_10, zf_86_3, zf_90_6, zf_90_7, zf_94_7, zf_100_6, zf_100_7, zf_118_0, zf_118_1, zf_118_2, zf_118_3, zg_119_0, zg_119_5, zg_119_9, zg_119_15, zg_119_19, zg_119_22, zg_119_1, zg_119_16, zg_120_0, zg_120_1, zg_120_2, zg_120_3, zg_121_0, zg_122_0, zg_124_0, zg_126_0, zg_127_0, zg_128_0, zg_129_0, zg_131_0, zg_131_1, zg_131_2, zg_131_3, Nat.reduceAdd, Nat.reduceMul, Int32.reduceAdd, Int32.reduceSub, Int32.reduceMul]
            first
            | refine ⟨vp_inb rfl, ?_⟩
            | refine ⟨fun h => absurd h (of_decide_eq_false rfl), fun _ => ?_⟩
            | refine ⟨fun _ => ?_, fun h => absurd (of_decide_eq_true rfl) h⟩
            | refine ⟨fun _ => ?_, fun h => absurd h (of_decide_eq_false rfl)⟩
            | refine ⟨fun h => absurd (of_decide_eq_true rfl) h, fun _ => ?_⟩
            | refine ⟨of_decide_eq_true rfl, ?_⟩
            | refine ⟨rfl, ?_⟩)
    try (conv => whnf)
    refine ⟨(n, -1000000000, 1000000000, _), rfl, rfl, trivial, ?_⟩
    try dsimp only
    repeat (conv => whnf
            try dsimp only
            try simp (decide := true) only [zu_same, zu_ne1, zu_ne2, zuL_same, zuL_ne1, zuL_ne2, zrow_n1, zx0, zx1, zx2, zx3, zf_0_13, zf_0_14, zf_0_15, zf_1_3, zf_15_0, zf_16_0, zf_17_10, zf_86_3, zf_90_6, zf_90_7, zf_94_7, zf_100_6, zf_100_7, zf_118_0, zf_118_1, zf_118_2, zf_118_3, zg_119_0, zg_119_5, zg_119_9, zg_119_15, zg_119_19, zg_119_22, zg_119_1, zg_119_16, zg_120_0, zg_120_1, zg_120_2, zg_120_3, zg_121_0, zg_122_0, zg_124_0, zg_126_0, zg_127_0, zg_128_0, zg_129_0, zg_131_0, zg_131_1, zg_131_2, zg_131_3, Nat.reduceAdd, Nat.reduceMul, Int32.reduceAdd, Int32.reduceSub, Int32.reduceMul]
            first
            | refine ⟨vp_inb rfl, ?_⟩
            | refine ⟨fun h => absurd h (of_decide_eq_false rfl), fun _ => ?_⟩
            | refine ⟨fun _ => ?_, fun h => absurd (of_decide_eq_true rfl) h⟩
            | refine ⟨fun _ => ?_, fun h => absurd h (of_decide_eq_false rfl)⟩
            | refine ⟨fun h => absurd (of_decide_eq_true rfl) h, fun _ => ?_⟩
            | refine ⟨of_decide_eq_true rfl, ?_⟩
            | refine ⟨rfl, ?_⟩)
    try (conv => whnf)
    refine ⟨(zmx s1, zmxL t1 v9, i, w, _), rfl, rfl, rfl, ?_⟩
    try dsimp only
    repeat (conv => whnf
            try dsimp only
            try simp (decide := true) only [zu_same, zu_ne1, zu_ne2, zuL_same, zuL_ne1, zuL_ne2, zrow_n1, zx0, zx1, zx2, zx3, zf_0_13, zf_0_14, zf_0_15, zf_1_3, zf_15_0, zf_16_0, zf_17_10, zf_86_3, zf_90_6, zf_90_7, zf_94_7, zf_100_6, zf_100_7, zf_118_0, zf_118_1, zf_118_2, zf_118_3, zg_119_0, zg_119_5, zg_119_9, zg_119_15, zg_119_19, zg_119_22, zg_119_1, zg_119_16, zg_120_0, zg_120_1, zg_120_2, zg_120_3, zg_121_0, zg_122_0, zg_124_0, zg_126_0, zg_127_0, zg_128_0, zg_129_0, zg_131_0, zg_131_1, zg_131_2, zg_131_3, Nat.reduceAdd, Nat.reduceMul, Int32.reduceAdd, Int32.reduceSub, Int32.reduceMul]
            first
            | refine ⟨vp_inb rfl, ?_⟩
            | refine ⟨fun h => absurd h (of_decide_eq_false rfl), fun _ => ?_⟩
            | refine ⟨fun _ => ?_, fun h => absurd (of_decide_eq_true rfl) h⟩
            | refine ⟨fun _ => ?_, fun h => absurd h (of_decide_eq_false rfl)⟩
            | refine ⟨fun h => absurd (of_decide_eq_true rfl) h, fun _ => ?_⟩
            | refine ⟨of_decide_eq_true rfl, ?_⟩
            | refine ⟨rfl, ?_⟩)
    try (conv => whnf)
    exact hK _ _ ⟨rfl, rfl, rfl, rfl, rfl⟩
def spX8_slope : zSp := zDQ (X := Int32 × Int32 × Int32 × zIn × zLo × Int64) (fun x => match x with | (i, w, n, s1, t1, v9) => [.ref 119, .int i, .int w, .int n]) (fun x => match x with | (i, w, n, s1, t1, v9) => (145, zSH, zRH, zmx s1, zmxL t1 v9)) (fun x => match x with | (i, w, n, s1, t1, v9) => True) (fun x r9 μ9 => match x with | (i, w, n, s1, t1, v9) => r9 = some (.double 0) ∧ zaft v9 1 μ9)
abbrev rmX8_slope : Room := ({ frames := 3, cells := 0, slots := 0, locals := 66 } : Room)
set_option maxRecDepth 100000 in
set_option maxHeartbeats 4000000 in
theorem ctX8_slope (l : Launch) (D : va_G) (cA : Nat → ClassId) : zCt false l D cA yX8_slope cX8_slope 5 (some .double) rmX8_slope spX8_slope := by
  refine zct_Q (zCX8_slope [(90, 1, 3, spX8_isIn, rmX8_isIn.cells, rmX8_isIn.slots), (252, 0, 3, spX8_asked, rmX8_asked.cells, rmX8_asked.slots)]) zpX8_slope [] (by decide +kernel) zkX8_slope (Or.inr (by decide +kernel)) trivial ⟨by decide +kernel, by decide +kernel⟩ (fun x ad => Nat.le_of_ble_eq_true rfl) ?_ ?_
  · intro p e s m args below meth c A H0 ad0 n0 Q F hml hNw hA hX
    exact ⟨zco_S hX hA F hml hNw (ctX8_isIn l D cA) ⟨⟨zlX8_slope_90, zwX8_isIn.1⟩, zwX8_isIn.2⟩ zdX8_isIn ⟨Nat.le_of_ble_eq_true rfl, Nat.le_of_ble_eq_true rfl⟩, zco_V hX hA F hml hNw (ctX8_asked l D cA) ⟨⟨zlX8_slope_252, zwX8_asked.1.1, zwX8_asked.1.2⟩, zwX8_asked.2⟩ zdX8_asked ⟨Nat.le_of_ble_eq_true rfl, Nat.le_of_ble_eq_true rfl⟩ (ci := 8) (by decide) rfl (by rintro av μ K ⟨x, rfl, rfl, -⟩; exact ⟨_, _, rfl, rfl⟩), trivial⟩
  · rintro ⟨i, w, n, s1, t1, v9⟩ Ret hP hK Gl hG
    try dsimp only at hP hK
    show Gl 0 (zent 5 [.ref 119, .int i, .int w, .int n]) [] (0, 0) ((145, zSH, zRH, zmx s1, zmxL t1 v9))
    refine hG 1000 _ _ _ _ _ ?_
    repeat (conv => whnf
            try dsimp only
            try simp (decide := true) only [zu_same, zu_ne1, zu_ne2, zuL_same, zuL_ne1, zuL_ne2, zrow_n1, zx0, zx1, zx2, zx3, zf_0_13, zf_0_14, zf_0_15, zf_1_3, zf_15_0, zf_16_0, zf_17_10, zf_86_3, zf_90_6, zf_90_7, zf_94_7, zf_100_6, zf_100_7, zf_118_0, zf_118_1, zf_118_2, zf_118_3, zg_119_0, zg_119_5, zg_119_9, zg_119_15, zg_119_19, zg_119_22, zg_119_1, zg_119_16, zg_120_0, zg_120_1, zg_120_2, zg_120_3, zg_121_0, zg_122_0, zg_124_0, zg_126_0, zg_127_0, zg_128_0, zg_129_0, zg_131_0, zg_131_1, zg_131_2, zg_131_3, Nat.reduceAdd, Nat.reduceMul, Int32.reduceAdd, Int32.reduceSub, Int32.reduceMul]
            first
            | refine ⟨vp_inb rfl, ?_⟩
            | refine ⟨fun h => absurd h (of_decide_eq_false rfl), fun _ => ?_⟩
            | refine ⟨fun _ => ?_, fun h => absurd (of_decide_eq_true rfl) h⟩
            | refine ⟨fun _ => ?_, fun h => absurd h (of_decide_eq_false rfl)⟩
            | refine ⟨fun h => absurd (of_decide_eq_true rfl) h, fun _ => ?_⟩
            | refine ⟨of_decide_eq_true rfl, ?_⟩
            | refine ⟨rfl, ?_⟩)
    try (conv => whnf)
    refine ⟨(n, 1, 1000000, _), rfl, rfl, trivial, ?_⟩
    try dsimp only
    repeat (conv => whnf
            try dsimp only
            try simp (decide := true) only [zu_same, zu_ne1, zu_ne2, zuL_same, zuL_ne1, zuL_ne2, zrow_n1, zx0, zx1, zx2, zx3, zf_0_13, zf_0_14, zf_0_15, zf_1_3, zf_15_0, zf_16_0, zf_17_10, zf_86_3, zf_90_6, zf_90_7, zf_94_7, zf_100_6, zf_100_7, zf_118_0, zf_118_1, zf_118_2, zf_118_3, zg_119_0, zg_119_5, zg_119_9, zg_119_15, zg_119_19, zg_119_22, zg_119_1, zg_119_16, zg_120_0, zg_120_1, zg_120_2, zg_120_3, zg_121_0, zg_122_0, zg_124_0, zg_126_0, zg_127_0, zg_128_0, zg_129_0, zg_131_0, zg_131_1, zg_131_2, zg_131_3, Nat.reduceAdd, Nat.reduceMul, Int32.reduceAdd, Int32.reduceSub, Int32.reduceMul]
            first
            | refine ⟨vp_inb rfl, ?_⟩
            | refine ⟨fun h => absurd h (of_decide_eq_false rfl), fun _ => ?_⟩
            | refine ⟨fun _ => ?_, fun h => absurd (of_decide_eq_true rfl) h⟩
            | refine ⟨fun _ => ?_, fun h => absurd h (of_decide_eq_false rfl)⟩
            | refine ⟨fun h => absurd (of_decide_eq_true rfl) h, fun _ => ?_⟩
            | refine ⟨of_decide_eq_true rfl, ?_⟩
            | refine ⟨rfl, ?_⟩)
    try (conv => whnf)
    refine ⟨(zmx s1, zmxL t1 v9, i, w, _), rfl, rfl, rfl, ?_⟩
    try dsimp only
    repeat (conv => whnf
            try dsimp only
            try simp (decide := true) only [zu_same, zu_ne1, zu_ne2, zuL_same, zuL_ne1, zuL_ne2, zrow_n1, zx0, zx1, zx2, zx3, zf_0_13, zf_0_14, zf_0_15, zf_1_3, zf_15_0, zf_16_0, zf_17_10, zf_86_3, zf_90_6, zf_90_7, zf_94_7, zf_100_6, zf_100_7, zf_118_0, zf_118_1, zf_118_2, zf_118_3, zg_119_0, zg_119_5, zg_119_9, zg_119_15, zg_119_19, zg_119_22, zg_119_1, zg_119_16, zg_120_0, zg_120_1, zg_120_2, zg_120_3, zg_121_0, zg_122_0, zg_124_0, zg_126_0, zg_127_0, zg_128_0, zg_129_0, zg_131_0, zg_131_1, zg_131_2, zg_131_3, Nat.reduceAdd, Nat.reduceMul, Int32.reduceAdd, Int32.reduceSub, Int32.reduceMul]
            first
            | refine ⟨vp_inb rfl, ?_⟩
            | refine ⟨fun h => absurd h (of_decide_eq_false rfl), fun _ => ?_⟩
            | refine ⟨fun _ => ?_, fun h => absurd (of_decide_eq_true rfl) h⟩
            | refine ⟨fun _ => ?_, fun h => absurd h (of_decide_eq_false rfl)⟩
            | refine ⟨fun h => absurd (of_decide_eq_true rfl) h, fun _ => ?_⟩
            | refine ⟨of_decide_eq_true rfl, ?_⟩
            | refine ⟨rfl, ?_⟩)
    try (conv => whnf)
    exact hK _ _ ⟨rfl, rfl, rfl, rfl, rfl⟩
def spX8_best : zSp := zDQ (X := Int32 × Int32 × Int32 × Int32 × Int32 × zIn × zLo × Int64) (fun x => match x with | (i, w, a, b, n, s1, t1, v9) => [.ref 119, .int i, .int w, .int a, .int b, .int n]) (fun x => match x with | (i, w, a, b, n, s1, t1, v9) => (145, zSH, zRH, zmx s1, zmxL t1 v9)) (fun x => match x with | (i, w, a, b, n, s1, t1, v9) => True) (fun x r9 μ9 => match x with | (i, w, a, b, n, s1, t1, v9) => r9 = some (.int 0) ∧ zaft v9 1 μ9)
abbrev rmX8_best : Room := ({ frames := 3, cells := 0, slots := 0, locals := 66 } : Room)
set_option maxRecDepth 100000 in
set_option maxHeartbeats 4000000 in
theorem ctX8_best (l : Launch) (D : va_G) (cA : Nat → ClassId) : zCt false l D cA yX8_best cX8_best 9 (some .int) rmX8_best spX8_best := by
  refine zct_Q (zCX8_best [(90, 1, 3, spX8_isIn, rmX8_isIn.cells, rmX8_isIn.slots), (252, 0, 3, spX8_asked, rmX8_asked.cells, rmX8_asked.slots)]) zpX8_best [] (by decide +kernel) zkX8_best (Or.inr (by decide +kernel)) trivial ⟨by decide +kernel, by decide +kernel⟩ (fun x ad => Nat.le_of_ble_eq_true rfl) ?_ ?_
  · intro p e s m args below meth c A H0 ad0 n0 Q F hml hNw hA hX
    exact ⟨zco_S hX hA F hml hNw (ctX8_isIn l D cA) ⟨⟨zlX8_best_90, zwX8_isIn.1⟩, zwX8_isIn.2⟩ zdX8_isIn ⟨Nat.le_of_ble_eq_true rfl, Nat.le_of_ble_eq_true rfl⟩, zco_V hX hA F hml hNw (ctX8_asked l D cA) ⟨⟨zlX8_best_252, zwX8_asked.1.1, zwX8_asked.1.2⟩, zwX8_asked.2⟩ zdX8_asked ⟨Nat.le_of_ble_eq_true rfl, Nat.le_of_ble_eq_true rfl⟩ (ci := 8) (by decide) rfl (by rintro av μ K ⟨x, rfl, rfl, -⟩; exact ⟨_, _, rfl, rfl⟩), trivial⟩
  · rintro ⟨i, w, a, b, n, s1, t1, v9⟩ Ret hP hK Gl hG
    try dsimp only at hP hK
    show Gl 0 (zent 9 [.ref 119, .int i, .int w, .int a, .int b, .int n]) [] (0, 0) ((145, zSH, zRH, zmx s1, zmxL t1 v9))
    refine hG 1000 _ _ _ _ _ ?_
    repeat (conv => whnf
            try dsimp only
            try simp (decide := true) only [zu_same, zu_ne1, zu_ne2, zuL_same, zuL_ne1, zuL_ne2, zrow_n1, zx0, zx1, zx2, zx3, zf_0_13, zf_0_14, zf_0_15, zf_1_3, zf_15_0, zf_16_0, zf_17_10, zf_86_3, zf_90_6, zf_90_7, zf_94_7, zf_100_6, zf_100_7, zf_118_0, zf_118_1, zf_118_2, zf_118_3, zg_119_0, zg_119_5, zg_119_9, zg_119_15, zg_119_19, zg_119_22, zg_119_1, zg_119_16, zg_120_0, zg_120_1, zg_120_2, zg_120_3, zg_121_0, zg_122_0, zg_124_0, zg_126_0, zg_127_0, zg_128_0, zg_129_0, zg_131_0, zg_131_1, zg_131_2, zg_131_3, Nat.reduceAdd, Nat.reduceMul, Int32.reduceAdd, Int32.reduceSub, Int32.reduceMul]
            first
            | refine ⟨vp_inb rfl, ?_⟩
            | refine ⟨fun h => absurd h (of_decide_eq_false rfl), fun _ => ?_⟩
            | refine ⟨fun _ => ?_, fun h => absurd (of_decide_eq_true rfl) h⟩
            | refine ⟨fun _ => ?_, fun h => absurd h (of_decide_eq_false rfl)⟩
            | refine ⟨fun h => absurd (of_decide_eq_true rfl) h, fun _ => ?_⟩
            | refine ⟨of_decide_eq_true rfl, ?_⟩
            | refine ⟨rfl, ?_⟩)
    try (conv => whnf)
    refine ⟨(a, -1000000, 1000000, _), rfl, rfl, trivial, ?_⟩
    try dsimp only
    by_cases h9 : -1000000 ≤ a ∧ a ≤ 1000000
    · rw [if_pos h9]
      clear h9
      repeat (conv => whnf
              try dsimp only
              try simp (decide := true) only [zu_same, zu_ne1, zu_ne2, zuL_same, zuL_ne1, zuL_ne2, zrow_n1, zx0, zx1, zx2, zx3, zf_0_13, zf_0_14, zf_0_15, zf_1_3, zf_15_0, zf_16_0, zf_17_10, zf_86_3, zf_90_6, zf_90_7, zf_94_7, zf_100_6, zf_100_7, zf_118_0, zf_118_1, zf_118_2, zf_118_3, zg_119_0, zg_119_5, zg_119_9, zg_119_15, zg_119_19, zg_119_22, zg_119_1, zg_119_16, zg_120_0, zg_120_1, zg_120_2, zg_120_3, zg_121_0, zg_122_0, zg_124_0, zg_126_0, zg_127_0, zg_128_0, zg_129_0, zg_131_0, zg_131_1, zg_131_2, zg_131_3, Nat.reduceAdd, Nat.reduceMul, Int32.reduceAdd, Int32.reduceSub, Int32.reduceMul]
              first
              | refine ⟨vp_inb rfl, ?_⟩
              | refine ⟨fun h => absurd h (of_decide_eq_false rfl), fun _ => ?_⟩
              | refine ⟨fun _ => ?_, fun h => absurd (of_decide_eq_true rfl) h⟩
              | refine ⟨fun _ => ?_, fun h => absurd h (of_decide_eq_false rfl)⟩
              | refine ⟨fun h => absurd (of_decide_eq_true rfl) h, fun _ => ?_⟩
              | refine ⟨of_decide_eq_true rfl, ?_⟩
              | refine ⟨rfl, ?_⟩)
      try (conv => whnf)
      refine ⟨(b, -1000000, 1000000, _), rfl, rfl, trivial, ?_⟩
      try dsimp only
      by_cases h9 : -1000000 ≤ b ∧ b ≤ 1000000
      · rw [if_pos h9]
        clear h9
        repeat (conv => whnf
                try dsimp only
                try simp (decide := true) only [zu_same, zu_ne1, zu_ne2, zuL_same, zuL_ne1, zuL_ne2, zrow_n1, zx0, zx1, zx2, zx3, zf_0_13, zf_0_14, zf_0_15, zf_1_3, zf_15_0, zf_16_0, zf_17_10, zf_86_3, zf_90_6, zf_90_7, zf_94_7, zf_100_6, zf_100_7, zf_118_0, zf_118_1, zf_118_2, zf_118_3, zg_119_0, zg_119_5, zg_119_9, zg_119_15, zg_119_19, zg_119_22, zg_119_1, zg_119_16, zg_120_0, zg_120_1, zg_120_2, zg_120_3, zg_121_0, zg_122_0, zg_124_0, zg_126_0, zg_127_0, zg_128_0, zg_129_0, zg_131_0, zg_131_1, zg_131_2, zg_131_3, Nat.reduceAdd, Nat.reduceMul, Int32.reduceAdd, Int32.reduceSub, Int32.reduceMul]
                first
                | refine ⟨vp_inb rfl, ?_⟩
                | refine ⟨fun h => absurd h (of_decide_eq_false rfl), fun _ => ?_⟩
                | refine ⟨fun _ => ?_, fun h => absurd (of_decide_eq_true rfl) h⟩
                | refine ⟨fun _ => ?_, fun h => absurd h (of_decide_eq_false rfl)⟩
                | refine ⟨fun h => absurd (of_decide_eq_true rfl) h, fun _ => ?_⟩
                | refine ⟨of_decide_eq_true rfl, ?_⟩
                | refine ⟨rfl, ?_⟩)
        try (conv => whnf)
        refine ⟨(n, 1, 20, _), rfl, rfl, trivial, ?_⟩
        try dsimp only
        by_cases h9 : 1 ≤ n ∧ n ≤ 20
        · rw [if_pos h9]
          clear h9
          repeat (conv => whnf
                  try dsimp only
                  try simp (decide := true) only [zu_same, zu_ne1, zu_ne2, zuL_same, zuL_ne1, zuL_ne2, zrow_n1, zx0, zx1, zx2, zx3, zf_0_13, zf_0_14, zf_0_15, zf_1_3, zf_15_0, zf_16_0, zf_17_10, zf_86_3, zf_90_6, zf_90_7, zf_94_7, zf_100_6, zf_100_7, zf_118_0, zf_118_1, zf_118_2, zf_118_3, zg_119_0, zg_119_5, zg_119_9, zg_119_15, zg_119_19, zg_119_22, zg_119_1, zg_119_16, zg_120_0, zg_120_1, zg_120_2, zg_120_3, zg_121_0, zg_122_0, zg_124_0, zg_126_0, zg_127_0, zg_128_0, zg_129_0, zg_131_0, zg_131_1, zg_131_2, zg_131_3, Nat.reduceAdd, Nat.reduceMul, Int32.reduceAdd, Int32.reduceSub, Int32.reduceMul]
                  first
                  | refine ⟨vp_inb rfl, ?_⟩
                  | refine ⟨fun h => absurd h (of_decide_eq_false rfl), fun _ => ?_⟩
                  | refine ⟨fun _ => ?_, fun h => absurd (of_decide_eq_true rfl) h⟩
                  | refine ⟨fun _ => ?_, fun h => absurd h (of_decide_eq_false rfl)⟩
                  | refine ⟨fun h => absurd (of_decide_eq_true rfl) h, fun _ => ?_⟩
                  | refine ⟨of_decide_eq_true rfl, ?_⟩
                  | refine ⟨rfl, ?_⟩)
          try (conv => whnf)
          refine ⟨(zmx s1, zmxL t1 v9, i, w, _), rfl, rfl, rfl, ?_⟩
          try dsimp only
          repeat (conv => whnf
                  try dsimp only
                  try simp (decide := true) only [zu_same, zu_ne1, zu_ne2, zuL_same, zuL_ne1, zuL_ne2, zrow_n1, zx0, zx1, zx2, zx3, zf_0_13, zf_0_14, zf_0_15, zf_1_3, zf_15_0, zf_16_0, zf_17_10, zf_86_3, zf_90_6, zf_90_7, zf_94_7, zf_100_6, zf_100_7, zf_118_0, zf_118_1, zf_118_2, zf_118_3, zg_119_0, zg_119_5, zg_119_9, zg_119_15, zg_119_19, zg_119_22, zg_119_1, zg_119_16, zg_120_0, zg_120_1, zg_120_2, zg_120_3, zg_121_0, zg_122_0, zg_124_0, zg_126_0, zg_127_0, zg_128_0, zg_129_0, zg_131_0, zg_131_1, zg_131_2, zg_131_3, Nat.reduceAdd, Nat.reduceMul, Int32.reduceAdd, Int32.reduceSub, Int32.reduceMul]
                  first
                  | refine ⟨vp_inb rfl, ?_⟩
                  | refine ⟨fun h => absurd h (of_decide_eq_false rfl), fun _ => ?_⟩
                  | refine ⟨fun _ => ?_, fun h => absurd (of_decide_eq_true rfl) h⟩
                  | refine ⟨fun _ => ?_, fun h => absurd h (of_decide_eq_false rfl)⟩
                  | refine ⟨fun h => absurd (of_decide_eq_true rfl) h, fun _ => ?_⟩
                  | refine ⟨of_decide_eq_true rfl, ?_⟩
                  | refine ⟨rfl, ?_⟩)
          try (conv => whnf)
          exact hK _ _ ⟨rfl, rfl, rfl, rfl, rfl⟩
        · rw [if_neg h9]
          repeat (conv => whnf
                  try dsimp only
                  try simp (decide := true) only [zu_same, zu_ne1, zu_ne2, zuL_same, zuL_ne1, zuL_ne2, zrow_n1, zx0, zx1, zx2, zx3, zf_0_13, zf_0_14, zf_0_15, zf_1_3, zf_15_0, zf_16_0, zf_17_10, zf_86_3, zf_90_6, zf_90_7, zf_94_7, zf_100_6, zf_100_7, zf_118_0, zf_118_1, zf_118_2, zf_118_3, zg_119_0, zg_119_5, zg_119_9, zg_119_15, zg_119_19, zg_119_22, zg_119_1, zg_119_16, zg_120_0, zg_120_1, zg_120_2, zg_120_3, zg_121_0, zg_122_0, zg_124_0, zg_126_0, zg_127_0, zg_128_0, zg_129_0, zg_131_0, zg_131_1, zg_131_2, zg_131_3, Nat.reduceAdd, Nat.reduceMul, Int32.reduceAdd, Int32.reduceSub, Int32.reduceMul]
                  first
                  | refine ⟨vp_inb rfl, ?_⟩
                  | refine ⟨fun h => absurd h (of_decide_eq_false rfl), fun _ => ?_⟩
                  | refine ⟨fun _ => ?_, fun h => absurd (of_decide_eq_true rfl) h⟩
                  | refine ⟨fun _ => ?_, fun h => absurd h (of_decide_eq_false rfl)⟩
                  | refine ⟨fun h => absurd (of_decide_eq_true rfl) h, fun _ => ?_⟩
                  | refine ⟨of_decide_eq_true rfl, ?_⟩
                  | refine ⟨rfl, ?_⟩)
          try (conv => whnf)
          refine ⟨(zmx s1, zmxL t1 v9, i, w, _), rfl, rfl, rfl, ?_⟩
          try dsimp only
          repeat (conv => whnf
                  try dsimp only
                  try simp (decide := true) only [zu_same, zu_ne1, zu_ne2, zuL_same, zuL_ne1, zuL_ne2, zrow_n1, zx0, zx1, zx2, zx3, zf_0_13, zf_0_14, zf_0_15, zf_1_3, zf_15_0, zf_16_0, zf_17_10, zf_86_3, zf_90_6, zf_90_7, zf_94_7, zf_100_6, zf_100_7, zf_118_0, zf_118_1, zf_118_2, zf_118_3, zg_119_0, zg_119_5, zg_119_9, zg_119_15, zg_119_19, zg_119_22, zg_119_1, zg_119_16, zg_120_0, zg_120_1, zg_120_2, zg_120_3, zg_121_0, zg_122_0, zg_124_0, zg_126_0, zg_127_0, zg_128_0, zg_129_0, zg_131_0, zg_131_1, zg_131_2, zg_131_3, Nat.reduceAdd, Nat.reduceMul, Int32.reduceAdd, Int32.reduceSub, Int32.reduceMul]
                  first
                  | refine ⟨vp_inb rfl, ?_⟩
                  | refine ⟨fun h => absurd h (of_decide_eq_false rfl), fun _ => ?_⟩
                  | refine ⟨fun _ => ?_, fun h => absurd (of_decide_eq_true rfl) h⟩
                  | refine ⟨fun _ => ?_, fun h => absurd h (of_decide_eq_false rfl)⟩
                  | refine ⟨fun h => absurd (of_decide_eq_true rfl) h, fun _ => ?_⟩
                  | refine ⟨of_decide_eq_true rfl, ?_⟩
                  | refine ⟨rfl, ?_⟩)
          try (conv => whnf)
          exact hK _ _ ⟨rfl, rfl, rfl, rfl, rfl⟩
      · rw [if_neg h9]
        repeat (conv => whnf
                try dsimp only
                try simp (decide := true) only [zu_same, zu_ne1, zu_ne2, zuL_same, zuL_ne1, zuL_ne2, zrow_n1, zx0, zx1, zx2, zx3, zf_0_13, zf_0_14, zf_0_15, zf_1_3, zf_15_0, zf_16_0, zf_17_10, zf_86_3, zf_90_6, zf_90_7, zf_94_7, zf_100_6, zf_100_7, zf_118_0, zf_118_1, zf_118_2, zf_118_3, zg_119_0, zg_119_5, zg_119_9, zg_119_15, zg_119_19, zg_119_22, zg_119_1, zg_119_16, zg_120_0, zg_120_1, zg_120_2, zg_120_3, zg_121_0, zg_122_0, zg_124_0, zg_126_0, zg_127_0, zg_128_0, zg_129_0, zg_131_0, zg_131_1, zg_131_2, zg_131_3, Nat.reduceAdd, Nat.reduceMul, Int32.reduceAdd, Int32.reduceSub, Int32.reduceMul]
                first
                | refine ⟨vp_inb rfl, ?_⟩
                | refine ⟨fun h => absurd h (of_decide_eq_false rfl), fun _ => ?_⟩
                | refine ⟨fun _ => ?_, fun h => absurd (of_decide_eq_true rfl) h⟩
                | refine ⟨fun _ => ?_, fun h => absurd h (of_decide_eq_false rfl)⟩
                | refine ⟨fun h => absurd (of_decide_eq_true rfl) h, fun _ => ?_⟩
                | refine ⟨of_decide_eq_true rfl, ?_⟩
                | refine ⟨rfl, ?_⟩)
        try (conv => whnf)
        refine ⟨(zmx s1, zmxL t1 v9, i, w, _), rfl, rfl, rfl, ?_⟩
        try dsimp only
        repeat (conv => whnf
                try dsimp only
                try simp (decide := true) only [zu_same, zu_ne1, zu_ne2, zuL_same, zuL_ne1, zuL_ne2, zrow_n1, zx0, zx1, zx2, zx3, zf_0_13, zf_0_14, zf_0_15, zf_1_3, zf_15_0, zf_16_0, zf_17_10, zf_86_3, zf_90_6, zf_90_7, zf_94_7, zf_100_6, zf_100_7, zf_118_0, zf_118_1, zf_118_2, zf_118_3, zg_119_0, zg_119_5, zg_119_9, zg_119_15, zg_119_19, zg_119_22, zg_119_1, zg_119_16, zg_120_0, zg_120_1, zg_120_2, zg_120_3, zg_121_0, zg_122_0, zg_124_0, zg_126_0, zg_127_0, zg_128_0, zg_129_0, zg_131_0, zg_131_1, zg_131_2, zg_131_3, Nat.reduceAdd, Nat.reduceMul, Int32.reduceAdd, Int32.reduceSub, Int32.reduceMul]
                first
                | refine ⟨vp_inb rfl, ?_⟩
                | refine ⟨fun h => absurd h (of_decide_eq_false rfl), fun _ => ?_⟩
                | refine ⟨fun _ => ?_, fun h => absurd (of_decide_eq_true rfl) h⟩
                | refine ⟨fun _ => ?_, fun h => absurd h (of_decide_eq_false rfl)⟩
                | refine ⟨fun h => absurd (of_decide_eq_true rfl) h, fun _ => ?_⟩
                | refine ⟨of_decide_eq_true rfl, ?_⟩
                | refine ⟨rfl, ?_⟩)
        try (conv => whnf)
        exact hK _ _ ⟨rfl, rfl, rfl, rfl, rfl⟩
    · rw [if_neg h9]
      repeat (conv => whnf
              try dsimp only
              try simp (decide := true) only [zu_same, zu_ne1, zu_ne2, zuL_same, zuL_ne1, zuL_ne2, zrow_n1, zx0, zx1, zx2, zx3, zf_0_13, zf_0_14, zf_0_15, zf_1_3, zf_15_0, zf_16_0, zf_17_10, zf_86_3, zf_90_6, zf_90_7, zf_94_7, zf_100_6, zf_100_7, zf_118_0, zf_118_1, zf_118_2, zf_118_3, zg_119_0, zg_119_5, zg_119_9, zg_119_15, zg_119_19, zg_119_22, zg_119_1, zg_119_16, zg_120_0, zg_120_1, zg_120_2, zg_120_3, zg_121_0, zg_122_0, zg_124_0, zg_126_0, zg_127_0, zg_128_0, zg_129_0, zg_131_0, zg_131_1, zg_131_2, zg_131_3, Nat.reduceAdd, Nat.reduceMul, Int32.reduceAdd, Int32.reduceSub, Int32.reduceMul]
              first
              | refine ⟨vp_inb rfl, ?_⟩
              | refine ⟨fun h => absurd h (of_decide_eq_false rfl), fun _ => ?_⟩
              | refine ⟨fun _ => ?_, fun h => absurd (of_decide_eq_true rfl) h⟩
              | refine ⟨fun _ => ?_, fun h => absurd h (of_decide_eq_false rfl)⟩
              | refine ⟨fun h => absurd (of_decide_eq_true rfl) h, fun _ => ?_⟩
              | refine ⟨of_decide_eq_true rfl, ?_⟩
              | refine ⟨rfl, ?_⟩)
      try (conv => whnf)
      refine ⟨(zmx s1, zmxL t1 v9, i, w, _), rfl, rfl, rfl, ?_⟩
      try dsimp only
      repeat (conv => whnf
              try dsimp only
              try simp (decide := true) only [zu_same, zu_ne1, zu_ne2, zuL_same, zuL_ne1, zuL_ne2, zrow_n1, zx0, zx1, zx2, zx3, zf_0_13, zf_0_14, zf_0_15, zf_1_3, zf_15_0, zf_16_0, zf_17_10, zf_86_3, zf_90_6, zf_90_7, zf_94_7, zf_100_6, zf_100_7, zf_118_0, zf_118_1, zf_118_2, zf_118_3, zg_119_0, zg_119_5, zg_119_9, zg_119_15, zg_119_19, zg_119_22, zg_119_1, zg_119_16, zg_120_0, zg_120_1, zg_120_2, zg_120_3, zg_121_0, zg_122_0, zg_124_0, zg_126_0, zg_127_0, zg_128_0, zg_129_0, zg_131_0, zg_131_1, zg_131_2, zg_131_3, Nat.reduceAdd, Nat.reduceMul, Int32.reduceAdd, Int32.reduceSub, Int32.reduceMul]
              first
              | refine ⟨vp_inb rfl, ?_⟩
              | refine ⟨fun h => absurd h (of_decide_eq_false rfl), fun _ => ?_⟩
              | refine ⟨fun _ => ?_, fun h => absurd (of_decide_eq_true rfl) h⟩
              | refine ⟨fun _ => ?_, fun h => absurd h (of_decide_eq_false rfl)⟩
              | refine ⟨fun h => absurd (of_decide_eq_true rfl) h, fun _ => ?_⟩
              | refine ⟨of_decide_eq_true rfl, ?_⟩
              | refine ⟨rfl, ?_⟩)
      try (conv => whnf)
      exact hK _ _ ⟨rfl, rfl, rfl, rfl, rfl⟩
def spX8_units : zSp := zDQ (X := zIn × zLo × Int64) (fun x => match x with | (s1, t1, v9) => [.ref 119]) (fun x => match x with | (s1, t1, v9) => (145, zSH, zRH, zmx s1, zmxL t1 v9)) (fun x => match x with | (s1, t1, v9) => True) (fun x r9 μ9 => match x with | (s1, t1, v9) => r9 = some (.int 1) ∧ zaft v9 0 μ9)
abbrev rmX8_units : Room := ({ frames := 1, cells := 0, slots := 0, locals := 21 } : Room)
set_option maxRecDepth 100000 in
set_option maxHeartbeats 4000000 in
theorem ctX8_units (l : Launch) (D : va_G) (cA : Nat → ClassId) : zCt false l D cA yX8_units cX8_units 1 (some .int) rmX8_units spX8_units := by
  refine zct_Q (zCX8_units [(155, 0, 1, spX8_ok, rmX8_ok.cells, rmX8_ok.slots)]) zpX8_units [] (by decide +kernel) zkX8_units (Or.inr (by decide +kernel)) trivial ⟨by decide +kernel, by decide +kernel⟩ (fun x ad => Nat.le_of_ble_eq_true rfl) ?_ ?_
  · intro p e s m args below meth c A H0 ad0 n0 Q F hml hNw hA hX
    exact ⟨zco_V hX hA F hml hNw (ctX8_ok l D cA) ⟨⟨zlX8_units_155, zwX8_ok.1.1, zwX8_ok.1.2⟩, zwX8_ok.2⟩ zdX8_ok ⟨Nat.le_of_ble_eq_true rfl, Nat.le_of_ble_eq_true rfl⟩ (ci := 8) (by decide) rfl (by rintro av μ K ⟨x, rfl, rfl, -⟩; exact ⟨_, _, rfl, rfl⟩), trivial⟩
  · rintro ⟨s1, t1, v9⟩ Ret hP hK Gl hG
    try dsimp only at hP hK
    show Gl 0 (zent 1 [.ref 119]) [] (0, 0) ((145, zSH, zRH, zmx s1, zmxL t1 v9))
    refine hG 1000 _ _ _ _ _ ?_
    repeat (conv => whnf
            try dsimp only
            try simp (decide := true) only [zu_same, zu_ne1, zu_ne2, zuL_same, zuL_ne1, zuL_ne2, zrow_n1, zx0, zx1, zx2, zx3, zf_0_13, zf_0_14, zf_0_15, zf_1_3, zf_15_0, zf_16_0, zf_17_10, zf_86_3, zf_90_6, zf_90_7, zf_94_7, zf_100_6, zf_100_7, zf_118_0, zf_118_1, zf_118_2, zf_118_3, zg_119_0, zg_119_5, zg_119_9, zg_119_15, zg_119_19, zg_119_22, zg_119_1, zg_119_16, zg_120_0, zg_120_1, zg_120_2, zg_120_3, zg_121_0, zg_122_0, zg_124_0, zg_126_0, zg_127_0, zg_128_0, zg_129_0, zg_131_0, zg_131_1, zg_131_2, zg_131_3, Nat.reduceAdd, Nat.reduceMul, Int32.reduceAdd, Int32.reduceSub, Int32.reduceMul]
            first
            | refine ⟨vp_inb rfl, ?_⟩
            | refine ⟨fun h => absurd h (of_decide_eq_false rfl), fun _ => ?_⟩
            | refine ⟨fun _ => ?_, fun h => absurd (of_decide_eq_true rfl) h⟩
            | refine ⟨fun _ => ?_, fun h => absurd h (of_decide_eq_false rfl)⟩
            | refine ⟨fun h => absurd (of_decide_eq_true rfl) h, fun _ => ?_⟩
            | refine ⟨of_decide_eq_true rfl, ?_⟩
            | refine ⟨rfl, ?_⟩)
    try (conv => whnf)
    refine ⟨(zmx s1, zmxL t1 v9, 1), rfl, rfl, trivial, ?_⟩
    try dsimp only
    repeat (conv => whnf
            try dsimp only
            try simp (decide := true) only [zu_same, zu_ne1, zu_ne2, zuL_same, zuL_ne1, zuL_ne2, zrow_n1, zx0, zx1, zx2, zx3, zf_0_13, zf_0_14, zf_0_15, zf_1_3, zf_15_0, zf_16_0, zf_17_10, zf_86_3, zf_90_6, zf_90_7, zf_94_7, zf_100_6, zf_100_7, zf_118_0, zf_118_1, zf_118_2, zf_118_3, zg_119_0, zg_119_5, zg_119_9, zg_119_15, zg_119_19, zg_119_22, zg_119_1, zg_119_16, zg_120_0, zg_120_1, zg_120_2, zg_120_3, zg_121_0, zg_122_0, zg_124_0, zg_126_0, zg_127_0, zg_128_0, zg_129_0, zg_131_0, zg_131_1, zg_131_2, zg_131_3, Nat.reduceAdd, Nat.reduceMul, Int32.reduceAdd, Int32.reduceSub, Int32.reduceMul]
            first
            | refine ⟨vp_inb rfl, ?_⟩
            | refine ⟨fun h => absurd h (of_decide_eq_false rfl), fun _ => ?_⟩
            | refine ⟨fun _ => ?_, fun h => absurd (of_decide_eq_true rfl) h⟩
            | refine ⟨fun _ => ?_, fun h => absurd h (of_decide_eq_false rfl)⟩
            | refine ⟨fun h => absurd (of_decide_eq_true rfl) h, fun _ => ?_⟩
            | refine ⟨of_decide_eq_true rfl, ?_⟩
            | refine ⟨rfl, ?_⟩)
    try (conv => whnf)
    exact hK _ _ ⟨rfl, rfl, rfl, rfl, rfl⟩
def spX8_variables : zSp := zDQ (X := zIn × zLo × Int64) (fun x => match x with | (s1, t1, v9) => [.ref 119]) (fun x => match x with | (s1, t1, v9) => (145, zSH, zRH, zmx s1, zmxL t1 v9)) (fun x => match x with | (s1, t1, v9) => True) (fun x r9 μ9 => match x with | (s1, t1, v9) => r9 = some (.int 0) ∧ zaft v9 0 μ9)
abbrev rmX8_variables : Room := ({ frames := 1, cells := 0, slots := 0, locals := 21 } : Room)
set_option maxRecDepth 100000 in
set_option maxHeartbeats 4000000 in
theorem ctX8_variables (l : Launch) (D : va_G) (cA : Nat → ClassId) : zCt false l D cA yX8_variables cX8_variables 1 (some .int) rmX8_variables spX8_variables := by
  refine zct_Q (zCX8_variables [(155, 0, 1, spX8_ok, rmX8_ok.cells, rmX8_ok.slots)]) zpX8_variables [] (by decide +kernel) zkX8_variables (Or.inr (by decide +kernel)) trivial ⟨by decide +kernel, by decide +kernel⟩ (fun x ad => Nat.le_of_ble_eq_true rfl) ?_ ?_
  · intro p e s m args below meth c A H0 ad0 n0 Q F hml hNw hA hX
    exact ⟨zco_V hX hA F hml hNw (ctX8_ok l D cA) ⟨⟨zlX8_variables_155, zwX8_ok.1.1, zwX8_ok.1.2⟩, zwX8_ok.2⟩ zdX8_ok ⟨Nat.le_of_ble_eq_true rfl, Nat.le_of_ble_eq_true rfl⟩ (ci := 8) (by decide) rfl (by rintro av μ K ⟨x, rfl, rfl, -⟩; exact ⟨_, _, rfl, rfl⟩), trivial⟩
  · rintro ⟨s1, t1, v9⟩ Ret hP hK Gl hG
    try dsimp only at hP hK
    show Gl 0 (zent 1 [.ref 119]) [] (0, 0) ((145, zSH, zRH, zmx s1, zmxL t1 v9))
    refine hG 1000 _ _ _ _ _ ?_
    repeat (conv => whnf
            try dsimp only
            try simp (decide := true) only [zu_same, zu_ne1, zu_ne2, zuL_same, zuL_ne1, zuL_ne2, zrow_n1, zx0, zx1, zx2, zx3, zf_0_13, zf_0_14, zf_0_15, zf_1_3, zf_15_0, zf_16_0, zf_17_10, zf_86_3, zf_90_6, zf_90_7, zf_94_7, zf_100_6, zf_100_7, zf_118_0, zf_118_1, zf_118_2, zf_118_3, zg_119_0, zg_119_5, zg_119_9, zg_119_15, zg_119_19, zg_119_22, zg_119_1, zg_119_16, zg_120_0, zg_120_1, zg_120_2, zg_120_3, zg_121_0, zg_122_0, zg_124_0, zg_126_0, zg_127_0, zg_128_0, zg_129_0, zg_131_0, zg_131_1, zg_131_2, zg_131_3, Nat.reduceAdd, Nat.reduceMul, Int32.reduceAdd, Int32.reduceSub, Int32.reduceMul]
            first
            | refine ⟨vp_inb rfl, ?_⟩
            | refine ⟨fun h => absurd h (of_decide_eq_false rfl), fun _ => ?_⟩
            | refine ⟨fun _ => ?_, fun h => absurd (of_decide_eq_true rfl) h⟩
            | refine ⟨fun _ => ?_, fun h => absurd h (of_decide_eq_false rfl)⟩
            | refine ⟨fun h => absurd (of_decide_eq_true rfl) h, fun _ => ?_⟩
            | refine ⟨of_decide_eq_true rfl, ?_⟩
            | refine ⟨rfl, ?_⟩)
    try (conv => whnf)
    refine ⟨(zmx s1, zmxL t1 v9, 0), rfl, rfl, trivial, ?_⟩
    try dsimp only
    repeat (conv => whnf
            try dsimp only
            try simp (decide := true) only [zu_same, zu_ne1, zu_ne2, zuL_same, zuL_ne1, zuL_ne2, zrow_n1, zx0, zx1, zx2, zx3, zf_0_13, zf_0_14, zf_0_15, zf_1_3, zf_15_0, zf_16_0, zf_17_10, zf_86_3, zf_90_6, zf_90_7, zf_94_7, zf_100_6, zf_100_7, zf_118_0, zf_118_1, zf_118_2, zf_118_3, zg_119_0, zg_119_5, zg_119_9, zg_119_15, zg_119_19, zg_119_22, zg_119_1, zg_119_16, zg_120_0, zg_120_1, zg_120_2, zg_120_3, zg_121_0, zg_122_0, zg_124_0, zg_126_0, zg_127_0, zg_128_0, zg_129_0, zg_131_0, zg_131_1, zg_131_2, zg_131_3, Nat.reduceAdd, Nat.reduceMul, Int32.reduceAdd, Int32.reduceSub, Int32.reduceMul]
            first
            | refine ⟨vp_inb rfl, ?_⟩
            | refine ⟨fun h => absurd h (of_decide_eq_false rfl), fun _ => ?_⟩
            | refine ⟨fun _ => ?_, fun h => absurd (of_decide_eq_true rfl) h⟩
            | refine ⟨fun _ => ?_, fun h => absurd h (of_decide_eq_false rfl)⟩
            | refine ⟨fun h => absurd (of_decide_eq_true rfl) h, fun _ => ?_⟩
            | refine ⟨of_decide_eq_true rfl, ?_⟩
            | refine ⟨rfl, ?_⟩)
    try (conv => whnf)
    exact hK _ _ ⟨rfl, rfl, rfl, rfl, rfl⟩
def spX8_parts : zSp := zDQ (X := zIn × zLo × Int64) (fun x => match x with | (s1, t1, v9) => [.ref 119]) (fun x => match x with | (s1, t1, v9) => (145, zSH, zRH, zmx s1, zmxL t1 v9)) (fun x => match x with | (s1, t1, v9) => True) (fun x r9 μ9 => match x with | (s1, t1, v9) => r9 = some (.int 0) ∧ zaft v9 0 μ9)
abbrev rmX8_parts : Room := ({ frames := 1, cells := 0, slots := 0, locals := 21 } : Room)
set_option maxRecDepth 100000 in
set_option maxHeartbeats 4000000 in
theorem ctX8_parts (l : Launch) (D : va_G) (cA : Nat → ClassId) : zCt false l D cA yX8_parts cX8_parts 1 (some .int) rmX8_parts spX8_parts := by
  refine zct_Q (zCX8_parts [(155, 0, 1, spX8_ok, rmX8_ok.cells, rmX8_ok.slots)]) zpX8_parts [] (by decide +kernel) zkX8_parts (Or.inr (by decide +kernel)) trivial ⟨by decide +kernel, by decide +kernel⟩ (fun x ad => Nat.le_of_ble_eq_true rfl) ?_ ?_
  · intro p e s m args below meth c A H0 ad0 n0 Q F hml hNw hA hX
    exact ⟨zco_V hX hA F hml hNw (ctX8_ok l D cA) ⟨⟨zlX8_parts_155, zwX8_ok.1.1, zwX8_ok.1.2⟩, zwX8_ok.2⟩ zdX8_ok ⟨Nat.le_of_ble_eq_true rfl, Nat.le_of_ble_eq_true rfl⟩ (ci := 8) (by decide) rfl (by rintro av μ K ⟨x, rfl, rfl, -⟩; exact ⟨_, _, rfl, rfl⟩), trivial⟩
  · rintro ⟨s1, t1, v9⟩ Ret hP hK Gl hG
    try dsimp only at hP hK
    show Gl 0 (zent 1 [.ref 119]) [] (0, 0) ((145, zSH, zRH, zmx s1, zmxL t1 v9))
    refine hG 1000 _ _ _ _ _ ?_
    repeat (conv => whnf
            try dsimp only
            try simp (decide := true) only [zu_same, zu_ne1, zu_ne2, zuL_same, zuL_ne1, zuL_ne2, zrow_n1, zx0, zx1, zx2, zx3, zf_0_13, zf_0_14, zf_0_15, zf_1_3, zf_15_0, zf_16_0, zf_17_10, zf_86_3, zf_90_6, zf_90_7, zf_94_7, zf_100_6, zf_100_7, zf_118_0, zf_118_1, zf_118_2, zf_118_3, zg_119_0, zg_119_5, zg_119_9, zg_119_15, zg_119_19, zg_119_22, zg_119_1, zg_119_16, zg_120_0, zg_120_1, zg_120_2, zg_120_3, zg_121_0, zg_122_0, zg_124_0, zg_126_0, zg_127_0, zg_128_0, zg_129_0, zg_131_0, zg_131_1, zg_131_2, zg_131_3, Nat.reduceAdd, Nat.reduceMul, Int32.reduceAdd, Int32.reduceSub, Int32.reduceMul]
            first
            | refine ⟨vp_inb rfl, ?_⟩
            | refine ⟨fun h => absurd h (of_decide_eq_false rfl), fun _ => ?_⟩
            | refine ⟨fun _ => ?_, fun h => absurd (of_decide_eq_true rfl) h⟩
            | refine ⟨fun _ => ?_, fun h => absurd h (of_decide_eq_false rfl)⟩
            | refine ⟨fun h => absurd (of_decide_eq_true rfl) h, fun _ => ?_⟩
            | refine ⟨of_decide_eq_true rfl, ?_⟩
            | refine ⟨rfl, ?_⟩)
    try (conv => whnf)
    refine ⟨(zmx s1, zmxL t1 v9, 0), rfl, rfl, trivial, ?_⟩
    try dsimp only
    repeat (conv => whnf
            try dsimp only
            try simp (decide := true) only [zu_same, zu_ne1, zu_ne2, zuL_same, zuL_ne1, zuL_ne2, zrow_n1, zx0, zx1, zx2, zx3, zf_0_13, zf_0_14, zf_0_15, zf_1_3, zf_15_0, zf_16_0, zf_17_10, zf_86_3, zf_90_6, zf_90_7, zf_94_7, zf_100_6, zf_100_7, zf_118_0, zf_118_1, zf_118_2, zf_118_3, zg_119_0, zg_119_5, zg_119_9, zg_119_15, zg_119_19, zg_119_22, zg_119_1, zg_119_16, zg_120_0, zg_120_1, zg_120_2, zg_120_3, zg_121_0, zg_122_0, zg_124_0, zg_126_0, zg_127_0, zg_128_0, zg_129_0, zg_131_0, zg_131_1, zg_131_2, zg_131_3, Nat.reduceAdd, Nat.reduceMul, Int32.reduceAdd, Int32.reduceSub, Int32.reduceMul]
            first
            | refine ⟨vp_inb rfl, ?_⟩
            | refine ⟨fun h => absurd h (of_decide_eq_false rfl), fun _ => ?_⟩
            | refine ⟨fun _ => ?_, fun h => absurd (of_decide_eq_true rfl) h⟩
            | refine ⟨fun _ => ?_, fun h => absurd h (of_decide_eq_false rfl)⟩
            | refine ⟨fun h => absurd (of_decide_eq_true rfl) h, fun _ => ?_⟩
            | refine ⟨of_decide_eq_true rfl, ?_⟩
            | refine ⟨rfl, ?_⟩)
    try (conv => whnf)
    exact hK _ _ ⟨rfl, rfl, rfl, rfl, rfl⟩
def spX8_faults : zSp := zDQ (X := zIn × zLo × Int64) (fun x => match x with | (s1, t1, v9) => [.ref 119]) (fun x => match x with | (s1, t1, v9) => (145, zSH, zRH, zmx s1, zmxL t1 v9)) (fun x => match x with | (s1, t1, v9) => True) (fun x r9 μ9 => match x with | (s1, t1, v9) => r9 = some (.int 0) ∧ zaft v9 0 μ9)
abbrev rmX8_faults : Room := ({ frames := 1, cells := 0, slots := 0, locals := 25 } : Room)
set_option maxRecDepth 100000 in
set_option maxHeartbeats 4000000 in
theorem ctX8_faults (l : Launch) (D : va_G) (cA : Nat → ClassId) : zCt false l D cA yX8_faults cX8_faults 1 (some .int) rmX8_faults spX8_faults := by
  refine zct_Q (zCX8_faults [(182, 0, 0, spX8_noteFaults, rmX8_noteFaults.cells, rmX8_noteFaults.slots)]) zpX8_faults [] (by decide +kernel) zkX8_faults (Or.inr (by decide +kernel)) trivial ⟨by decide +kernel, by decide +kernel⟩ (fun x ad => Nat.le_of_ble_eq_true rfl) ?_ ?_
  · intro p e s m args below meth c A H0 ad0 n0 Q F hml hNw hA hX
    exact ⟨zco_V hX hA F hml hNw (ctX8_noteFaults l D cA) ⟨⟨zlX8_faults_182, zwX8_noteFaults.1.1, zwX8_noteFaults.1.2⟩, zwX8_noteFaults.2⟩ zdX8_noteFaults ⟨Nat.le_of_ble_eq_true rfl, Nat.le_of_ble_eq_true rfl⟩ (ci := 8) (by decide) rfl (by rintro av μ K ⟨⟨μ0, x9⟩, rfl, rfl, h9, -⟩; exact ⟨_, _, rfl, congrArg Prod.fst h9.1⟩), trivial⟩
  · rintro ⟨s1, t1, v9⟩ Ret hP hK Gl hG
    try dsimp only at hP hK
    show Gl 0 (zent 1 [.ref 119]) [] (0, 0) ((145, zSH, zRH, zmx s1, zmxL t1 v9))
    refine hG 1000 _ _ _ _ _ ?_
    repeat (conv => whnf
            try dsimp only
            try simp (decide := true) only [zu_same, zu_ne1, zu_ne2, zuL_same, zuL_ne1, zuL_ne2, zrow_n1, zx0, zx1, zx2, zx3, zf_0_13, zf_0_14, zf_0_15, zf_1_3, zf_15_0, zf_16_0, zf_17_10, zf_86_3, zf_90_6, zf_90_7, zf_94_7, zf_100_6, zf_100_7, zf_118_0, zf_118_1, zf_118_2, zf_118_3, zg_119_0, zg_119_5, zg_119_9, zg_119_15, zg_119_19, zg_119_22, zg_119_1, zg_119_16, zg_120_0, zg_120_1, zg_120_2, zg_120_3, zg_121_0, zg_122_0, zg_124_0, zg_126_0, zg_127_0, zg_128_0, zg_129_0, zg_131_0, zg_131_1, zg_131_2, zg_131_3, Nat.reduceAdd, Nat.reduceMul, Int32.reduceAdd, Int32.reduceSub, Int32.reduceMul]
            first
            | refine ⟨vp_inb rfl, ?_⟩
            | refine ⟨fun h => absurd h (of_decide_eq_false rfl), fun _ => ?_⟩
            | refine ⟨fun _ => ?_, fun h => absurd (of_decide_eq_true rfl) h⟩
            | refine ⟨fun _ => ?_, fun h => absurd h (of_decide_eq_false rfl)⟩
            | refine ⟨fun h => absurd (of_decide_eq_true rfl) h, fun _ => ?_⟩
            | refine ⟨of_decide_eq_true rfl, ?_⟩
            | refine ⟨rfl, ?_⟩)
    try (conv => whnf)
    refine ⟨((145, zSH, zRH, zu (zmx s1) 119 0 0, zmxL t1 v9), ()), rfl, rfl, ⟨rfl, rfl⟩, ?_⟩
    try dsimp only
    repeat (conv => whnf
            try dsimp only
            try simp (decide := true) only [zu_same, zu_ne1, zu_ne2, zuL_same, zuL_ne1, zuL_ne2, zrow_n1, zx0, zx1, zx2, zx3, zf_0_13, zf_0_14, zf_0_15, zf_1_3, zf_15_0, zf_16_0, zf_17_10, zf_86_3, zf_90_6, zf_90_7, zf_94_7, zf_100_6, zf_100_7, zf_118_0, zf_118_1, zf_118_2, zf_118_3, zg_119_0, zg_119_5, zg_119_9, zg_119_15, zg_119_19, zg_119_22, zg_119_1, zg_119_16, zg_120_0, zg_120_1, zg_120_2, zg_120_3, zg_121_0, zg_122_0, zg_124_0, zg_126_0, zg_127_0, zg_128_0, zg_129_0, zg_131_0, zg_131_1, zg_131_2, zg_131_3, Nat.reduceAdd, Nat.reduceMul, Int32.reduceAdd, Int32.reduceSub, Int32.reduceMul]
            first
            | refine ⟨vp_inb rfl, ?_⟩
            | refine ⟨fun h => absurd h (of_decide_eq_false rfl), fun _ => ?_⟩
            | refine ⟨fun _ => ?_, fun h => absurd (of_decide_eq_true rfl) h⟩
            | refine ⟨fun _ => ?_, fun h => absurd h (of_decide_eq_false rfl)⟩
            | refine ⟨fun h => absurd (of_decide_eq_true rfl) h, fun _ => ?_⟩
            | refine ⟨of_decide_eq_true rfl, ?_⟩
            | refine ⟨rfl, ?_⟩)
    try (conv => whnf)
    exact hK _ _ ⟨rfl, rfl, rfl, rfl, rfl⟩
def spX8_ofFault : zSp := zDQ (X := Int32 × Int32 × zIn × zLo × Int64) (fun x => match x with | (a, b, s1, t1, v9) => [.ref 119, .int a, .int b]) (fun x => match x with | (a, b, s1, t1, v9) => (145, zSH, zRH, zmx s1, zmxL t1 v9)) (fun x => match x with | (a, b, s1, t1, v9) => True) (fun x r9 μ9 => match x with | (a, b, s1, t1, v9) => r9 = some (.int 0) ∧ zaft v9 1 μ9)
abbrev rmX8_ofFault : Room := ({ frames := 1, cells := 0, slots := 0, locals := 25 } : Room)
set_option maxRecDepth 100000 in
set_option maxHeartbeats 4000000 in
theorem ctX8_ofFault (l : Launch) (D : va_G) (cA : Nat → ClassId) : zCt false l D cA yX8_ofFault cX8_ofFault 3 (some .int) rmX8_ofFault spX8_ofFault := by
  refine zct_Q (zCX8_ofFault [(182, 0, 0, spX8_noteFaults, rmX8_noteFaults.cells, rmX8_noteFaults.slots), (90, 1, 3, spX8_isIn, rmX8_isIn.cells, rmX8_isIn.slots), (118, 0, 1, spX8_no, rmX8_no.cells, rmX8_no.slots)]) zpX8_ofFault [] (by decide +kernel) zkX8_ofFault (Or.inr (by decide +kernel)) trivial ⟨by decide +kernel, by decide +kernel⟩ (fun x ad => Nat.le_of_ble_eq_true rfl) ?_ ?_
  · intro p e s m args below meth c A H0 ad0 n0 Q F hml hNw hA hX
    exact ⟨zco_V hX hA F hml hNw (ctX8_noteFaults l D cA) ⟨⟨zlX8_ofFault_182, zwX8_noteFaults.1.1, zwX8_noteFaults.1.2⟩, zwX8_noteFaults.2⟩ zdX8_noteFaults ⟨Nat.le_of_ble_eq_true rfl, Nat.le_of_ble_eq_true rfl⟩ (ci := 8) (by decide) rfl (by rintro av μ K ⟨⟨μ0, x9⟩, rfl, rfl, h9, -⟩; exact ⟨_, _, rfl, congrArg Prod.fst h9.1⟩), zco_S hX hA F hml hNw (ctX8_isIn l D cA) ⟨⟨zlX8_ofFault_90, zwX8_isIn.1⟩, zwX8_isIn.2⟩ zdX8_isIn ⟨Nat.le_of_ble_eq_true rfl, Nat.le_of_ble_eq_true rfl⟩, zco_V hX hA F hml hNw (ctX8_no l D cA) ⟨⟨zlX8_ofFault_118, zwX8_no.1.1, zwX8_no.1.2⟩, zwX8_no.2⟩ zdX8_no ⟨Nat.le_of_ble_eq_true rfl, Nat.le_of_ble_eq_true rfl⟩ (ci := 8) (by decide) rfl (by rintro av μ K ⟨⟨μ0, x9⟩, rfl, rfl, h9, -⟩; exact ⟨_, _, rfl, congrArg Prod.fst h9.1⟩), trivial⟩
  · rintro ⟨a, b, s1, t1, v9⟩ Ret hP hK Gl hG
    try dsimp only at hP hK
    show Gl 0 (zent 3 [.ref 119, .int a, .int b]) [] (0, 0) ((145, zSH, zRH, zmx s1, zmxL t1 v9))
    refine hG 1000 _ _ _ _ _ ?_
    repeat (conv => whnf
            try dsimp only
            try simp (decide := true) only [zu_same, zu_ne1, zu_ne2, zuL_same, zuL_ne1, zuL_ne2, zrow_n1, zx0, zx1, zx2, zx3, zf_0_13, zf_0_14, zf_0_15, zf_1_3, zf_15_0, zf_16_0, zf_17_10, zf_86_3, zf_90_6, zf_90_7, zf_94_7, zf_100_6, zf_100_7, zf_118_0, zf_118_1, zf_118_2, zf_118_3, zg_119_0, zg_119_5, zg_119_9, zg_119_15, zg_119_19, zg_119_22, zg_119_1, zg_119_16, zg_120_0, zg_120_1, zg_120_2, zg_120_3, zg_121_0, zg_122_0, zg_124_0, zg_126_0, zg_127_0, zg_128_0, zg_129_0, zg_131_0, zg_131_1, zg_131_2, zg_131_3, Nat.reduceAdd, Nat.reduceMul, Int32.reduceAdd, Int32.reduceSub, Int32.reduceMul]
            first
            | refine ⟨vp_inb rfl, ?_⟩
            | refine ⟨fun h => absurd h (of_decide_eq_false rfl), fun _ => ?_⟩
            | refine ⟨fun _ => ?_, fun h => absurd (of_decide_eq_true rfl) h⟩
            | refine ⟨fun _ => ?_, fun h => absurd h (of_decide_eq_false rfl)⟩
            | refine ⟨fun h => absurd (of_decide_eq_true rfl) h, fun _ => ?_⟩
            | refine ⟨of_decide_eq_true rfl, ?_⟩
            | refine ⟨rfl, ?_⟩)
    try (conv => whnf)
    refine ⟨((145, zSH, zRH, zu (zmx s1) 119 0 0, zmxL t1 v9), ()), rfl, rfl, ⟨rfl, rfl⟩, ?_⟩
    try dsimp only
    repeat (conv => whnf
            try dsimp only
            try simp (decide := true) only [zu_same, zu_ne1, zu_ne2, zuL_same, zuL_ne1, zuL_ne2, zrow_n1, zx0, zx1, zx2, zx3, zf_0_13, zf_0_14, zf_0_15, zf_1_3, zf_15_0, zf_16_0, zf_17_10, zf_86_3, zf_90_6, zf_90_7, zf_94_7, zf_100_6, zf_100_7, zf_118_0, zf_118_1, zf_118_2, zf_118_3, zg_119_0, zg_119_5, zg_119_9, zg_119_15, zg_119_19, zg_119_22, zg_119_1, zg_119_16, zg_120_0, zg_120_1, zg_120_2, zg_120_3, zg_121_0, zg_122_0, zg_124_0, zg_126_0, zg_127_0, zg_128_0, zg_129_0, zg_131_0, zg_131_1, zg_131_2, zg_131_3, Nat.reduceAdd, Nat.reduceMul, Int32.reduceAdd, Int32.reduceSub, Int32.reduceMul]
            first
            | refine ⟨vp_inb rfl, ?_⟩
            | refine ⟨fun h => absurd h (of_decide_eq_false rfl), fun _ => ?_⟩
            | refine ⟨fun _ => ?_, fun h => absurd (of_decide_eq_true rfl) h⟩
            | refine ⟨fun _ => ?_, fun h => absurd h (of_decide_eq_false rfl)⟩
            | refine ⟨fun h => absurd (of_decide_eq_true rfl) h, fun _ => ?_⟩
            | refine ⟨of_decide_eq_true rfl, ?_⟩
            | refine ⟨rfl, ?_⟩)
    try (conv => whnf)
    refine ⟨(a, 0, _, _), rfl, rfl, trivial, ?_⟩
    try dsimp only
    rw [if_neg znoM1]
    repeat (conv => whnf
            try dsimp only
            try simp (decide := true) only [zu_same, zu_ne1, zu_ne2, zuL_same, zuL_ne1, zuL_ne2, zrow_n1, zx0, zx1, zx2, zx3, zf_0_13, zf_0_14, zf_0_15, zf_1_3, zf_15_0, zf_16_0, zf_17_10, zf_86_3, zf_90_6, zf_90_7, zf_94_7, zf_100_6, zf_100_7, zf_118_0, zf_118_1, zf_118_2, zf_118_3, zg_119_0, zg_119_5, zg_119_9, zg_119_15, zg_119_19, zg_119_22, zg_119_1, zg_119_16, zg_120_0, zg_120_1, zg_120_2, zg_120_3, zg_121_0, zg_122_0, zg_124_0, zg_126_0, zg_127_0, zg_128_0, zg_129_0, zg_131_0, zg_131_1, zg_131_2, zg_131_3, Nat.reduceAdd, Nat.reduceMul, Int32.reduceAdd, Int32.reduceSub, Int32.reduceMul]
            first
            | refine ⟨vp_inb rfl, ?_⟩
            | refine ⟨fun h => absurd h (of_decide_eq_false rfl), fun _ => ?_⟩
            | refine ⟨fun _ => ?_, fun h => absurd (of_decide_eq_true rfl) h⟩
            | refine ⟨fun _ => ?_, fun h => absurd h (of_decide_eq_false rfl)⟩
            | refine ⟨fun h => absurd (of_decide_eq_true rfl) h, fun _ => ?_⟩
            | refine ⟨of_decide_eq_true rfl, ?_⟩
            | refine ⟨rfl, ?_⟩)
    try (conv => whnf)
    refine ⟨(_, 1), rfl, rfl, ⟨rfl, trivial⟩, ?_⟩
    try dsimp only
    repeat (conv => whnf
            try dsimp only
            try simp (decide := true) only [zu_same, zu_ne1, zu_ne2, zuL_same, zuL_ne1, zuL_ne2, zrow_n1, zx0, zx1, zx2, zx3, zf_0_13, zf_0_14, zf_0_15, zf_1_3, zf_15_0, zf_16_0, zf_17_10, zf_86_3, zf_90_6, zf_90_7, zf_94_7, zf_100_6, zf_100_7, zf_118_0, zf_118_1, zf_118_2, zf_118_3, zg_119_0, zg_119_5, zg_119_9, zg_119_15, zg_119_19, zg_119_22, zg_119_1, zg_119_16, zg_120_0, zg_120_1, zg_120_2, zg_120_3, zg_121_0, zg_122_0, zg_124_0, zg_126_0, zg_127_0, zg_128_0, zg_129_0, zg_131_0, zg_131_1, zg_131_2, zg_131_3, Nat.reduceAdd, Nat.reduceMul, Int32.reduceAdd, Int32.reduceSub, Int32.reduceMul]
            first
            | refine ⟨vp_inb rfl, ?_⟩
            | refine ⟨fun h => absurd h (of_decide_eq_false rfl), fun _ => ?_⟩
            | refine ⟨fun _ => ?_, fun h => absurd (of_decide_eq_true rfl) h⟩
            | refine ⟨fun _ => ?_, fun h => absurd h (of_decide_eq_false rfl)⟩
            | refine ⟨fun h => absurd (of_decide_eq_true rfl) h, fun _ => ?_⟩
            | refine ⟨of_decide_eq_true rfl, ?_⟩
            | refine ⟨rfl, ?_⟩)
    try (conv => whnf)
    exact hK _ _ ⟨rfl, rfl, rfl, rfl, rfl⟩
def spX8_circles : zSp := zDQ (X := zIn × zLo × Int64) (fun x => match x with | (s1, t1, v9) => [.ref 119]) (fun x => match x with | (s1, t1, v9) => (145, zSH, zRH, zmx s1, zmxL t1 v9)) (fun x => match x with | (s1, t1, v9) => True) (fun x r9 μ9 => match x with | (s1, t1, v9) => r9 = some (.int 0) ∧ zaft v9 0 μ9)
abbrev rmX8_circles : Room := ({ frames := 1, cells := 2, slots := 32, locals := 27 } : Room)
set_option maxRecDepth 100000 in
set_option maxHeartbeats 4000000 in
theorem ctX8_circles (l : Launch) (D : va_G) (cA : Nat → ClassId) : zCt false l D cA yX8_circles cX8_circles 1 (some .int) rmX8_circles spX8_circles := by
  refine zct_Q (zCX8_circles [(210, 0, 0, spX8_tellCircles, rmX8_tellCircles.cells, rmX8_tellCircles.slots)]) zpX8_circles [] (by decide +kernel) zkX8_circles (Or.inr (by decide +kernel)) trivial ⟨by decide +kernel, by decide +kernel⟩ (fun x ad => Nat.le_of_ble_eq_true rfl) ?_ ?_
  · intro p e s m args below meth c A H0 ad0 n0 Q F hml hNw hA hX
    exact ⟨zco_V hX hA F hml hNw (ctX8_tellCircles l D cA) ⟨⟨zlX8_circles_210, zwX8_tellCircles.1.1, zwX8_tellCircles.1.2⟩, zwX8_tellCircles.2⟩ zdX8_tellCircles ⟨Nat.le_of_ble_eq_true rfl, Nat.le_of_ble_eq_true rfl⟩ (ci := 8) (by decide) rfl (by rintro av μ K ⟨⟨b9, x9⟩, rfl, rfl, -⟩; exact ⟨_, _, rfl, by cases b9 <;> rfl⟩), trivial⟩
  · rintro ⟨s1, t1, v9⟩ Ret hP hK Gl hG
    try dsimp only at hP hK
    show Gl 0 (zent 1 [.ref 119]) [] (0, 0) ((145, zSH, zRH, zmx s1, zmxL t1 v9))
    refine hG 1000 _ _ _ _ _ ?_
    repeat (conv => whnf
            try dsimp only
            try simp (decide := true) only [zu_same, zu_ne1, zu_ne2, zuL_same, zuL_ne1, zuL_ne2, zrow_n1, zx0, zx1, zx2, zx3, zf_0_13, zf_0_14, zf_0_15, zf_1_3, zf_15_0, zf_16_0, zf_17_10, zf_86_3, zf_90_6, zf_90_7, zf_94_7, zf_100_6, zf_100_7, zf_118_0, zf_118_1, zf_118_2, zf_118_3, zg_119_0, zg_119_5, zg_119_9, zg_119_15, zg_119_19, zg_119_22, zg_119_1, zg_119_16, zg_120_0, zg_120_1, zg_120_2, zg_120_3, zg_121_0, zg_122_0, zg_124_0, zg_126_0, zg_127_0, zg_128_0, zg_129_0, zg_131_0, zg_131_1, zg_131_2, zg_131_3, Nat.reduceAdd, Nat.reduceMul, Int32.reduceAdd, Int32.reduceSub, Int32.reduceMul]
            first
            | refine ⟨vp_inb rfl, ?_⟩
            | refine ⟨fun h => absurd h (of_decide_eq_false rfl), fun _ => ?_⟩
            | refine ⟨fun _ => ?_, fun h => absurd (of_decide_eq_true rfl) h⟩
            | refine ⟨fun _ => ?_, fun h => absurd h (of_decide_eq_false rfl)⟩
            | refine ⟨fun h => absurd (of_decide_eq_true rfl) h, fun _ => ?_⟩
            | refine ⟨of_decide_eq_true rfl, ?_⟩
            | refine ⟨rfl, ?_⟩)
    try (conv => whnf)
    refine ⟨(false, zu (zmx s1) 119 0 0, zmxL t1 v9), rfl, rfl, rfl, ?_⟩
    try dsimp only
    repeat (first
      | (conv => whnf
         try dsimp only
         try simp (decide := true) only [znew, zmW, cond, zT2, zu_same, zu_ne1, zu_ne2, zuL_same, zuL_ne1, zuL_ne2, zrow_n1, zx0, zx1, zx2, zx3, zf_0_13, zf_0_14, zf_0_15, zf_1_3, zf_15_0, zf_16_0, zf_17_10, zf_86_3, zf_90_6, zf_90_7, zf_94_7, zf_100_6, zf_100_7, zf_118_0, zf_118_1, zf_118_2, zf_118_3, zg_119_0, zg_119_5, zg_119_9, zg_119_15, zg_119_19, zg_119_22, zg_119_1, zg_119_16, zg_120_0, zg_120_1, zg_120_2, zg_120_3, zg_121_0, zg_122_0, zg_124_0, zg_126_0, zg_127_0, zg_128_0, zg_129_0, zg_131_0, zg_131_1, zg_131_2, zg_131_3, Nat.reduceAdd, Nat.reduceMul, Int32.reduceAdd, Int32.reduceSub, Int32.reduceMul]
         first
         | refine ⟨vp_inb rfl, ?_⟩
         | refine ⟨fun h => absurd h (of_decide_eq_false rfl), fun _ => ?_⟩
         | refine ⟨fun _ => ?_, fun h => absurd (of_decide_eq_true rfl) h⟩
         | refine ⟨fun _ => ?_, fun h => absurd h (of_decide_eq_false rfl)⟩
         | refine ⟨fun h => absurd (of_decide_eq_true rfl) h, fun _ => ?_⟩
         | refine ⟨of_decide_eq_true rfl, ?_⟩
         | refine ⟨rfl, ?_⟩)
      | (conv => whnf
         fail_if_success refine Exists.intro ?_ ?_
         simp only [znew, zmW, cond, zT2]))
    try (conv => whnf)
    exact hK _ _ ⟨rfl, rfl, rfl, rfl, rfl⟩
def spX8_circle : zSp := zDQ (X := Int32 × Int32 × zIn × zLo × Int64) (fun x => match x with | (a, b, s1, t1, v9) => [.ref 119, .int a, .int b]) (fun x => match x with | (a, b, s1, t1, v9) => (145, zSH, zRH, zmx s1, zmxL t1 v9)) (fun x => match x with | (a, b, s1, t1, v9) => True) (fun x r9 μ9 => match x with | (a, b, s1, t1, v9) => r9 = some (.int 0) ∧ zaft v9 1 μ9)
abbrev rmX8_circle : Room := ({ frames := 2, cells := 2, slots := 32, locals := 48 } : Room)
set_option maxRecDepth 100000 in
set_option maxHeartbeats 4000000 in
theorem ctX8_circle (l : Launch) (D : va_G) (cA : Nat → ClassId) : zCt false l D cA yX8_circle cX8_circle 3 (some .int) rmX8_circle spX8_circle := by
  refine zct_Q (zCX8_circle [(231, 0, 0, spX8_solve, rmX8_solve.cells, rmX8_solve.slots), (90, 1, 3, spX8_isIn, rmX8_isIn.cells, rmX8_isIn.slots), (118, 0, 1, spX8_no, rmX8_no.cells, rmX8_no.slots)]) zpX8_circle [] (by decide +kernel) zkX8_circle (Or.inr (by decide +kernel)) trivial ⟨by decide +kernel, by decide +kernel⟩ (fun x ad => Nat.le_of_ble_eq_true rfl) ?_ ?_
  · intro p e s m args below meth c A H0 ad0 n0 Q F hml hNw hA hX
    exact ⟨zco_V hX hA F hml hNw (ctX8_solve l D cA) ⟨⟨zlX8_circle_231, zwX8_solve.1.1, zwX8_solve.1.2⟩, zwX8_solve.2⟩ zdX8_solve ⟨Nat.le_of_ble_eq_true rfl, Nat.le_of_ble_eq_true rfl⟩ (ci := 8) (by decide) rfl (by rintro av μ K ⟨⟨b9, x9⟩, rfl, rfl, -⟩; exact ⟨_, _, rfl, by cases b9 <;> rfl⟩), zco_S hX hA F hml hNw (ctX8_isIn l D cA) ⟨⟨zlX8_circle_90, zwX8_isIn.1⟩, zwX8_isIn.2⟩ zdX8_isIn ⟨Nat.le_of_ble_eq_true rfl, Nat.le_of_ble_eq_true rfl⟩, zco_V hX hA F hml hNw (ctX8_no l D cA) ⟨⟨zlX8_circle_118, zwX8_no.1.1, zwX8_no.1.2⟩, zwX8_no.2⟩ zdX8_no ⟨Nat.le_of_ble_eq_true rfl, Nat.le_of_ble_eq_true rfl⟩ (ci := 8) (by decide) rfl (by rintro av μ K ⟨⟨μ0, x9⟩, rfl, rfl, h9, -⟩; exact ⟨_, _, rfl, congrArg Prod.fst h9.1⟩), trivial⟩
  · rintro ⟨a, b, s1, t1, v9⟩ Ret hP hK Gl hG
    try dsimp only at hP hK
    show Gl 0 (zent 3 [.ref 119, .int a, .int b]) [] (0, 0) ((145, zSH, zRH, zmx s1, zmxL t1 v9))
    refine hG 1000 _ _ _ _ _ ?_
    repeat (conv => whnf
            try dsimp only
            try simp (decide := true) only [zu_same, zu_ne1, zu_ne2, zuL_same, zuL_ne1, zuL_ne2, zrow_n1, zx0, zx1, zx2, zx3, zf_0_13, zf_0_14, zf_0_15, zf_1_3, zf_15_0, zf_16_0, zf_17_10, zf_86_3, zf_90_6, zf_90_7, zf_94_7, zf_100_6, zf_100_7, zf_118_0, zf_118_1, zf_118_2, zf_118_3, zg_119_0, zg_119_5, zg_119_9, zg_119_15, zg_119_19, zg_119_22, zg_119_1, zg_119_16, zg_120_0, zg_120_1, zg_120_2, zg_120_3, zg_121_0, zg_122_0, zg_124_0, zg_126_0, zg_127_0, zg_128_0, zg_129_0, zg_131_0, zg_131_1, zg_131_2, zg_131_3, Nat.reduceAdd, Nat.reduceMul, Int32.reduceAdd, Int32.reduceSub, Int32.reduceMul]
            first
            | refine ⟨vp_inb rfl, ?_⟩
            | refine ⟨fun h => absurd h (of_decide_eq_false rfl), fun _ => ?_⟩
            | refine ⟨fun _ => ?_, fun h => absurd (of_decide_eq_true rfl) h⟩
            | refine ⟨fun _ => ?_, fun h => absurd h (of_decide_eq_false rfl)⟩
            | refine ⟨fun h => absurd (of_decide_eq_true rfl) h, fun _ => ?_⟩
            | refine ⟨of_decide_eq_true rfl, ?_⟩
            | refine ⟨rfl, ?_⟩)
    try (conv => whnf)
    refine ⟨(false, zu (zmx s1) 119 0 0, zmxL t1 v9), rfl, rfl, rfl, ?_⟩
    try dsimp only
    repeat (first
      | (conv => whnf
         try dsimp only
         try simp (decide := true) only [znew, zmW, cond, zT2, zu_same, zu_ne1, zu_ne2, zuL_same, zuL_ne1, zuL_ne2, zrow_n1, zx0, zx1, zx2, zx3, zf_0_13, zf_0_14, zf_0_15, zf_1_3, zf_15_0, zf_16_0, zf_17_10, zf_86_3, zf_90_6, zf_90_7, zf_94_7, zf_100_6, zf_100_7, zf_118_0, zf_118_1, zf_118_2, zf_118_3, zg_119_0, zg_119_5, zg_119_9, zg_119_15, zg_119_19, zg_119_22, zg_119_1, zg_119_16, zg_120_0, zg_120_1, zg_120_2, zg_120_3, zg_121_0, zg_122_0, zg_124_0, zg_126_0, zg_127_0, zg_128_0, zg_129_0, zg_131_0, zg_131_1, zg_131_2, zg_131_3, Nat.reduceAdd, Nat.reduceMul, Int32.reduceAdd, Int32.reduceSub, Int32.reduceMul]
         first
         | refine ⟨vp_inb rfl, ?_⟩
         | refine ⟨fun h => absurd h (of_decide_eq_false rfl), fun _ => ?_⟩
         | refine ⟨fun _ => ?_, fun h => absurd (of_decide_eq_true rfl) h⟩
         | refine ⟨fun _ => ?_, fun h => absurd h (of_decide_eq_false rfl)⟩
         | refine ⟨fun h => absurd (of_decide_eq_true rfl) h, fun _ => ?_⟩
         | refine ⟨of_decide_eq_true rfl, ?_⟩
         | refine ⟨rfl, ?_⟩)
      | (conv => whnf
         fail_if_success refine Exists.intro ?_ ?_
         simp only [znew, zmW, cond, zT2]))
    try (conv => whnf)
    refine ⟨(a, 0, _, _), rfl, rfl, trivial, ?_⟩
    try dsimp only
    rw [if_neg znoM1]
    repeat (conv => whnf
            try dsimp only
            try simp (decide := true) only [zu_same, zu_ne1, zu_ne2, zuL_same, zuL_ne1, zuL_ne2, zrow_n1, zx0, zx1, zx2, zx3, zf_0_13, zf_0_14, zf_0_15, zf_1_3, zf_15_0, zf_16_0, zf_17_10, zf_86_3, zf_90_6, zf_90_7, zf_94_7, zf_100_6, zf_100_7, zf_118_0, zf_118_1, zf_118_2, zf_118_3, zg_119_0, zg_119_5, zg_119_9, zg_119_15, zg_119_19, zg_119_22, zg_119_1, zg_119_16, zg_120_0, zg_120_1, zg_120_2, zg_120_3, zg_121_0, zg_122_0, zg_124_0, zg_126_0, zg_127_0, zg_128_0, zg_129_0, zg_131_0, zg_131_1, zg_131_2, zg_131_3, Nat.reduceAdd, Nat.reduceMul, Int32.reduceAdd, Int32.reduceSub, Int32.reduceMul]
            first
            | refine ⟨vp_inb rfl, ?_⟩
            | refine ⟨fun h => absurd h (of_decide_eq_false rfl), fun _ => ?_⟩
            | refine ⟨fun _ => ?_, fun h => absurd (of_decide_eq_true rfl) h⟩
            | refine ⟨fun _ => ?_, fun h => absurd h (of_decide_eq_false rfl)⟩
            | refine ⟨fun h => absurd (of_decide_eq_true rfl) h, fun _ => ?_⟩
            | refine ⟨of_decide_eq_true rfl, ?_⟩
            | refine ⟨rfl, ?_⟩)
    try (conv => whnf)
    refine ⟨(_, 1), rfl, rfl, ⟨rfl, trivial⟩, ?_⟩
    try dsimp only
    repeat (conv => whnf
            try dsimp only
            try simp (decide := true) only [zu_same, zu_ne1, zu_ne2, zuL_same, zuL_ne1, zuL_ne2, zrow_n1, zx0, zx1, zx2, zx3, zf_0_13, zf_0_14, zf_0_15, zf_1_3, zf_15_0, zf_16_0, zf_17_10, zf_86_3, zf_90_6, zf_90_7, zf_94_7, zf_100_6, zf_100_7, zf_118_0, zf_118_1, zf_118_2, zf_118_3, zg_119_0, zg_119_5, zg_119_9, zg_119_15, zg_119_19, zg_119_22, zg_119_1, zg_119_16, zg_120_0, zg_120_1, zg_120_2, zg_120_3, zg_121_0, zg_122_0, zg_124_0, zg_126_0, zg_127_0, zg_128_0, zg_129_0, zg_131_0, zg_131_1, zg_131_2, zg_131_3, Nat.reduceAdd, Nat.reduceMul, Int32.reduceAdd, Int32.reduceSub, Int32.reduceMul]
            first
            | refine ⟨vp_inb rfl, ?_⟩
            | refine ⟨fun h => absurd h (of_decide_eq_false rfl), fun _ => ?_⟩
            | refine ⟨fun _ => ?_, fun h => absurd (of_decide_eq_true rfl) h⟩
            | refine ⟨fun _ => ?_, fun h => absurd h (of_decide_eq_false rfl)⟩
            | refine ⟨fun h => absurd (of_decide_eq_true rfl) h, fun _ => ?_⟩
            | refine ⟨of_decide_eq_true rfl, ?_⟩
            | refine ⟨rfl, ?_⟩)
    try (conv => whnf)
    exact hK _ _ ⟨rfl, rfl, rfl, rfl, rfl⟩
def spX8_mostTurns : zSp := zDQ (X := zIn × zLo × Int64) (fun x => match x with | (s1, t1, v9) => [.ref 119]) (fun x => match x with | (s1, t1, v9) => (145, zSH, zRH, zmx s1, zmxL t1 v9)) (fun x => match x with | (s1, t1, v9) => True) (fun x r9 μ9 => match x with | (s1, t1, v9) => r9 = some (.int 0) ∧ zaft v9 0 μ9)
abbrev rmX8_mostTurns : Room := ({ frames := 2, cells := 2, slots := 32, locals := 48 } : Room)
set_option maxRecDepth 100000 in
set_option maxHeartbeats 4000000 in
theorem ctX8_mostTurns (l : Launch) (D : va_G) (cA : Nat → ClassId) : zCt false l D cA yX8_mostTurns cX8_mostTurns 1 (some .int) rmX8_mostTurns spX8_mostTurns := by
  refine zct_Q (zCX8_mostTurns [(231, 0, 0, spX8_solve, rmX8_solve.cells, rmX8_solve.slots), (239, 0, 0, spX8_mostNow, rmX8_mostNow.cells, rmX8_mostNow.slots)]) zpX8_mostTurns [] (by decide +kernel) zkX8_mostTurns (Or.inr (by decide +kernel)) trivial ⟨by decide +kernel, by decide +kernel⟩ (fun x ad => Nat.le_of_ble_eq_true rfl) ?_ ?_
  · intro p e s m args below meth c A H0 ad0 n0 Q F hml hNw hA hX
    exact ⟨zco_V hX hA F hml hNw (ctX8_solve l D cA) ⟨⟨zlX8_mostTurns_231, zwX8_solve.1.1, zwX8_solve.1.2⟩, zwX8_solve.2⟩ zdX8_solve ⟨Nat.le_of_ble_eq_true rfl, Nat.le_of_ble_eq_true rfl⟩ (ci := 8) (by decide) rfl (by rintro av μ K ⟨⟨b9, x9⟩, rfl, rfl, -⟩; exact ⟨_, _, rfl, by cases b9 <;> rfl⟩), zco_V hX hA F hml hNw (ctX8_mostNow l D cA) ⟨⟨zlX8_mostTurns_239, zwX8_mostNow.1.1, zwX8_mostNow.1.2⟩, zwX8_mostNow.2⟩ zdX8_mostNow ⟨Nat.le_of_ble_eq_true rfl, Nat.le_of_ble_eq_true rfl⟩ (ci := 8) (by decide) rfl (by rintro av μ K ⟨⟨μ0, x9⟩, rfl, rfl, h9, -⟩; exact ⟨_, _, rfl, congrArg Prod.fst h9.1⟩), trivial⟩
  · rintro ⟨s1, t1, v9⟩ Ret hP hK Gl hG
    try dsimp only at hP hK
    show Gl 0 (zent 1 [.ref 119]) [] (0, 0) ((145, zSH, zRH, zmx s1, zmxL t1 v9))
    refine hG 1000 _ _ _ _ _ ?_
    repeat (conv => whnf
            try dsimp only
            try simp (decide := true) only [zu_same, zu_ne1, zu_ne2, zuL_same, zuL_ne1, zuL_ne2, zrow_n1, zx0, zx1, zx2, zx3, zf_0_13, zf_0_14, zf_0_15, zf_1_3, zf_15_0, zf_16_0, zf_17_10, zf_86_3, zf_90_6, zf_90_7, zf_94_7, zf_100_6, zf_100_7, zf_118_0, zf_118_1, zf_118_2, zf_118_3, zg_119_0, zg_119_5, zg_119_9, zg_119_15, zg_119_19, zg_119_22, zg_119_1, zg_119_16, zg_120_0, zg_120_1, zg_120_2, zg_120_3, zg_121_0, zg_122_0, zg_124_0, zg_126_0, zg_127_0, zg_128_0, zg_129_0, zg_131_0, zg_131_1, zg_131_2, zg_131_3, Nat.reduceAdd, Nat.reduceMul, Int32.reduceAdd, Int32.reduceSub, Int32.reduceMul]
            first
            | refine ⟨vp_inb rfl, ?_⟩
            | refine ⟨fun h => absurd h (of_decide_eq_false rfl), fun _ => ?_⟩
            | refine ⟨fun _ => ?_, fun h => absurd (of_decide_eq_true rfl) h⟩
            | refine ⟨fun _ => ?_, fun h => absurd h (of_decide_eq_false rfl)⟩
            | refine ⟨fun h => absurd (of_decide_eq_true rfl) h, fun _ => ?_⟩
            | refine ⟨of_decide_eq_true rfl, ?_⟩
            | refine ⟨rfl, ?_⟩)
    try (conv => whnf)
    refine ⟨(false, zu (zmx s1) 119 0 0, zmxL t1 v9), rfl, rfl, rfl, ?_⟩
    try dsimp only
    repeat (first
      | (conv => whnf
         try dsimp only
         try simp (decide := true) only [znew, zmW, cond, zT2, zu_same, zu_ne1, zu_ne2, zuL_same, zuL_ne1, zuL_ne2, zrow_n1, zx0, zx1, zx2, zx3, zf_0_13, zf_0_14, zf_0_15, zf_1_3, zf_15_0, zf_16_0, zf_17_10, zf_86_3, zf_90_6, zf_90_7, zf_94_7, zf_100_6, zf_100_7, zf_118_0, zf_118_1, zf_118_2, zf_118_3, zg_119_0, zg_119_5, zg_119_9, zg_119_15, zg_119_19, zg_119_22, zg_119_1, zg_119_16, zg_120_0, zg_120_1, zg_120_2, zg_120_3, zg_121_0, zg_122_0, zg_124_0, zg_126_0, zg_127_0, zg_128_0, zg_129_0, zg_131_0, zg_131_1, zg_131_2, zg_131_3, Nat.reduceAdd, Nat.reduceMul, Int32.reduceAdd, Int32.reduceSub, Int32.reduceMul]
         first
         | refine ⟨vp_inb rfl, ?_⟩
         | refine ⟨fun h => absurd h (of_decide_eq_false rfl), fun _ => ?_⟩
         | refine ⟨fun _ => ?_, fun h => absurd (of_decide_eq_true rfl) h⟩
         | refine ⟨fun _ => ?_, fun h => absurd h (of_decide_eq_false rfl)⟩
         | refine ⟨fun h => absurd (of_decide_eq_true rfl) h, fun _ => ?_⟩
         | refine ⟨of_decide_eq_true rfl, ?_⟩
         | refine ⟨rfl, ?_⟩)
      | (conv => whnf
         fail_if_success refine Exists.intro ?_ ?_
         simp only [znew, zmW, cond, zT2]))
    try (conv => whnf)
    refine ⟨(_, ()), rfl, rfl, ⟨rfl, rfl⟩, ?_⟩
    try dsimp only
    repeat (conv => whnf
            try dsimp only
            try simp (decide := true) only [zu_same, zu_ne1, zu_ne2, zuL_same, zuL_ne1, zuL_ne2, zrow_n1, zx0, zx1, zx2, zx3, zf_0_13, zf_0_14, zf_0_15, zf_1_3, zf_15_0, zf_16_0, zf_17_10, zf_86_3, zf_90_6, zf_90_7, zf_94_7, zf_100_6, zf_100_7, zf_118_0, zf_118_1, zf_118_2, zf_118_3, zg_119_0, zg_119_5, zg_119_9, zg_119_15, zg_119_19, zg_119_22, zg_119_1, zg_119_16, zg_120_0, zg_120_1, zg_120_2, zg_120_3, zg_121_0, zg_122_0, zg_124_0, zg_126_0, zg_127_0, zg_128_0, zg_129_0, zg_131_0, zg_131_1, zg_131_2, zg_131_3, Nat.reduceAdd, Nat.reduceMul, Int32.reduceAdd, Int32.reduceSub, Int32.reduceMul]
            first
            | refine ⟨vp_inb rfl, ?_⟩
            | refine ⟨fun h => absurd h (of_decide_eq_false rfl), fun _ => ?_⟩
            | refine ⟨fun _ => ?_, fun h => absurd (of_decide_eq_true rfl) h⟩
            | refine ⟨fun _ => ?_, fun h => absurd h (of_decide_eq_false rfl)⟩
            | refine ⟨fun h => absurd (of_decide_eq_true rfl) h, fun _ => ?_⟩
            | refine ⟨of_decide_eq_true rfl, ?_⟩
            | refine ⟨rfl, ?_⟩)
    try (conv => whnf)
    exact hK _ _ ⟨rfl, rfl, rfl, rfl, rfl⟩
def spX8_broken : zSp := zDQ (X := zIn × zLo × Int64) (fun x => match x with | (s1, t1, v9) => [.ref 119]) (fun x => match x with | (s1, t1, v9) => (145, zSH, zRH, zmx s1, zmxL t1 v9)) (fun x => match x with | (s1, t1, v9) => True) (fun x r9 μ9 => match x with | (s1, t1, v9) => r9 = some (.int 0) ∧ zaft v9 0 μ9)
abbrev rmX8_broken : Room := ({ frames := 2, cells := 2, slots := 32, locals := 48 } : Room)
set_option maxRecDepth 100000 in
set_option maxHeartbeats 4000000 in
theorem ctX8_broken (l : Launch) (D : va_G) (cA : Nat → ClassId) : zCt false l D cA yX8_broken cX8_broken 1 (some .int) rmX8_broken spX8_broken := by
  refine zct_Q (zCX8_broken [(231, 0, 0, spX8_solve, rmX8_solve.cells, rmX8_solve.slots), (249, 0, 0, spX8_brokenNow, rmX8_brokenNow.cells, rmX8_brokenNow.slots)]) zpX8_broken [] (by decide +kernel) zkX8_broken (Or.inr (by decide +kernel)) trivial ⟨by decide +kernel, by decide +kernel⟩ (fun x ad => Nat.le_of_ble_eq_true rfl) ?_ ?_
  · intro p e s m args below meth c A H0 ad0 n0 Q F hml hNw hA hX
    exact ⟨zco_V hX hA F hml hNw (ctX8_solve l D cA) ⟨⟨zlX8_broken_231, zwX8_solve.1.1, zwX8_solve.1.2⟩, zwX8_solve.2⟩ zdX8_solve ⟨Nat.le_of_ble_eq_true rfl, Nat.le_of_ble_eq_true rfl⟩ (ci := 8) (by decide) rfl (by rintro av μ K ⟨⟨b9, x9⟩, rfl, rfl, -⟩; exact ⟨_, _, rfl, by cases b9 <;> rfl⟩), zco_V hX hA F hml hNw (ctX8_brokenNow l D cA) ⟨⟨zlX8_broken_249, zwX8_brokenNow.1.1, zwX8_brokenNow.1.2⟩, zwX8_brokenNow.2⟩ zdX8_brokenNow ⟨Nat.le_of_ble_eq_true rfl, Nat.le_of_ble_eq_true rfl⟩ (ci := 8) (by decide) rfl (by rintro av μ K ⟨⟨μ0, x9⟩, rfl, rfl, h9, -⟩; exact ⟨_, _, rfl, congrArg Prod.fst h9.1⟩), trivial⟩
  · rintro ⟨s1, t1, v9⟩ Ret hP hK Gl hG
    try dsimp only at hP hK
    show Gl 0 (zent 1 [.ref 119]) [] (0, 0) ((145, zSH, zRH, zmx s1, zmxL t1 v9))
    refine hG 1000 _ _ _ _ _ ?_
    repeat (conv => whnf
            try dsimp only
            try simp (decide := true) only [zu_same, zu_ne1, zu_ne2, zuL_same, zuL_ne1, zuL_ne2, zrow_n1, zx0, zx1, zx2, zx3, zf_0_13, zf_0_14, zf_0_15, zf_1_3, zf_15_0, zf_16_0, zf_17_10, zf_86_3, zf_90_6, zf_90_7, zf_94_7, zf_100_6, zf_100_7, zf_118_0, zf_118_1, zf_118_2, zf_118_3, zg_119_0, zg_119_5, zg_119_9, zg_119_15, zg_119_19, zg_119_22, zg_119_1, zg_119_16, zg_120_0, zg_120_1, zg_120_2, zg_120_3, zg_121_0, zg_122_0, zg_124_0, zg_126_0, zg_127_0, zg_128_0, zg_129_0, zg_131_0, zg_131_1, zg_131_2, zg_131_3, Nat.reduceAdd, Nat.reduceMul, Int32.reduceAdd, Int32.reduceSub, Int32.reduceMul]
            first
            | refine ⟨vp_inb rfl, ?_⟩
            | refine ⟨fun h => absurd h (of_decide_eq_false rfl), fun _ => ?_⟩
            | refine ⟨fun _ => ?_, fun h => absurd (of_decide_eq_true rfl) h⟩
            | refine ⟨fun _ => ?_, fun h => absurd h (of_decide_eq_false rfl)⟩
            | refine ⟨fun h => absurd (of_decide_eq_true rfl) h, fun _ => ?_⟩
            | refine ⟨of_decide_eq_true rfl, ?_⟩
            | refine ⟨rfl, ?_⟩)
    try (conv => whnf)
    refine ⟨(false, zu (zmx s1) 119 0 0, zmxL t1 v9), rfl, rfl, rfl, ?_⟩
    try dsimp only
    repeat (first
      | (conv => whnf
         try dsimp only
         try simp (decide := true) only [znew, zmW, cond, zT2, zu_same, zu_ne1, zu_ne2, zuL_same, zuL_ne1, zuL_ne2, zrow_n1, zx0, zx1, zx2, zx3, zf_0_13, zf_0_14, zf_0_15, zf_1_3, zf_15_0, zf_16_0, zf_17_10, zf_86_3, zf_90_6, zf_90_7, zf_94_7, zf_100_6, zf_100_7, zf_118_0, zf_118_1, zf_118_2, zf_118_3, zg_119_0, zg_119_5, zg_119_9, zg_119_15, zg_119_19, zg_119_22, zg_119_1, zg_119_16, zg_120_0, zg_120_1, zg_120_2, zg_120_3, zg_121_0, zg_122_0, zg_124_0, zg_126_0, zg_127_0, zg_128_0, zg_129_0, zg_131_0, zg_131_1, zg_131_2, zg_131_3, Nat.reduceAdd, Nat.reduceMul, Int32.reduceAdd, Int32.reduceSub, Int32.reduceMul]
         first
         | refine ⟨vp_inb rfl, ?_⟩
         | refine ⟨fun h => absurd h (of_decide_eq_false rfl), fun _ => ?_⟩
         | refine ⟨fun _ => ?_, fun h => absurd (of_decide_eq_true rfl) h⟩
         | refine ⟨fun _ => ?_, fun h => absurd h (of_decide_eq_false rfl)⟩
         | refine ⟨fun h => absurd (of_decide_eq_true rfl) h, fun _ => ?_⟩
         | refine ⟨of_decide_eq_true rfl, ?_⟩
         | refine ⟨rfl, ?_⟩)
      | (conv => whnf
         fail_if_success refine Exists.intro ?_ ?_
         simp only [znew, zmW, cond, zT2]))
    try (conv => whnf)
    refine ⟨(_, ()), rfl, rfl, ⟨rfl, rfl⟩, ?_⟩
    try dsimp only
    repeat (conv => whnf
            try dsimp only
            try simp (decide := true) only [zu_same, zu_ne1, zu_ne2, zuL_same, zuL_ne1, zuL_ne2, zrow_n1, zx0, zx1, zx2, zx3, zf_0_13, zf_0_14, zf_0_15, zf_1_3, zf_15_0, zf_16_0, zf_17_10, zf_86_3, zf_90_6, zf_90_7, zf_94_7, zf_100_6, zf_100_7, zf_118_0, zf_118_1, zf_118_2, zf_118_3, zg_119_0, zg_119_5, zg_119_9, zg_119_15, zg_119_19, zg_119_22, zg_119_1, zg_119_16, zg_120_0, zg_120_1, zg_120_2, zg_120_3, zg_121_0, zg_122_0, zg_124_0, zg_126_0, zg_127_0, zg_128_0, zg_129_0, zg_131_0, zg_131_1, zg_131_2, zg_131_3, Nat.reduceAdd, Nat.reduceMul, Int32.reduceAdd, Int32.reduceSub, Int32.reduceMul]
            first
            | refine ⟨vp_inb rfl, ?_⟩
            | refine ⟨fun h => absurd h (of_decide_eq_false rfl), fun _ => ?_⟩
            | refine ⟨fun _ => ?_, fun h => absurd (of_decide_eq_true rfl) h⟩
            | refine ⟨fun _ => ?_, fun h => absurd h (of_decide_eq_false rfl)⟩
            | refine ⟨fun h => absurd (of_decide_eq_true rfl) h, fun _ => ?_⟩
            | refine ⟨of_decide_eq_true rfl, ?_⟩
            | refine ⟨rfl, ?_⟩)
    try (conv => whnf)
    exact hK _ _ ⟨rfl, rfl, rfl, rfl, rfl⟩
def spX8_digest : zSp := zDQ (X := zIn × zLo × Int64) (fun x => match x with | (s1, t1, v9) => [.ref 119]) (fun x => match x with | (s1, t1, v9) => (145, zSH, zRH, zmx s1, zmxL t1 v9)) (fun x => match x with | (s1, t1, v9) => True) (fun x r9 μ9 => match x with | (s1, t1, v9) => r9 = some (.long 1597410775402452) ∧ zaft v9 0 μ9)
abbrev rmX8_digest : Room := ({ frames := 2, cells := 4, slots := 64, locals := 50 } : Room)
set_option maxRecDepth 100000 in
set_option maxHeartbeats 4000000 in
theorem ctX8_digest (l : Launch) (D : va_G) (cA : Nat → ClassId) : zCt false l D cA yX8_digest cX8_digest 6 (some .long) rmX8_digest spX8_digest := by
  refine zct_Q (zCX8_digest [(261, 0, 0, spX8_moved, rmX8_moved.cells, rmX8_moved.slots), (231, 0, 0, spX8_solve, rmX8_solve.cells, rmX8_solve.slots), (219, 0, 0, spX8_forget, rmX8_forget.cells, rmX8_forget.slots), (239, 0, 0, spX8_mostNow, rmX8_mostNow.cells, rmX8_mostNow.slots), (249, 0, 0, spX8_brokenNow, rmX8_brokenNow.cells, rmX8_brokenNow.slots)]) zpX8_digest [] (by decide +kernel) zkX8_digest (Or.inr (by decide +kernel)) trivial ⟨by decide +kernel, by decide +kernel⟩ (fun x ad => Nat.le_of_ble_eq_true rfl) ?_ ?_
  · intro p e s m args below meth c A H0 ad0 n0 Q F hml hNw hA hX
    exact ⟨zco_V hX hA F hml hNw (ctX8_moved l D cA) ⟨⟨zlX8_digest_261, zwX8_moved.1.1, zwX8_moved.1.2⟩, zwX8_moved.2⟩ zdX8_moved ⟨Nat.le_of_ble_eq_true rfl, Nat.le_of_ble_eq_true rfl⟩ (ci := 8) (by decide) rfl (by rintro av μ K ⟨x, rfl, rfl, -⟩; exact ⟨_, _, rfl, rfl⟩), zco_V hX hA F hml hNw (ctX8_solve l D cA) ⟨⟨zlX8_digest_231, zwX8_solve.1.1, zwX8_solve.1.2⟩, zwX8_solve.2⟩ zdX8_solve ⟨Nat.le_of_ble_eq_true rfl, Nat.le_of_ble_eq_true rfl⟩ (ci := 8) (by decide) rfl (by rintro av μ K ⟨⟨b9, x9⟩, rfl, rfl, -⟩; exact ⟨_, _, rfl, by cases b9 <;> rfl⟩), zco_V hX hA F hml hNw (ctX8_forget l D cA) ⟨⟨zlX8_digest_219, zwX8_forget.1.1, zwX8_forget.1.2⟩, zwX8_forget.2⟩ zdX8_forget ⟨Nat.le_of_ble_eq_true rfl, Nat.le_of_ble_eq_true rfl⟩ (ci := 8) (by decide) rfl (by rintro av μ K ⟨⟨μ0, x9⟩, rfl, rfl, h9, -⟩; exact ⟨_, _, rfl, congrArg Prod.fst h9.1⟩), zco_V hX hA F hml hNw (ctX8_mostNow l D cA) ⟨⟨zlX8_digest_239, zwX8_mostNow.1.1, zwX8_mostNow.1.2⟩, zwX8_mostNow.2⟩ zdX8_mostNow ⟨Nat.le_of_ble_eq_true rfl, Nat.le_of_ble_eq_true rfl⟩ (ci := 8) (by decide) rfl (by rintro av μ K ⟨⟨μ0, x9⟩, rfl, rfl, h9, -⟩; exact ⟨_, _, rfl, congrArg Prod.fst h9.1⟩), zco_V hX hA F hml hNw (ctX8_brokenNow l D cA) ⟨⟨zlX8_digest_249, zwX8_brokenNow.1.1, zwX8_brokenNow.1.2⟩, zwX8_brokenNow.2⟩ zdX8_brokenNow ⟨Nat.le_of_ble_eq_true rfl, Nat.le_of_ble_eq_true rfl⟩ (ci := 8) (by decide) rfl (by rintro av μ K ⟨⟨μ0, x9⟩, rfl, rfl, h9, -⟩; exact ⟨_, _, rfl, congrArg Prod.fst h9.1⟩), trivial⟩
  · rintro ⟨s1, t1, v9⟩ Ret hP hK Gl hG
    try dsimp only at hP hK
    show Gl 0 (zent 6 [.ref 119]) [] (0, 0) ((145, zSH, zRH, zmx s1, zmxL t1 v9))
    refine hG 1000 _ _ _ _ _ ?_
    repeat (conv => whnf
            try dsimp only
            try simp (decide := true) only [zu_same, zu_ne1, zu_ne2, zuL_same, zuL_ne1, zuL_ne2, zrow_n1, zx0, zx1, zx2, zx3, zf_0_13, zf_0_14, zf_0_15, zf_1_3, zf_15_0, zf_16_0, zf_17_10, zf_86_3, zf_90_6, zf_90_7, zf_94_7, zf_100_6, zf_100_7, zf_118_0, zf_118_1, zf_118_2, zf_118_3, zg_119_0, zg_119_5, zg_119_9, zg_119_15, zg_119_19, zg_119_22, zg_119_1, zg_119_16, zg_120_0, zg_120_1, zg_120_2, zg_120_3, zg_121_0, zg_122_0, zg_124_0, zg_126_0, zg_127_0, zg_128_0, zg_129_0, zg_131_0, zg_131_1, zg_131_2, zg_131_3, Nat.reduceAdd, Nat.reduceMul, Int32.reduceAdd, Int32.reduceSub, Int32.reduceMul]
            first
            | refine ⟨vp_inb rfl, ?_⟩
            | refine ⟨fun h => absurd h (of_decide_eq_false rfl), fun _ => ?_⟩
            | refine ⟨fun _ => ?_, fun h => absurd (of_decide_eq_true rfl) h⟩
            | refine ⟨fun _ => ?_, fun h => absurd h (of_decide_eq_false rfl)⟩
            | refine ⟨fun h => absurd (of_decide_eq_true rfl) h, fun _ => ?_⟩
            | refine ⟨of_decide_eq_true rfl, ?_⟩
            | refine ⟨rfl, ?_⟩)
    try (conv => whnf)
    refine ⟨(zu (zmx s1) 119 0 0, zmxL t1 v9), rfl, rfl, rfl, ?_⟩
    try dsimp only
    repeat (first
      | (conv => whnf
         try dsimp only
         try simp (decide := true) only [znew, zmW, cond, zT2, zu_same, zu_ne1, zu_ne2, zuL_same, zuL_ne1, zuL_ne2, zrow_n1, zx0, zx1, zx2, zx3, zf_0_13, zf_0_14, zf_0_15, zf_1_3, zf_15_0, zf_16_0, zf_17_10, zf_86_3, zf_90_6, zf_90_7, zf_94_7, zf_100_6, zf_100_7, zf_118_0, zf_118_1, zf_118_2, zf_118_3, zg_119_0, zg_119_5, zg_119_9, zg_119_15, zg_119_19, zg_119_22, zg_119_1, zg_119_16, zg_120_0, zg_120_1, zg_120_2, zg_120_3, zg_121_0, zg_122_0, zg_124_0, zg_126_0, zg_127_0, zg_128_0, zg_129_0, zg_131_0, zg_131_1, zg_131_2, zg_131_3, Nat.reduceAdd, Nat.reduceMul, Int32.reduceAdd, Int32.reduceSub, Int32.reduceMul]
         first
         | refine ⟨vp_inb rfl, ?_⟩
         | refine ⟨fun h => absurd h (of_decide_eq_false rfl), fun _ => ?_⟩
         | refine ⟨fun _ => ?_, fun h => absurd (of_decide_eq_true rfl) h⟩
         | refine ⟨fun _ => ?_, fun h => absurd h (of_decide_eq_false rfl)⟩
         | refine ⟨fun h => absurd (of_decide_eq_true rfl) h, fun _ => ?_⟩
         | refine ⟨of_decide_eq_true rfl, ?_⟩
         | refine ⟨rfl, ?_⟩)
      | (conv => whnf
         fail_if_success refine Exists.intro ?_ ?_
         simp only [znew, zmW, cond, zT2]))
    try (conv => whnf)
    refine ⟨(true, zrow (zu (zmx s1) 119 0 0) 145 (fun _ => 0), zrowL (zmxL t1 v9) 145 (fun _ => 0)), rfl, rfl, rfl, ?_⟩
    try dsimp only
    repeat (first
      | (conv => whnf
         try dsimp only
         try simp (decide := true) only [znew, zmW, cond, zT2, zu_same, zu_ne1, zu_ne2, zuL_same, zuL_ne1, zuL_ne2, zrow_n1, zx0, zx1, zx2, zx3, zf_0_13, zf_0_14, zf_0_15, zf_1_3, zf_15_0, zf_16_0, zf_17_10, zf_86_3, zf_90_6, zf_90_7, zf_94_7, zf_100_6, zf_100_7, zf_118_0, zf_118_1, zf_118_2, zf_118_3, zg_119_0, zg_119_5, zg_119_9, zg_119_15, zg_119_19, zg_119_22, zg_119_1, zg_119_16, zg_120_0, zg_120_1, zg_120_2, zg_120_3, zg_121_0, zg_122_0, zg_124_0, zg_126_0, zg_127_0, zg_128_0, zg_129_0, zg_131_0, zg_131_1, zg_131_2, zg_131_3, Nat.reduceAdd, Nat.reduceMul, Int32.reduceAdd, Int32.reduceSub, Int32.reduceMul]
         first
         | refine ⟨vp_inb rfl, ?_⟩
         | refine ⟨fun h => absurd h (of_decide_eq_false rfl), fun _ => ?_⟩
         | refine ⟨fun _ => ?_, fun h => absurd (of_decide_eq_true rfl) h⟩
         | refine ⟨fun _ => ?_, fun h => absurd h (of_decide_eq_false rfl)⟩
         | refine ⟨fun h => absurd (of_decide_eq_true rfl) h, fun _ => ?_⟩
         | refine ⟨of_decide_eq_true rfl, ?_⟩
         | refine ⟨rfl, ?_⟩)
      | (conv => whnf
         fail_if_success refine Exists.intro ?_ ?_
         simp only [znew, zmW, cond, zT2]))
    try (conv => whnf)
    refine ⟨(_, ()), rfl, rfl, ⟨rfl, rfl⟩, ?_⟩
    try dsimp only
    repeat (first
      | (conv => whnf
         try dsimp only
         try simp (decide := true) only [znew, zmW, cond, zT2, zu_same, zu_ne1, zu_ne2, zuL_same, zuL_ne1, zuL_ne2, zrow_n1, zx0, zx1, zx2, zx3, zf_0_13, zf_0_14, zf_0_15, zf_1_3, zf_15_0, zf_16_0, zf_17_10, zf_86_3, zf_90_6, zf_90_7, zf_94_7, zf_100_6, zf_100_7, zf_118_0, zf_118_1, zf_118_2, zf_118_3, zg_119_0, zg_119_5, zg_119_9, zg_119_15, zg_119_19, zg_119_22, zg_119_1, zg_119_16, zg_120_0, zg_120_1, zg_120_2, zg_120_3, zg_121_0, zg_122_0, zg_124_0, zg_126_0, zg_127_0, zg_128_0, zg_129_0, zg_131_0, zg_131_1, zg_131_2, zg_131_3, Nat.reduceAdd, Nat.reduceMul, Int32.reduceAdd, Int32.reduceSub, Int32.reduceMul]
         first
         | refine ⟨vp_inb rfl, ?_⟩
         | refine ⟨fun h => absurd h (of_decide_eq_false rfl), fun _ => ?_⟩
         | refine ⟨fun _ => ?_, fun h => absurd (of_decide_eq_true rfl) h⟩
         | refine ⟨fun _ => ?_, fun h => absurd h (of_decide_eq_false rfl)⟩
         | refine ⟨fun h => absurd (of_decide_eq_true rfl) h, fun _ => ?_⟩
         | refine ⟨of_decide_eq_true rfl, ?_⟩
         | refine ⟨rfl, ?_⟩)
      | (conv => whnf
         fail_if_success refine Exists.intro ?_ ?_
         simp only [znew, zmW, cond, zT2]))
    try (conv => whnf)
    refine ⟨(_, ()), rfl, rfl, ⟨rfl, rfl⟩, ?_⟩
    try dsimp only
    repeat (first
      | (conv => whnf
         try dsimp only
         try simp (decide := true) only [znew, zmW, cond, zT2, zu_same, zu_ne1, zu_ne2, zuL_same, zuL_ne1, zuL_ne2, zrow_n1, zx0, zx1, zx2, zx3, zf_0_13, zf_0_14, zf_0_15, zf_1_3, zf_15_0, zf_16_0, zf_17_10, zf_86_3, zf_90_6, zf_90_7, zf_94_7, zf_100_6, zf_100_7, zf_118_0, zf_118_1, zf_118_2, zf_118_3, zg_119_0, zg_119_5, zg_119_9, zg_119_15, zg_119_19, zg_119_22, zg_119_1, zg_119_16, zg_120_0, zg_120_1, zg_120_2, zg_120_3, zg_121_0, zg_122_0, zg_124_0, zg_126_0, zg_127_0, zg_128_0, zg_129_0, zg_131_0, zg_131_1, zg_131_2, zg_131_3, Nat.reduceAdd, Nat.reduceMul, Int32.reduceAdd, Int32.reduceSub, Int32.reduceMul]
         first
         | refine ⟨vp_inb rfl, ?_⟩
         | refine ⟨fun h => absurd h (of_decide_eq_false rfl), fun _ => ?_⟩
         | refine ⟨fun _ => ?_, fun h => absurd (of_decide_eq_true rfl) h⟩
         | refine ⟨fun _ => ?_, fun h => absurd h (of_decide_eq_false rfl)⟩
         | refine ⟨fun h => absurd (of_decide_eq_true rfl) h, fun _ => ?_⟩
         | refine ⟨of_decide_eq_true rfl, ?_⟩
         | refine ⟨rfl, ?_⟩)
      | (conv => whnf
         fail_if_success refine Exists.intro ?_ ?_
         simp only [znew, zmW, cond, zT2]))
    try (conv => whnf)
    refine ⟨(_, ()), rfl, rfl, ⟨rfl, rfl⟩, ?_⟩
    try dsimp only
    repeat (first
      | (conv => whnf
         try dsimp only
         try simp (decide := true) only [znew, zmW, cond, zT2, zu_same, zu_ne1, zu_ne2, zuL_same, zuL_ne1, zuL_ne2, zrow_n1, zx0, zx1, zx2, zx3, zf_0_13, zf_0_14, zf_0_15, zf_1_3, zf_15_0, zf_16_0, zf_17_10, zf_86_3, zf_90_6, zf_90_7, zf_94_7, zf_100_6, zf_100_7, zf_118_0, zf_118_1, zf_118_2, zf_118_3, zg_119_0, zg_119_5, zg_119_9, zg_119_15, zg_119_19, zg_119_22, zg_119_1, zg_119_16, zg_120_0, zg_120_1, zg_120_2, zg_120_3, zg_121_0, zg_122_0, zg_124_0, zg_126_0, zg_127_0, zg_128_0, zg_129_0, zg_131_0, zg_131_1, zg_131_2, zg_131_3, Nat.reduceAdd, Nat.reduceMul, Int32.reduceAdd, Int32.reduceSub, Int32.reduceMul]
         first
         | refine ⟨vp_inb rfl, ?_⟩
         | refine ⟨fun h => absurd h (of_decide_eq_false rfl), fun _ => ?_⟩
         | refine ⟨fun _ => ?_, fun h => absurd (of_decide_eq_true rfl) h⟩
         | refine ⟨fun _ => ?_, fun h => absurd h (of_decide_eq_false rfl)⟩
         | refine ⟨fun h => absurd (of_decide_eq_true rfl) h, fun _ => ?_⟩
         | refine ⟨of_decide_eq_true rfl, ?_⟩
         | refine ⟨rfl, ?_⟩)
      | (conv => whnf
         fail_if_success refine Exists.intro ?_ ?_
         simp only [znew, zmW, cond, zT2]))
    try (conv => whnf)
    exact hK _ _ ⟨rfl, rfl, rfl, rfl, rfl⟩
def spX8_setTurns : zSp := zDQ (X := Int32 × Int32 × zIn × zLo × Int64) (fun x => match x with | (s, d, s1, t1, v9) => [.ref 119, .int s, .int d]) (fun x => match x with | (s, d, s1, t1, v9) => (145, zSH, zRH, zmx s1, zmxL t1 v9)) (fun x => match x with | (s, d, s1, t1, v9) => True) (fun x r9 μ9 => match x with | (s, d, s1, t1, v9) => r9 = some (.int (if (0 ≤ s ∧ s ≤ 10000) ∧ 1 ≤ d ∧ d ≤ 100 then 0 else 0)) ∧ zaft v9 (if (0 ≤ s ∧ s ≤ 10000) ∧ 1 ≤ d ∧ d ≤ 100 then 0 else 1) μ9)
abbrev rmX8_setTurns : Room := ({ frames := 1, cells := 0, slots := 0, locals := 22 } : Room)
set_option maxRecDepth 100000 in
set_option maxHeartbeats 4000000 in
theorem ctX8_setTurns (l : Launch) (D : va_G) (cA : Nat → ClassId) : zCt false l D cA yX8_setTurns cX8_setTurns 4 (some .int) rmX8_setTurns spX8_setTurns := by
  refine zct_Q (zCX8_setTurns [(90, 1, 3, spX8_isIn, rmX8_isIn.cells, rmX8_isIn.slots), (118, 0, 1, spX8_no, rmX8_no.cells, rmX8_no.slots)]) zpX8_setTurns [] (by decide +kernel) zkX8_setTurns (Or.inr (by decide +kernel)) trivial ⟨by decide +kernel, by decide +kernel⟩ (fun x ad => Nat.le_of_ble_eq_true rfl) ?_ ?_
  · intro p e s m args below meth c A H0 ad0 n0 Q F hml hNw hA hX
    exact ⟨zco_S hX hA F hml hNw (ctX8_isIn l D cA) ⟨⟨zlX8_setTurns_90, zwX8_isIn.1⟩, zwX8_isIn.2⟩ zdX8_isIn ⟨Nat.le_of_ble_eq_true rfl, Nat.le_of_ble_eq_true rfl⟩, zco_V hX hA F hml hNw (ctX8_no l D cA) ⟨⟨zlX8_setTurns_118, zwX8_no.1.1, zwX8_no.1.2⟩, zwX8_no.2⟩ zdX8_no ⟨Nat.le_of_ble_eq_true rfl, Nat.le_of_ble_eq_true rfl⟩ (ci := 8) (by decide) rfl (by rintro av μ K ⟨⟨μ0, x9⟩, rfl, rfl, h9, -⟩; exact ⟨_, _, rfl, congrArg Prod.fst h9.1⟩), trivial⟩
  · rintro ⟨s, d, s1, t1, v9⟩ Ret hP hK Gl hG
    try dsimp only at hP hK
    show Gl 0 (zent 4 [.ref 119, .int s, .int d]) [] (0, 0) ((145, zSH, zRH, zmx s1, zmxL t1 v9))
    refine hG 1000 _ _ _ _ _ ?_
    repeat (conv => whnf
            try dsimp only
            try simp (decide := true) only [zu_same, zu_ne1, zu_ne2, zuL_same, zuL_ne1, zuL_ne2, zrow_n1, zx0, zx1, zx2, zx3, zf_0_13, zf_0_14, zf_0_15, zf_1_3, zf_15_0, zf_16_0, zf_17_10, zf_86_3, zf_90_6, zf_90_7, zf_94_7, zf_100_6, zf_100_7, zf_118_0, zf_118_1, zf_118_2, zf_118_3, zg_119_0, zg_119_5, zg_119_9, zg_119_15, zg_119_19, zg_119_22, zg_119_1, zg_119_16, zg_120_0, zg_120_1, zg_120_2, zg_120_3, zg_121_0, zg_122_0, zg_124_0, zg_126_0, zg_127_0, zg_128_0, zg_129_0, zg_131_0, zg_131_1, zg_131_2, zg_131_3, Nat.reduceAdd, Nat.reduceMul, Int32.reduceAdd, Int32.reduceSub, Int32.reduceMul]
            first
            | refine ⟨vp_inb rfl, ?_⟩
            | refine ⟨fun h => absurd h (of_decide_eq_false rfl), fun _ => ?_⟩
            | refine ⟨fun _ => ?_, fun h => absurd (of_decide_eq_true rfl) h⟩
            | refine ⟨fun _ => ?_, fun h => absurd h (of_decide_eq_false rfl)⟩
            | refine ⟨fun h => absurd (of_decide_eq_true rfl) h, fun _ => ?_⟩
            | refine ⟨of_decide_eq_true rfl, ?_⟩
            | refine ⟨rfl, ?_⟩)
    try (conv => whnf)
    refine ⟨(s, 0, 10000, _), rfl, rfl, trivial, ?_⟩
    try dsimp only
    by_cases h0 : 0 ≤ s ∧ s ≤ 10000
    · rw [if_pos h0]
      repeat (conv => whnf
              try dsimp only
              try simp (decide := true) only [zu_same, zu_ne1, zu_ne2, zuL_same, zuL_ne1, zuL_ne2, zrow_n1, zx0, zx1, zx2, zx3, zf_0_13, zf_0_14, zf_0_15, zf_1_3, zf_15_0, zf_16_0, zf_17_10, zf_86_3, zf_90_6, zf_90_7, zf_94_7, zf_100_6, zf_100_7, zf_118_0, zf_118_1, zf_118_2, zf_118_3, zg_119_0, zg_119_5, zg_119_9, zg_119_15, zg_119_19, zg_119_22, zg_119_1, zg_119_16, zg_120_0, zg_120_1, zg_120_2, zg_120_3, zg_121_0, zg_122_0, zg_124_0, zg_126_0, zg_127_0, zg_128_0, zg_129_0, zg_131_0, zg_131_1, zg_131_2, zg_131_3, Nat.reduceAdd, Nat.reduceMul, Int32.reduceAdd, Int32.reduceSub, Int32.reduceMul]
              first
              | refine ⟨vp_inb rfl, ?_⟩
              | refine ⟨fun h => absurd h (of_decide_eq_false rfl), fun _ => ?_⟩
              | refine ⟨fun _ => ?_, fun h => absurd (of_decide_eq_true rfl) h⟩
              | refine ⟨fun _ => ?_, fun h => absurd h (of_decide_eq_false rfl)⟩
              | refine ⟨fun h => absurd (of_decide_eq_true rfl) h, fun _ => ?_⟩
              | refine ⟨of_decide_eq_true rfl, ?_⟩
              | refine ⟨rfl, ?_⟩)
      try (conv => whnf)
      refine ⟨(d, 1, 100, _), rfl, rfl, trivial, ?_⟩
      try dsimp only
      by_cases h1 : 1 ≤ d ∧ d ≤ 100
      · rw [if_pos h1]
        have hc : (0 ≤ s ∧ s ≤ 10000) ∧ 1 ≤ d ∧ d ≤ 100 := ⟨h0, h1⟩
        simp only [if_pos hc] at hK
        repeat (conv => whnf
                try dsimp only
                try simp (decide := true) only [zu_same, zu_ne1, zu_ne2, zuL_same, zuL_ne1, zuL_ne2, zrow_n1, zx0, zx1, zx2, zx3, zf_0_13, zf_0_14, zf_0_15, zf_1_3, zf_15_0, zf_16_0, zf_17_10, zf_86_3, zf_90_6, zf_90_7, zf_94_7, zf_100_6, zf_100_7, zf_118_0, zf_118_1, zf_118_2, zf_118_3, zg_119_0, zg_119_5, zg_119_9, zg_119_15, zg_119_19, zg_119_22, zg_119_1, zg_119_16, zg_120_0, zg_120_1, zg_120_2, zg_120_3, zg_121_0, zg_122_0, zg_124_0, zg_126_0, zg_127_0, zg_128_0, zg_129_0, zg_131_0, zg_131_1, zg_131_2, zg_131_3, Nat.reduceAdd, Nat.reduceMul, Int32.reduceAdd, Int32.reduceSub, Int32.reduceMul]
                first
                | refine ⟨vp_inb rfl, ?_⟩
                | refine ⟨fun h => absurd h (of_decide_eq_false rfl), fun _ => ?_⟩
                | refine ⟨fun _ => ?_, fun h => absurd (of_decide_eq_true rfl) h⟩
                | refine ⟨fun _ => ?_, fun h => absurd h (of_decide_eq_false rfl)⟩
                | refine ⟨fun h => absurd (of_decide_eq_true rfl) h, fun _ => ?_⟩
                | refine ⟨of_decide_eq_true rfl, ?_⟩
                | refine ⟨rfl, ?_⟩)
        try (conv => whnf)
        exact hK _ _ ⟨rfl, rfl, rfl, rfl, rfl⟩
      · rw [if_neg h1]
        have hc : ¬ ((0 ≤ s ∧ s ≤ 10000) ∧ 1 ≤ d ∧ d ≤ 100) := fun z => h1 z.2
        simp only [if_neg hc] at hK
        repeat (conv => whnf
                try dsimp only
                try simp (decide := true) only [zu_same, zu_ne1, zu_ne2, zuL_same, zuL_ne1, zuL_ne2, zrow_n1, zx0, zx1, zx2, zx3, zf_0_13, zf_0_14, zf_0_15, zf_1_3, zf_15_0, zf_16_0, zf_17_10, zf_86_3, zf_90_6, zf_90_7, zf_94_7, zf_100_6, zf_100_7, zf_118_0, zf_118_1, zf_118_2, zf_118_3, zg_119_0, zg_119_5, zg_119_9, zg_119_15, zg_119_19, zg_119_22, zg_119_1, zg_119_16, zg_120_0, zg_120_1, zg_120_2, zg_120_3, zg_121_0, zg_122_0, zg_124_0, zg_126_0, zg_127_0, zg_128_0, zg_129_0, zg_131_0, zg_131_1, zg_131_2, zg_131_3, Nat.reduceAdd, Nat.reduceMul, Int32.reduceAdd, Int32.reduceSub, Int32.reduceMul]
                first
                | refine ⟨vp_inb rfl, ?_⟩
                | refine ⟨fun h => absurd h (of_decide_eq_false rfl), fun _ => ?_⟩
                | refine ⟨fun _ => ?_, fun h => absurd (of_decide_eq_true rfl) h⟩
                | refine ⟨fun _ => ?_, fun h => absurd h (of_decide_eq_false rfl)⟩
                | refine ⟨fun h => absurd (of_decide_eq_true rfl) h, fun _ => ?_⟩
                | refine ⟨of_decide_eq_true rfl, ?_⟩
                | refine ⟨rfl, ?_⟩)
        try (conv => whnf)
        refine ⟨(_, 1), rfl, rfl, ⟨rfl, trivial⟩, ?_⟩
        try dsimp only
        repeat (conv => whnf
                try dsimp only
                try simp (decide := true) only [zu_same, zu_ne1, zu_ne2, zuL_same, zuL_ne1, zuL_ne2, zrow_n1, zx0, zx1, zx2, zx3, zf_0_13, zf_0_14, zf_0_15, zf_1_3, zf_15_0, zf_16_0, zf_17_10, zf_86_3, zf_90_6, zf_90_7, zf_94_7, zf_100_6, zf_100_7, zf_118_0, zf_118_1, zf_118_2, zf_118_3, zg_119_0, zg_119_5, zg_119_9, zg_119_15, zg_119_19, zg_119_22, zg_119_1, zg_119_16, zg_120_0, zg_120_1, zg_120_2, zg_120_3, zg_121_0, zg_122_0, zg_124_0, zg_126_0, zg_127_0, zg_128_0, zg_129_0, zg_131_0, zg_131_1, zg_131_2, zg_131_3, Nat.reduceAdd, Nat.reduceMul, Int32.reduceAdd, Int32.reduceSub, Int32.reduceMul]
                first
                | refine ⟨vp_inb rfl, ?_⟩
                | refine ⟨fun h => absurd h (of_decide_eq_false rfl), fun _ => ?_⟩
                | refine ⟨fun _ => ?_, fun h => absurd (of_decide_eq_true rfl) h⟩
                | refine ⟨fun _ => ?_, fun h => absurd h (of_decide_eq_false rfl)⟩
                | refine ⟨fun h => absurd (of_decide_eq_true rfl) h, fun _ => ?_⟩
                | refine ⟨of_decide_eq_true rfl, ?_⟩
                | refine ⟨rfl, ?_⟩)
        try (conv => whnf)
        exact hK _ _ ⟨rfl, rfl, rfl, rfl, rfl⟩
    · rw [if_neg h0]
      have hc : ¬ ((0 ≤ s ∧ s ≤ 10000) ∧ 1 ≤ d ∧ d ≤ 100) := fun z => h0 z.1
      simp only [if_neg hc] at hK
      repeat (conv => whnf
              try dsimp only
              try simp (decide := true) only [zu_same, zu_ne1, zu_ne2, zuL_same, zuL_ne1, zuL_ne2, zrow_n1, zx0, zx1, zx2, zx3, zf_0_13, zf_0_14, zf_0_15, zf_1_3, zf_15_0, zf_16_0, zf_17_10, zf_86_3, zf_90_6, zf_90_7, zf_94_7, zf_100_6, zf_100_7, zf_118_0, zf_118_1, zf_118_2, zf_118_3, zg_119_0, zg_119_5, zg_119_9, zg_119_15, zg_119_19, zg_119_22, zg_119_1, zg_119_16, zg_120_0, zg_120_1, zg_120_2, zg_120_3, zg_121_0, zg_122_0, zg_124_0, zg_126_0, zg_127_0, zg_128_0, zg_129_0, zg_131_0, zg_131_1, zg_131_2, zg_131_3, Nat.reduceAdd, Nat.reduceMul, Int32.reduceAdd, Int32.reduceSub, Int32.reduceMul]
              first
              | refine ⟨vp_inb rfl, ?_⟩
              | refine ⟨fun h => absurd h (of_decide_eq_false rfl), fun _ => ?_⟩
              | refine ⟨fun _ => ?_, fun h => absurd (of_decide_eq_true rfl) h⟩
              | refine ⟨fun _ => ?_, fun h => absurd h (of_decide_eq_false rfl)⟩
              | refine ⟨fun h => absurd (of_decide_eq_true rfl) h, fun _ => ?_⟩
              | refine ⟨of_decide_eq_true rfl, ?_⟩
              | refine ⟨rfl, ?_⟩)
      try (conv => whnf)
      refine ⟨(_, 1), rfl, rfl, ⟨rfl, trivial⟩, ?_⟩
      try dsimp only
      repeat (conv => whnf
              try dsimp only
              try simp (decide := true) only [zu_same, zu_ne1, zu_ne2, zuL_same, zuL_ne1, zuL_ne2, zrow_n1, zx0, zx1, zx2, zx3, zf_0_13, zf_0_14, zf_0_15, zf_1_3, zf_15_0, zf_16_0, zf_17_10, zf_86_3, zf_90_6, zf_90_7, zf_94_7, zf_100_6, zf_100_7, zf_118_0, zf_118_1, zf_118_2, zf_118_3, zg_119_0, zg_119_5, zg_119_9, zg_119_15, zg_119_19, zg_119_22, zg_119_1, zg_119_16, zg_120_0, zg_120_1, zg_120_2, zg_120_3, zg_121_0, zg_122_0, zg_124_0, zg_126_0, zg_127_0, zg_128_0, zg_129_0, zg_131_0, zg_131_1, zg_131_2, zg_131_3, Nat.reduceAdd, Nat.reduceMul, Int32.reduceAdd, Int32.reduceSub, Int32.reduceMul]
              first
              | refine ⟨vp_inb rfl, ?_⟩
              | refine ⟨fun h => absurd h (of_decide_eq_false rfl), fun _ => ?_⟩
              | refine ⟨fun _ => ?_, fun h => absurd (of_decide_eq_true rfl) h⟩
              | refine ⟨fun _ => ?_, fun h => absurd h (of_decide_eq_false rfl)⟩
              | refine ⟨fun h => absurd (of_decide_eq_true rfl) h, fun _ => ?_⟩
              | refine ⟨of_decide_eq_true rfl, ?_⟩
              | refine ⟨rfl, ?_⟩)
      try (conv => whnf)
      exact hK _ _ ⟨rfl, rfl, rfl, rfl, rfl⟩
def spX8_unit : zSp := zDQ (X := Int32 × Int32 × Int32 × Int32 × Int32 × Int32 × zIn × zLo × Int64) (fun x => match x with | (a, b, c, d, p, q, s1, t1, v9) => [.ref 119, .int a, .int b, .int c, .int d, .int p, .int q]) (fun x => match x with | (a, b, c, d, p, q, s1, t1, v9) => (145, zSH, zRH, zmx s1, zmxL t1 v9)) (fun x => match x with | (a, b, c, d, p, q, s1, t1, v9) => True) (fun x r9 μ9 => match x with | (a, b, c, d, p, q, s1, t1, v9) => r9 = some (.int (if (-3 ≤ a ∧ a ≤ 3) ∧ (-3 ≤ b ∧ b ≤ 3) ∧ (-3 ≤ c ∧ c ≤ 3) ∧ (-3 ≤ d ∧ d ≤ 3) ∧ (1 ≤ p ∧ p ≤ 100000) ∧ (1 ≤ q ∧ q ≤ 100000) then 1 else 0)) ∧ zaft v9 (if (-3 ≤ a ∧ a ≤ 3) ∧ (-3 ≤ b ∧ b ≤ 3) ∧ (-3 ≤ c ∧ c ≤ 3) ∧ (-3 ≤ d ∧ d ≤ 3) ∧ (1 ≤ p ∧ p ≤ 100000) ∧ (1 ≤ q ∧ q ≤ 100000) then 0 else 1) μ9)
abbrev rmX8_unit : Room := ({ frames := 1, cells := 1, slots := 4, locals := 26 } : Room)
set_option maxRecDepth 100000 in
set_option maxHeartbeats 4000000 in
theorem ctX8_unit (l : Launch) (D : va_G) (cA : Nat → ClassId) : zCt false l D cA yX8_unit cX8_unit 8 (some .int) rmX8_unit spX8_unit := by
  refine zct_Q (zCX8_unit [(90, 1, 3, spX8_isIn, rmX8_isIn.cells, rmX8_isIn.slots), (118, 0, 1, spX8_no, rmX8_no.cells, rmX8_no.slots), (122, 1, 5, spCopy, 0, 0)]) zpX8_unit [] (by decide +kernel) zkX8_unit (Or.inr (by decide +kernel)) trivial ⟨by decide +kernel, by decide +kernel⟩ (fun x ad => Nat.le_of_ble_eq_true rfl) ?_ ?_
  · intro p e s m args below meth c A H0 ad0 n0 Q F hml hNw hA hX
    exact ⟨zco_S hX hA F hml hNw (ctX8_isIn l D cA) ⟨⟨zlX8_unit_90, zwX8_isIn.1⟩, zwX8_isIn.2⟩ zdX8_isIn ⟨Nat.le_of_ble_eq_true rfl, Nat.le_of_ble_eq_true rfl⟩, zco_V hX hA F hml hNw (ctX8_no l D cA) ⟨⟨zlX8_unit_118, zwX8_no.1.1, zwX8_no.1.2⟩, zwX8_no.2⟩ zdX8_no ⟨Nat.le_of_ble_eq_true rfl, Nat.le_of_ble_eq_true rfl⟩ (ci := 8) (by decide) rfl (by rintro av μ K ⟨⟨μ0, x9⟩, rfl, rfl, h9, -⟩; exact ⟨_, _, rfl, congrArg Prod.fst h9.1⟩), zco_copy F hml ⟨zlX8_unit_122, zlib_copy⟩ ⟨Nat.le_of_ble_eq_true rfl, Nat.le_of_ble_eq_true rfl⟩, trivial⟩
  · rintro ⟨a, b, c, d, p, q, s1, t1, v9⟩ Ret hP hK Gl hG
    try dsimp only at hP hK
    show Gl 0 (zent 8 [.ref 119, .int a, .int b, .int c, .int d, .int p, .int q]) [] (0, 0) ((145, zSH, zRH, zmx s1, zmxL t1 v9))
    refine hG 1000 _ _ _ _ _ ?_
    repeat (conv => whnf
            try dsimp only
            try simp (decide := true) only [zu_same, zu_ne1, zu_ne2, zuL_same, zuL_ne1, zuL_ne2, zrow_n1, zx0, zx1, zx2, zx3, zf_0_13, zf_0_14, zf_0_15, zf_1_3, zf_15_0, zf_16_0, zf_17_10, zf_86_3, zf_90_6, zf_90_7, zf_94_7, zf_100_6, zf_100_7, zf_118_0, zf_118_1, zf_118_2, zf_118_3, zg_119_0, zg_119_5, zg_119_9, zg_119_15, zg_119_19, zg_119_22, zg_119_1, zg_119_16, zg_120_0, zg_120_1, zg_120_2, zg_120_3, zg_121_0, zg_122_0, zg_124_0, zg_126_0, zg_127_0, zg_128_0, zg_129_0, zg_131_0, zg_131_1, zg_131_2, zg_131_3, Nat.reduceAdd, Nat.reduceMul, Int32.reduceAdd, Int32.reduceSub, Int32.reduceMul]
            first
            | refine ⟨vp_inb rfl, ?_⟩
            | refine ⟨fun h => absurd h (of_decide_eq_false rfl), fun _ => ?_⟩
            | refine ⟨fun _ => ?_, fun h => absurd (of_decide_eq_true rfl) h⟩
            | refine ⟨fun _ => ?_, fun h => absurd h (of_decide_eq_false rfl)⟩
            | refine ⟨fun h => absurd (of_decide_eq_true rfl) h, fun _ => ?_⟩
            | refine ⟨of_decide_eq_true rfl, ?_⟩
            | refine ⟨rfl, ?_⟩)
    try (conv => whnf)
    refine ⟨(a, -3, 3, _), rfl, rfl, trivial, ?_⟩
    try dsimp only
    by_cases h0 : -3 ≤ a ∧ a ≤ 3
    · rw [if_pos h0]
      repeat (conv => whnf
              try dsimp only
              try simp (decide := true) only [zu_same, zu_ne1, zu_ne2, zuL_same, zuL_ne1, zuL_ne2, zrow_n1, zx0, zx1, zx2, zx3, zf_0_13, zf_0_14, zf_0_15, zf_1_3, zf_15_0, zf_16_0, zf_17_10, zf_86_3, zf_90_6, zf_90_7, zf_94_7, zf_100_6, zf_100_7, zf_118_0, zf_118_1, zf_118_2, zf_118_3, zg_119_0, zg_119_5, zg_119_9, zg_119_15, zg_119_19, zg_119_22, zg_119_1, zg_119_16, zg_120_0, zg_120_1, zg_120_2, zg_120_3, zg_121_0, zg_122_0, zg_124_0, zg_126_0, zg_127_0, zg_128_0, zg_129_0, zg_131_0, zg_131_1, zg_131_2, zg_131_3, Nat.reduceAdd, Nat.reduceMul, Int32.reduceAdd, Int32.reduceSub, Int32.reduceMul]
              first
              | refine ⟨vp_inb rfl, ?_⟩
              | refine ⟨fun h => absurd h (of_decide_eq_false rfl), fun _ => ?_⟩
              | refine ⟨fun _ => ?_, fun h => absurd (of_decide_eq_true rfl) h⟩
              | refine ⟨fun _ => ?_, fun h => absurd h (of_decide_eq_false rfl)⟩
              | refine ⟨fun h => absurd (of_decide_eq_true rfl) h, fun _ => ?_⟩
              | refine ⟨of_decide_eq_true rfl, ?_⟩
              | refine ⟨rfl, ?_⟩)
      try (conv => whnf)
      refine ⟨(b, -3, 3, _), rfl, rfl, trivial, ?_⟩
      try dsimp only
      by_cases h1 : -3 ≤ b ∧ b ≤ 3
      · rw [if_pos h1]
        repeat (conv => whnf
                try dsimp only
                try simp (decide := true) only [zu_same, zu_ne1, zu_ne2, zuL_same, zuL_ne1, zuL_ne2, zrow_n1, zx0, zx1, zx2, zx3, zf_0_13, zf_0_14, zf_0_15, zf_1_3, zf_15_0, zf_16_0, zf_17_10, zf_86_3, zf_90_6, zf_90_7, zf_94_7, zf_100_6, zf_100_7, zf_118_0, zf_118_1, zf_118_2, zf_118_3, zg_119_0, zg_119_5, zg_119_9, zg_119_15, zg_119_19, zg_119_22, zg_119_1, zg_119_16, zg_120_0, zg_120_1, zg_120_2, zg_120_3, zg_121_0, zg_122_0, zg_124_0, zg_126_0, zg_127_0, zg_128_0, zg_129_0, zg_131_0, zg_131_1, zg_131_2, zg_131_3, Nat.reduceAdd, Nat.reduceMul, Int32.reduceAdd, Int32.reduceSub, Int32.reduceMul]
                first
                | refine ⟨vp_inb rfl, ?_⟩
                | refine ⟨fun h => absurd h (of_decide_eq_false rfl), fun _ => ?_⟩
                | refine ⟨fun _ => ?_, fun h => absurd (of_decide_eq_true rfl) h⟩
                | refine ⟨fun _ => ?_, fun h => absurd h (of_decide_eq_false rfl)⟩
                | refine ⟨fun h => absurd (of_decide_eq_true rfl) h, fun _ => ?_⟩
                | refine ⟨of_decide_eq_true rfl, ?_⟩
                | refine ⟨rfl, ?_⟩)
        try (conv => whnf)
        refine ⟨(c, -3, 3, _), rfl, rfl, trivial, ?_⟩
        try dsimp only
        by_cases h2 : -3 ≤ c ∧ c ≤ 3
        · rw [if_pos h2]
          repeat (conv => whnf
                  try dsimp only
                  try simp (decide := true) only [zu_same, zu_ne1, zu_ne2, zuL_same, zuL_ne1, zuL_ne2, zrow_n1, zx0, zx1, zx2, zx3, zf_0_13, zf_0_14, zf_0_15, zf_1_3, zf_15_0, zf_16_0, zf_17_10, zf_86_3, zf_90_6, zf_90_7, zf_94_7, zf_100_6, zf_100_7, zf_118_0, zf_118_1, zf_118_2, zf_118_3, zg_119_0, zg_119_5, zg_119_9, zg_119_15, zg_119_19, zg_119_22, zg_119_1, zg_119_16, zg_120_0, zg_120_1, zg_120_2, zg_120_3, zg_121_0, zg_122_0, zg_124_0, zg_126_0, zg_127_0, zg_128_0, zg_129_0, zg_131_0, zg_131_1, zg_131_2, zg_131_3, Nat.reduceAdd, Nat.reduceMul, Int32.reduceAdd, Int32.reduceSub, Int32.reduceMul]
                  first
                  | refine ⟨vp_inb rfl, ?_⟩
                  | refine ⟨fun h => absurd h (of_decide_eq_false rfl), fun _ => ?_⟩
                  | refine ⟨fun _ => ?_, fun h => absurd (of_decide_eq_true rfl) h⟩
                  | refine ⟨fun _ => ?_, fun h => absurd h (of_decide_eq_false rfl)⟩
                  | refine ⟨fun h => absurd (of_decide_eq_true rfl) h, fun _ => ?_⟩
                  | refine ⟨of_decide_eq_true rfl, ?_⟩
                  | refine ⟨rfl, ?_⟩)
          try (conv => whnf)
          refine ⟨(d, -3, 3, _), rfl, rfl, trivial, ?_⟩
          try dsimp only
          by_cases h3 : -3 ≤ d ∧ d ≤ 3
          · rw [if_pos h3]
            repeat (conv => whnf
                    try dsimp only
                    try simp (decide := true) only [zu_same, zu_ne1, zu_ne2, zuL_same, zuL_ne1, zuL_ne2, zrow_n1, zx0, zx1, zx2, zx3, zf_0_13, zf_0_14, zf_0_15, zf_1_3, zf_15_0, zf_16_0, zf_17_10, zf_86_3, zf_90_6, zf_90_7, zf_94_7, zf_100_6, zf_100_7, zf_118_0, zf_118_1, zf_118_2, zf_118_3, zg_119_0, zg_119_5, zg_119_9, zg_119_15, zg_119_19, zg_119_22, zg_119_1, zg_119_16, zg_120_0, zg_120_1, zg_120_2, zg_120_3, zg_121_0, zg_122_0, zg_124_0, zg_126_0, zg_127_0, zg_128_0, zg_129_0, zg_131_0, zg_131_1, zg_131_2, zg_131_3, Nat.reduceAdd, Nat.reduceMul, Int32.reduceAdd, Int32.reduceSub, Int32.reduceMul]
                    first
                    | refine ⟨vp_inb rfl, ?_⟩
                    | refine ⟨fun h => absurd h (of_decide_eq_false rfl), fun _ => ?_⟩
                    | refine ⟨fun _ => ?_, fun h => absurd (of_decide_eq_true rfl) h⟩
                    | refine ⟨fun _ => ?_, fun h => absurd h (of_decide_eq_false rfl)⟩
                    | refine ⟨fun h => absurd (of_decide_eq_true rfl) h, fun _ => ?_⟩
                    | refine ⟨of_decide_eq_true rfl, ?_⟩
                    | refine ⟨rfl, ?_⟩)
            try (conv => whnf)
            refine ⟨(p, 1, 100000, _), rfl, rfl, trivial, ?_⟩
            try dsimp only
            by_cases h4 : 1 ≤ p ∧ p ≤ 100000
            · rw [if_pos h4]
              repeat (conv => whnf
                      try dsimp only
                      try simp (decide := true) only [zu_same, zu_ne1, zu_ne2, zuL_same, zuL_ne1, zuL_ne2, zrow_n1, zx0, zx1, zx2, zx3, zf_0_13, zf_0_14, zf_0_15, zf_1_3, zf_15_0, zf_16_0, zf_17_10, zf_86_3, zf_90_6, zf_90_7, zf_94_7, zf_100_6, zf_100_7, zf_118_0, zf_118_1, zf_118_2, zf_118_3, zg_119_0, zg_119_5, zg_119_9, zg_119_15, zg_119_19, zg_119_22, zg_119_1, zg_119_16, zg_120_0, zg_120_1, zg_120_2, zg_120_3, zg_121_0, zg_122_0, zg_124_0, zg_126_0, zg_127_0, zg_128_0, zg_129_0, zg_131_0, zg_131_1, zg_131_2, zg_131_3, Nat.reduceAdd, Nat.reduceMul, Int32.reduceAdd, Int32.reduceSub, Int32.reduceMul]
                      first
                      | refine ⟨vp_inb rfl, ?_⟩
                      | refine ⟨fun h => absurd h (of_decide_eq_false rfl), fun _ => ?_⟩
                      | refine ⟨fun _ => ?_, fun h => absurd (of_decide_eq_true rfl) h⟩
                      | refine ⟨fun _ => ?_, fun h => absurd h (of_decide_eq_false rfl)⟩
                      | refine ⟨fun h => absurd (of_decide_eq_true rfl) h, fun _ => ?_⟩
                      | refine ⟨of_decide_eq_true rfl, ?_⟩
                      | refine ⟨rfl, ?_⟩)
              try (conv => whnf)
              refine ⟨(q, 1, 100000, _), rfl, rfl, trivial, ?_⟩
              try dsimp only
              by_cases h5 : 1 ≤ q ∧ q ≤ 100000
              · rw [if_pos h5]
                have hc : (-3 ≤ a ∧ a ≤ 3) ∧ (-3 ≤ b ∧ b ≤ 3) ∧ (-3 ≤ c ∧ c ≤ 3) ∧ (-3 ≤ d ∧ d ≤ 3) ∧ (1 ≤ p ∧ p ≤ 100000) ∧ (1 ≤ q ∧ q ≤ 100000) := ⟨h0, h1, h2, h3, h4, h5⟩
                simp only [if_pos hc] at hK
                repeat (first
                  | (conv => whnf
                     try dsimp only
                     try simp (decide := true) only [znew, zu_same, zu_ne1, zu_ne2, zuL_same, zuL_ne1, zuL_ne2, zrow_n1, zx0, zx1, zx2, zx3, zf_0_13, zf_0_14, zf_0_15, zf_1_3, zf_15_0, zf_16_0, zf_17_10, zf_86_3, zf_90_6, zf_90_7, zf_94_7, zf_100_6, zf_100_7, zf_118_0, zf_118_1, zf_118_2, zf_118_3, zg_119_0, zg_119_5, zg_119_9, zg_119_15, zg_119_19, zg_119_22, zg_119_1, zg_119_16, zg_120_0, zg_120_1, zg_120_2, zg_120_3, zg_121_0, zg_122_0, zg_124_0, zg_126_0, zg_127_0, zg_128_0, zg_129_0, zg_131_0, zg_131_1, zg_131_2, zg_131_3, Nat.reduceAdd, Nat.reduceMul, Int32.reduceAdd, Int32.reduceSub, Int32.reduceMul]
                     first
                     | refine ⟨vp_inb rfl, ?_⟩
                     | refine ⟨fun h => absurd h (of_decide_eq_false rfl), fun _ => ?_⟩
                     | refine ⟨fun _ => ?_, fun h => absurd (of_decide_eq_true rfl) h⟩
                     | refine ⟨fun _ => ?_, fun h => absurd h (of_decide_eq_false rfl)⟩
                     | refine ⟨fun h => absurd (of_decide_eq_true rfl) h, fun _ => ?_⟩
                     | refine ⟨of_decide_eq_true rfl, ?_⟩
                     | refine ⟨rfl, ?_⟩)
                  | (conv => whnf
                     fail_if_success refine Exists.intro ?_ ?_
                     simp only [znew]))
                try (conv => whnf)
                refine ⟨_, _, _, _, _, 4, 48, rfl, rfl, rfl, ⟨of_decide_eq_true rfl, of_decide_eq_true rfl, of_decide_eq_true rfl, of_decide_eq_true rfl, of_decide_eq_true rfl⟩, ?_⟩
                repeat (first
                  | (conv => whnf
                     try dsimp only
                     try simp (decide := true) only [znew, zu_same, zu_ne1, zu_ne2, zuL_same, zuL_ne1, zuL_ne2, zrow_n1, zx0, zx1, zx2, zx3, zf_0_13, zf_0_14, zf_0_15, zf_1_3, zf_15_0, zf_16_0, zf_17_10, zf_86_3, zf_90_6, zf_90_7, zf_94_7, zf_100_6, zf_100_7, zf_118_0, zf_118_1, zf_118_2, zf_118_3, zg_119_0, zg_119_5, zg_119_9, zg_119_15, zg_119_19, zg_119_22, zg_119_1, zg_119_16, zg_120_0, zg_120_1, zg_120_2, zg_120_3, zg_121_0, zg_122_0, zg_124_0, zg_126_0, zg_127_0, zg_128_0, zg_129_0, zg_131_0, zg_131_1, zg_131_2, zg_131_3, Nat.reduceAdd, Nat.reduceMul, Int32.reduceAdd, Int32.reduceSub, Int32.reduceMul]
                     first
                     | refine ⟨vp_inb rfl, ?_⟩
                     | refine ⟨fun h => absurd h (of_decide_eq_false rfl), fun _ => ?_⟩
                     | refine ⟨fun _ => ?_, fun h => absurd (of_decide_eq_true rfl) h⟩
                     | refine ⟨fun _ => ?_, fun h => absurd h (of_decide_eq_false rfl)⟩
                     | refine ⟨fun h => absurd (of_decide_eq_true rfl) h, fun _ => ?_⟩
                     | refine ⟨of_decide_eq_true rfl, ?_⟩
                     | refine ⟨rfl, ?_⟩)
                  | (conv => whnf
                     fail_if_success refine Exists.intro ?_ ?_
                     simp only [znew]))
                try (conv => whnf)
                exact hK _ _ ⟨rfl, rfl, rfl, rfl, rfl⟩
              · rw [if_neg h5]
                have hc : ¬ ((-3 ≤ a ∧ a ≤ 3) ∧ (-3 ≤ b ∧ b ≤ 3) ∧ (-3 ≤ c ∧ c ≤ 3) ∧ (-3 ≤ d ∧ d ≤ 3) ∧ (1 ≤ p ∧ p ≤ 100000) ∧ (1 ≤ q ∧ q ≤ 100000)) := fun z => h5 z.2.2.2.2.2
                simp only [if_neg hc] at hK
                repeat (conv => whnf
                        try dsimp only
                        try simp (decide := true) only [zu_same, zu_ne1, zu_ne2, zuL_same, zuL_ne1, zuL_ne2, zrow_n1, zx0, zx1, zx2, zx3, zf_0_13, zf_0_14, zf_0_15, zf_1_3, zf_15_0, zf_16_0, zf_17_10, zf_86_3, zf_90_6, zf_90_7, zf_94_7, zf_100_6, zf_100_7, zf_118_0, zf_118_1, zf_118_2, zf_118_3, zg_119_0, zg_119_5, zg_119_9, zg_119_15, zg_119_19, zg_119_22, zg_119_1, zg_119_16, zg_120_0, zg_120_1, zg_120_2, zg_120_3, zg_121_0, zg_122_0, zg_124_0, zg_126_0, zg_127_0, zg_128_0, zg_129_0, zg_131_0, zg_131_1, zg_131_2, zg_131_3, Nat.reduceAdd, Nat.reduceMul, Int32.reduceAdd, Int32.reduceSub, Int32.reduceMul]
                        first
                        | refine ⟨vp_inb rfl, ?_⟩
                        | refine ⟨fun h => absurd h (of_decide_eq_false rfl), fun _ => ?_⟩
                        | refine ⟨fun _ => ?_, fun h => absurd (of_decide_eq_true rfl) h⟩
                        | refine ⟨fun _ => ?_, fun h => absurd h (of_decide_eq_false rfl)⟩
                        | refine ⟨fun h => absurd (of_decide_eq_true rfl) h, fun _ => ?_⟩
                        | refine ⟨of_decide_eq_true rfl, ?_⟩
                        | refine ⟨rfl, ?_⟩)
                try (conv => whnf)
                refine ⟨(_, 1), rfl, rfl, ⟨rfl, trivial⟩, ?_⟩
                try dsimp only
                repeat (conv => whnf
                        try dsimp only
                        try simp (decide := true) only [zu_same, zu_ne1, zu_ne2, zuL_same, zuL_ne1, zuL_ne2, zrow_n1, zx0, zx1, zx2, zx3, zf_0_13, zf_0_14, zf_0_15, zf_1_3, zf_15_0, zf_16_0, zf_17_10, zf_86_3, zf_90_6, zf_90_7, zf_94_7, zf_100_6, zf_100_7, zf_118_0, zf_118_1, zf_118_2, zf_118_3, zg_119_0, zg_119_5, zg_119_9, zg_119_15, zg_119_19, zg_119_22, zg_119_1, zg_119_16, zg_120_0, zg_120_1, zg_120_2, zg_120_3, zg_121_0, zg_122_0, zg_124_0, zg_126_0, zg_127_0, zg_128_0, zg_129_0, zg_131_0, zg_131_1, zg_131_2, zg_131_3, Nat.reduceAdd, Nat.reduceMul, Int32.reduceAdd, Int32.reduceSub, Int32.reduceMul]
                        first
                        | refine ⟨vp_inb rfl, ?_⟩
                        | refine ⟨fun h => absurd h (of_decide_eq_false rfl), fun _ => ?_⟩
                        | refine ⟨fun _ => ?_, fun h => absurd (of_decide_eq_true rfl) h⟩
                        | refine ⟨fun _ => ?_, fun h => absurd h (of_decide_eq_false rfl)⟩
                        | refine ⟨fun h => absurd (of_decide_eq_true rfl) h, fun _ => ?_⟩
                        | refine ⟨of_decide_eq_true rfl, ?_⟩
                        | refine ⟨rfl, ?_⟩)
                try (conv => whnf)
                exact hK _ _ ⟨rfl, rfl, rfl, rfl, rfl⟩
            · rw [if_neg h4]
              have hc : ¬ ((-3 ≤ a ∧ a ≤ 3) ∧ (-3 ≤ b ∧ b ≤ 3) ∧ (-3 ≤ c ∧ c ≤ 3) ∧ (-3 ≤ d ∧ d ≤ 3) ∧ (1 ≤ p ∧ p ≤ 100000) ∧ (1 ≤ q ∧ q ≤ 100000)) := fun z => h4 z.2.2.2.2.1
              simp only [if_neg hc] at hK
              repeat (conv => whnf
                      try dsimp only
                      try simp (decide := true) only [zu_same, zu_ne1, zu_ne2, zuL_same, zuL_ne1, zuL_ne2, zrow_n1, zx0, zx1, zx2, zx3, zf_0_13, zf_0_14, zf_0_15, zf_1_3, zf_15_0, zf_16_0, zf_17_10, zf_86_3, zf_90_6, zf_90_7, zf_94_7, zf_100_6, zf_100_7, zf_118_0, zf_118_1, zf_118_2, zf_118_3, zg_119_0, zg_119_5, zg_119_9, zg_119_15, zg_119_19, zg_119_22, zg_119_1, zg_119_16, zg_120_0, zg_120_1, zg_120_2, zg_120_3, zg_121_0, zg_122_0, zg_124_0, zg_126_0, zg_127_0, zg_128_0, zg_129_0, zg_131_0, zg_131_1, zg_131_2, zg_131_3, Nat.reduceAdd, Nat.reduceMul, Int32.reduceAdd, Int32.reduceSub, Int32.reduceMul]
                      first
                      | refine ⟨vp_inb rfl, ?_⟩
                      | refine ⟨fun h => absurd h (of_decide_eq_false rfl), fun _ => ?_⟩
                      | refine ⟨fun _ => ?_, fun h => absurd (of_decide_eq_true rfl) h⟩
                      | refine ⟨fun _ => ?_, fun h => absurd h (of_decide_eq_false rfl)⟩
                      | refine ⟨fun h => absurd (of_decide_eq_true rfl) h, fun _ => ?_⟩
                      | refine ⟨of_decide_eq_true rfl, ?_⟩
                      | refine ⟨rfl, ?_⟩)
              try (conv => whnf)
              refine ⟨(_, 1), rfl, rfl, ⟨rfl, trivial⟩, ?_⟩
              try dsimp only
              repeat (conv => whnf
                      try dsimp only
                      try simp (decide := true) only [zu_same, zu_ne1, zu_ne2, zuL_same, zuL_ne1, zuL_ne2, zrow_n1, zx0, zx1, zx2, zx3, zf_0_13, zf_0_14, zf_0_15, zf_1_3, zf_15_0, zf_16_0, zf_17_10, zf_86_3, zf_90_6, zf_90_7, zf_94_7, zf_100_6, zf_100_7, zf_118_0, zf_118_1, zf_118_2, zf_118_3, zg_119_0, zg_119_5, zg_119_9, zg_119_15, zg_119_19, zg_119_22, zg_119_1, zg_119_16, zg_120_0, zg_120_1, zg_120_2, zg_120_3, zg_121_0, zg_122_0, zg_124_0, zg_126_0, zg_127_0, zg_128_0, zg_129_0, zg_131_0, zg_131_1, zg_131_2, zg_131_3, Nat.reduceAdd, Nat.reduceMul, Int32.reduceAdd, Int32.reduceSub, Int32.reduceMul]
                      first
                      | refine ⟨vp_inb rfl, ?_⟩
                      | refine ⟨fun h => absurd h (of_decide_eq_false rfl), fun _ => ?_⟩
                      | refine ⟨fun _ => ?_, fun h => absurd (of_decide_eq_true rfl) h⟩
                      | refine ⟨fun _ => ?_, fun h => absurd h (of_decide_eq_false rfl)⟩
                      | refine ⟨fun h => absurd (of_decide_eq_true rfl) h, fun _ => ?_⟩
                      | refine ⟨of_decide_eq_true rfl, ?_⟩
                      | refine ⟨rfl, ?_⟩)
              try (conv => whnf)
              exact hK _ _ ⟨rfl, rfl, rfl, rfl, rfl⟩
          · rw [if_neg h3]
            have hc : ¬ ((-3 ≤ a ∧ a ≤ 3) ∧ (-3 ≤ b ∧ b ≤ 3) ∧ (-3 ≤ c ∧ c ≤ 3) ∧ (-3 ≤ d ∧ d ≤ 3) ∧ (1 ≤ p ∧ p ≤ 100000) ∧ (1 ≤ q ∧ q ≤ 100000)) := fun z => h3 z.2.2.2.1
            simp only [if_neg hc] at hK
            repeat (conv => whnf
                    try dsimp only
                    try simp (decide := true) only [zu_same, zu_ne1, zu_ne2, zuL_same, zuL_ne1, zuL_ne2, zrow_n1, zx0, zx1, zx2, zx3, zf_0_13, zf_0_14, zf_0_15, zf_1_3, zf_15_0, zf_16_0, zf_17_10, zf_86_3, zf_90_6, zf_90_7, zf_94_7, zf_100_6, zf_100_7, zf_118_0, zf_118_1, zf_118_2, zf_118_3, zg_119_0, zg_119_5, zg_119_9, zg_119_15, zg_119_19, zg_119_22, zg_119_1, zg_119_16, zg_120_0, zg_120_1, zg_120_2, zg_120_3, zg_121_0, zg_122_0, zg_124_0, zg_126_0, zg_127_0, zg_128_0, zg_129_0, zg_131_0, zg_131_1, zg_131_2, zg_131_3, Nat.reduceAdd, Nat.reduceMul, Int32.reduceAdd, Int32.reduceSub, Int32.reduceMul]
                    first
                    | refine ⟨vp_inb rfl, ?_⟩
                    | refine ⟨fun h => absurd h (of_decide_eq_false rfl), fun _ => ?_⟩
                    | refine ⟨fun _ => ?_, fun h => absurd (of_decide_eq_true rfl) h⟩
                    | refine ⟨fun _ => ?_, fun h => absurd h (of_decide_eq_false rfl)⟩
                    | refine ⟨fun h => absurd (of_decide_eq_true rfl) h, fun _ => ?_⟩
                    | refine ⟨of_decide_eq_true rfl, ?_⟩
                    | refine ⟨rfl, ?_⟩)
            try (conv => whnf)
            refine ⟨(_, 1), rfl, rfl, ⟨rfl, trivial⟩, ?_⟩
            try dsimp only
            repeat (conv => whnf
                    try dsimp only
                    try simp (decide := true) only [zu_same, zu_ne1, zu_ne2, zuL_same, zuL_ne1, zuL_ne2, zrow_n1, zx0, zx1, zx2, zx3, zf_0_13, zf_0_14, zf_0_15, zf_1_3, zf_15_0, zf_16_0, zf_17_10, zf_86_3, zf_90_6, zf_90_7, zf_94_7, zf_100_6, zf_100_7, zf_118_0, zf_118_1, zf_118_2, zf_118_3, zg_119_0, zg_119_5, zg_119_9, zg_119_15, zg_119_19, zg_119_22, zg_119_1, zg_119_16, zg_120_0, zg_120_1, zg_120_2, zg_120_3, zg_121_0, zg_122_0, zg_124_0, zg_126_0, zg_127_0, zg_128_0, zg_129_0, zg_131_0, zg_131_1, zg_131_2, zg_131_3, Nat.reduceAdd, Nat.reduceMul, Int32.reduceAdd, Int32.reduceSub, Int32.reduceMul]
                    first
                    | refine ⟨vp_inb rfl, ?_⟩
                    | refine ⟨fun h => absurd h (of_decide_eq_false rfl), fun _ => ?_⟩
                    | refine ⟨fun _ => ?_, fun h => absurd (of_decide_eq_true rfl) h⟩
                    | refine ⟨fun _ => ?_, fun h => absurd h (of_decide_eq_false rfl)⟩
                    | refine ⟨fun h => absurd (of_decide_eq_true rfl) h, fun _ => ?_⟩
                    | refine ⟨of_decide_eq_true rfl, ?_⟩
                    | refine ⟨rfl, ?_⟩)
            try (conv => whnf)
            exact hK _ _ ⟨rfl, rfl, rfl, rfl, rfl⟩
        · rw [if_neg h2]
          have hc : ¬ ((-3 ≤ a ∧ a ≤ 3) ∧ (-3 ≤ b ∧ b ≤ 3) ∧ (-3 ≤ c ∧ c ≤ 3) ∧ (-3 ≤ d ∧ d ≤ 3) ∧ (1 ≤ p ∧ p ≤ 100000) ∧ (1 ≤ q ∧ q ≤ 100000)) := fun z => h2 z.2.2.1
          simp only [if_neg hc] at hK
          repeat (conv => whnf
                  try dsimp only
                  try simp (decide := true) only [zu_same, zu_ne1, zu_ne2, zuL_same, zuL_ne1, zuL_ne2, zrow_n1, zx0, zx1, zx2, zx3, zf_0_13, zf_0_14, zf_0_15, zf_1_3, zf_15_0, zf_16_0, zf_17_10, zf_86_3, zf_90_6, zf_90_7, zf_94_7, zf_100_6, zf_100_7, zf_118_0, zf_118_1, zf_118_2, zf_118_3, zg_119_0, zg_119_5, zg_119_9, zg_119_15, zg_119_19, zg_119_22, zg_119_1, zg_119_16, zg_120_0, zg_120_1, zg_120_2, zg_120_3, zg_121_0, zg_122_0, zg_124_0, zg_126_0, zg_127_0, zg_128_0, zg_129_0, zg_131_0, zg_131_1, zg_131_2, zg_131_3, Nat.reduceAdd, Nat.reduceMul, Int32.reduceAdd, Int32.reduceSub, Int32.reduceMul]
                  first
                  | refine ⟨vp_inb rfl, ?_⟩
                  | refine ⟨fun h => absurd h (of_decide_eq_false rfl), fun _ => ?_⟩
                  | refine ⟨fun _ => ?_, fun h => absurd (of_decide_eq_true rfl) h⟩
                  | refine ⟨fun _ => ?_, fun h => absurd h (of_decide_eq_false rfl)⟩
                  | refine ⟨fun h => absurd (of_decide_eq_true rfl) h, fun _ => ?_⟩
                  | refine ⟨of_decide_eq_true rfl, ?_⟩
                  | refine ⟨rfl, ?_⟩)
          try (conv => whnf)
          refine ⟨(_, 1), rfl, rfl, ⟨rfl, trivial⟩, ?_⟩
          try dsimp only
          repeat (conv => whnf
                  try dsimp only
                  try simp (decide := true) only [zu_same, zu_ne1, zu_ne2, zuL_same, zuL_ne1, zuL_ne2, zrow_n1, zx0, zx1, zx2, zx3, zf_0_13, zf_0_14, zf_0_15, zf_1_3, zf_15_0, zf_16_0, zf_17_10, zf_86_3, zf_90_6, zf_90_7, zf_94_7, zf_100_6, zf_100_7, zf_118_0, zf_118_1, zf_118_2, zf_118_3, zg_119_0, zg_119_5, zg_119_9, zg_119_15, zg_119_19, zg_119_22, zg_119_1, zg_119_16, zg_120_0, zg_120_1, zg_120_2, zg_120_3, zg_121_0, zg_122_0, zg_124_0, zg_126_0, zg_127_0, zg_128_0, zg_129_0, zg_131_0, zg_131_1, zg_131_2, zg_131_3, Nat.reduceAdd, Nat.reduceMul, Int32.reduceAdd, Int32.reduceSub, Int32.reduceMul]
                  first
                  | refine ⟨vp_inb rfl, ?_⟩
                  | refine ⟨fun h => absurd h (of_decide_eq_false rfl), fun _ => ?_⟩
                  | refine ⟨fun _ => ?_, fun h => absurd (of_decide_eq_true rfl) h⟩
                  | refine ⟨fun _ => ?_, fun h => absurd h (of_decide_eq_false rfl)⟩
                  | refine ⟨fun h => absurd (of_decide_eq_true rfl) h, fun _ => ?_⟩
                  | refine ⟨of_decide_eq_true rfl, ?_⟩
                  | refine ⟨rfl, ?_⟩)
          try (conv => whnf)
          exact hK _ _ ⟨rfl, rfl, rfl, rfl, rfl⟩
      · rw [if_neg h1]
        have hc : ¬ ((-3 ≤ a ∧ a ≤ 3) ∧ (-3 ≤ b ∧ b ≤ 3) ∧ (-3 ≤ c ∧ c ≤ 3) ∧ (-3 ≤ d ∧ d ≤ 3) ∧ (1 ≤ p ∧ p ≤ 100000) ∧ (1 ≤ q ∧ q ≤ 100000)) := fun z => h1 z.2.1
        simp only [if_neg hc] at hK
        repeat (conv => whnf
                try dsimp only
                try simp (decide := true) only [zu_same, zu_ne1, zu_ne2, zuL_same, zuL_ne1, zuL_ne2, zrow_n1, zx0, zx1, zx2, zx3, zf_0_13, zf_0_14, zf_0_15, zf_1_3, zf_15_0, zf_16_0, zf_17_10, zf_86_3, zf_90_6, zf_90_7, zf_94_7, zf_100_6, zf_100_7, zf_118_0, zf_118_1, zf_118_2, zf_118_3, zg_119_0, zg_119_5, zg_119_9, zg_119_15, zg_119_19, zg_119_22, zg_119_1, zg_119_16, zg_120_0, zg_120_1, zg_120_2, zg_120_3, zg_121_0, zg_122_0, zg_124_0, zg_126_0, zg_127_0, zg_128_0, zg_129_0, zg_131_0, zg_131_1, zg_131_2, zg_131_3, Nat.reduceAdd, Nat.reduceMul, Int32.reduceAdd, Int32.reduceSub, Int32.reduceMul]
                first
                | refine ⟨vp_inb rfl, ?_⟩
                | refine ⟨fun h => absurd h (of_decide_eq_false rfl), fun _ => ?_⟩
                | refine ⟨fun _ => ?_, fun h => absurd (of_decide_eq_true rfl) h⟩
                | refine ⟨fun _ => ?_, fun h => absurd h (of_decide_eq_false rfl)⟩
                | refine ⟨fun h => absurd (of_decide_eq_true rfl) h, fun _ => ?_⟩
                | refine ⟨of_decide_eq_true rfl, ?_⟩
                | refine ⟨rfl, ?_⟩)
        try (conv => whnf)
        refine ⟨(_, 1), rfl, rfl, ⟨rfl, trivial⟩, ?_⟩
        try dsimp only
        repeat (conv => whnf
                try dsimp only
                try simp (decide := true) only [zu_same, zu_ne1, zu_ne2, zuL_same, zuL_ne1, zuL_ne2, zrow_n1, zx0, zx1, zx2, zx3, zf_0_13, zf_0_14, zf_0_15, zf_1_3, zf_15_0, zf_16_0, zf_17_10, zf_86_3, zf_90_6, zf_90_7, zf_94_7, zf_100_6, zf_100_7, zf_118_0, zf_118_1, zf_118_2, zf_118_3, zg_119_0, zg_119_5, zg_119_9, zg_119_15, zg_119_19, zg_119_22, zg_119_1, zg_119_16, zg_120_0, zg_120_1, zg_120_2, zg_120_3, zg_121_0, zg_122_0, zg_124_0, zg_126_0, zg_127_0, zg_128_0, zg_129_0, zg_131_0, zg_131_1, zg_131_2, zg_131_3, Nat.reduceAdd, Nat.reduceMul, Int32.reduceAdd, Int32.reduceSub, Int32.reduceMul]
                first
                | refine ⟨vp_inb rfl, ?_⟩
                | refine ⟨fun h => absurd h (of_decide_eq_false rfl), fun _ => ?_⟩
                | refine ⟨fun _ => ?_, fun h => absurd (of_decide_eq_true rfl) h⟩
                | refine ⟨fun _ => ?_, fun h => absurd h (of_decide_eq_false rfl)⟩
                | refine ⟨fun h => absurd (of_decide_eq_true rfl) h, fun _ => ?_⟩
                | refine ⟨of_decide_eq_true rfl, ?_⟩
                | refine ⟨rfl, ?_⟩)
        try (conv => whnf)
        exact hK _ _ ⟨rfl, rfl, rfl, rfl, rfl⟩
    · rw [if_neg h0]
      have hc : ¬ ((-3 ≤ a ∧ a ≤ 3) ∧ (-3 ≤ b ∧ b ≤ 3) ∧ (-3 ≤ c ∧ c ≤ 3) ∧ (-3 ≤ d ∧ d ≤ 3) ∧ (1 ≤ p ∧ p ≤ 100000) ∧ (1 ≤ q ∧ q ≤ 100000)) := fun z => h0 z.1
      simp only [if_neg hc] at hK
      repeat (conv => whnf
              try dsimp only
              try simp (decide := true) only [zu_same, zu_ne1, zu_ne2, zuL_same, zuL_ne1, zuL_ne2, zrow_n1, zx0, zx1, zx2, zx3, zf_0_13, zf_0_14, zf_0_15, zf_1_3, zf_15_0, zf_16_0, zf_17_10, zf_86_3, zf_90_6, zf_90_7, zf_94_7, zf_100_6, zf_100_7, zf_118_0, zf_118_1, zf_118_2, zf_118_3, zg_119_0, zg_119_5, zg_119_9, zg_119_15, zg_119_19, zg_119_22, zg_119_1, zg_119_16, zg_120_0, zg_120_1, zg_120_2, zg_120_3, zg_121_0, zg_122_0, zg_124_0, zg_126_0, zg_127_0, zg_128_0, zg_129_0, zg_131_0, zg_131_1, zg_131_2, zg_131_3, Nat.reduceAdd, Nat.reduceMul, Int32.reduceAdd, Int32.reduceSub, Int32.reduceMul]
              first
              | refine ⟨vp_inb rfl, ?_⟩
              | refine ⟨fun h => absurd h (of_decide_eq_false rfl), fun _ => ?_⟩
              | refine ⟨fun _ => ?_, fun h => absurd (of_decide_eq_true rfl) h⟩
              | refine ⟨fun _ => ?_, fun h => absurd h (of_decide_eq_false rfl)⟩
              | refine ⟨fun h => absurd (of_decide_eq_true rfl) h, fun _ => ?_⟩
              | refine ⟨of_decide_eq_true rfl, ?_⟩
              | refine ⟨rfl, ?_⟩)
      try (conv => whnf)
      refine ⟨(_, 1), rfl, rfl, ⟨rfl, trivial⟩, ?_⟩
      try dsimp only
      repeat (conv => whnf
              try dsimp only
              try simp (decide := true) only [zu_same, zu_ne1, zu_ne2, zuL_same, zuL_ne1, zuL_ne2, zrow_n1, zx0, zx1, zx2, zx3, zf_0_13, zf_0_14, zf_0_15, zf_1_3, zf_15_0, zf_16_0, zf_17_10, zf_86_3, zf_90_6, zf_90_7, zf_94_7, zf_100_6, zf_100_7, zf_118_0, zf_118_1, zf_118_2, zf_118_3, zg_119_0, zg_119_5, zg_119_9, zg_119_15, zg_119_19, zg_119_22, zg_119_1, zg_119_16, zg_120_0, zg_120_1, zg_120_2, zg_120_3, zg_121_0, zg_122_0, zg_124_0, zg_126_0, zg_127_0, zg_128_0, zg_129_0, zg_131_0, zg_131_1, zg_131_2, zg_131_3, Nat.reduceAdd, Nat.reduceMul, Int32.reduceAdd, Int32.reduceSub, Int32.reduceMul]
              first
              | refine ⟨vp_inb rfl, ?_⟩
              | refine ⟨fun h => absurd h (of_decide_eq_false rfl), fun _ => ?_⟩
              | refine ⟨fun _ => ?_, fun h => absurd (of_decide_eq_true rfl) h⟩
              | refine ⟨fun _ => ?_, fun h => absurd h (of_decide_eq_false rfl)⟩
              | refine ⟨fun h => absurd (of_decide_eq_true rfl) h, fun _ => ?_⟩
              | refine ⟨of_decide_eq_true rfl, ?_⟩
              | refine ⟨rfl, ?_⟩)
      try (conv => whnf)
      exact hK _ _ ⟨rfl, rfl, rfl, rfl, rfl⟩
def spX8_variable : zSp := zDQ (X := Int32 × zIn × zLo × Int64) (fun x => match x with | (u, s1, t1, v9) => [.ref 119, .int u]) (fun x => match x with | (u, s1, t1, v9) => (145, zSH, zRH, zmx s1, zmxL t1 v9)) (fun x => match x with | (u, s1, t1, v9) => True) (fun x r9 μ9 => match x with | (u, s1, t1, v9) => r9 = some (.int (if 0 ≤ u ∧ u ≤ 0 then 0 else 0)) ∧ zaft v9 (if 0 ≤ u ∧ u ≤ 0 then 0 else 1) μ9)
abbrev rmX8_variable : Room := ({ frames := 2, cells := 0, slots := 0, locals := 43 } : Room)
set_option maxRecDepth 100000 in
set_option maxHeartbeats 4000000 in
theorem ctX8_variable (l : Launch) (D : va_G) (cA : Nat → ClassId) : zCt false l D cA yX8_variable cX8_variable 2 (some .int) rmX8_variable spX8_variable := by
  refine zct_Q (zCX8_variable [(128, 0, 1, spX8_isUnit, rmX8_isUnit.cells, rmX8_isUnit.slots), (118, 0, 1, spX8_no, rmX8_no.cells, rmX8_no.slots)]) zpX8_variable [] (by decide +kernel) zkX8_variable (Or.inr (by decide +kernel)) trivial ⟨by decide +kernel, by decide +kernel⟩ (fun x ad => Nat.le_of_ble_eq_true rfl) ?_ ?_
  · intro p e s m args below meth c A H0 ad0 n0 Q F hml hNw hA hX
    exact ⟨zco_V hX hA F hml hNw (ctX8_isUnit l D cA) ⟨⟨zlX8_variable_128, zwX8_isUnit.1.1, zwX8_isUnit.1.2⟩, zwX8_isUnit.2⟩ zdX8_isUnit ⟨Nat.le_of_ble_eq_true rfl, Nat.le_of_ble_eq_true rfl⟩ (ci := 8) (by decide) rfl (by rintro av μ K ⟨x, rfl, rfl, -⟩; exact ⟨_, _, rfl, rfl⟩), zco_V hX hA F hml hNw (ctX8_no l D cA) ⟨⟨zlX8_variable_118, zwX8_no.1.1, zwX8_no.1.2⟩, zwX8_no.2⟩ zdX8_no ⟨Nat.le_of_ble_eq_true rfl, Nat.le_of_ble_eq_true rfl⟩ (ci := 8) (by decide) rfl (by rintro av μ K ⟨⟨μ0, x9⟩, rfl, rfl, h9, -⟩; exact ⟨_, _, rfl, congrArg Prod.fst h9.1⟩), trivial⟩
  · rintro ⟨u, s1, t1, v9⟩ Ret hP hK Gl hG
    try dsimp only at hP hK
    show Gl 0 (zent 2 [.ref 119, .int u]) [] (0, 0) ((145, zSH, zRH, zmx s1, zmxL t1 v9))
    refine hG 1000 _ _ _ _ _ ?_
    repeat (conv => whnf
            try dsimp only
            try simp (decide := true) only [zu_same, zu_ne1, zu_ne2, zuL_same, zuL_ne1, zuL_ne2, zrow_n1, zx0, zx1, zx2, zx3, zf_0_13, zf_0_14, zf_0_15, zf_1_3, zf_15_0, zf_16_0, zf_17_10, zf_86_3, zf_90_6, zf_90_7, zf_94_7, zf_100_6, zf_100_7, zf_118_0, zf_118_1, zf_118_2, zf_118_3, zg_119_0, zg_119_5, zg_119_9, zg_119_15, zg_119_19, zg_119_22, zg_119_1, zg_119_16, zg_120_0, zg_120_1, zg_120_2, zg_120_3, zg_121_0, zg_122_0, zg_124_0, zg_126_0, zg_127_0, zg_128_0, zg_129_0, zg_131_0, zg_131_1, zg_131_2, zg_131_3, Nat.reduceAdd, Nat.reduceMul, Int32.reduceAdd, Int32.reduceSub, Int32.reduceMul]
            first
            | refine ⟨vp_inb rfl, ?_⟩
            | refine ⟨fun h => absurd h (of_decide_eq_false rfl), fun _ => ?_⟩
            | refine ⟨fun _ => ?_, fun h => absurd (of_decide_eq_true rfl) h⟩
            | refine ⟨fun _ => ?_, fun h => absurd h (of_decide_eq_false rfl)⟩
            | refine ⟨fun h => absurd (of_decide_eq_true rfl) h, fun _ => ?_⟩
            | refine ⟨of_decide_eq_true rfl, ?_⟩
            | refine ⟨rfl, ?_⟩)
    try (conv => whnf)
    refine ⟨(zu (zmx s1) 119 0 0, zmxL t1 v9, u), rfl, rfl, rfl, ?_⟩
    try dsimp only
    by_cases h : 0 ≤ u ∧ u ≤ 0
    · rw [if_pos h]
      simp only [if_pos h] at hK
      repeat (conv => whnf
              try dsimp only
              try simp (decide := true) only [zu_same, zu_ne1, zu_ne2, zuL_same, zuL_ne1, zuL_ne2, zrow_n1, zx0, zx1, zx2, zx3, zf_0_13, zf_0_14, zf_0_15, zf_1_3, zf_15_0, zf_16_0, zf_17_10, zf_86_3, zf_90_6, zf_90_7, zf_94_7, zf_100_6, zf_100_7, zf_118_0, zf_118_1, zf_118_2, zf_118_3, zg_119_0, zg_119_5, zg_119_9, zg_119_15, zg_119_19, zg_119_22, zg_119_1, zg_119_16, zg_120_0, zg_120_1, zg_120_2, zg_120_3, zg_121_0, zg_122_0, zg_124_0, zg_126_0, zg_127_0, zg_128_0, zg_129_0, zg_131_0, zg_131_1, zg_131_2, zg_131_3, Nat.reduceAdd, Nat.reduceMul, Int32.reduceAdd, Int32.reduceSub, Int32.reduceMul]
              first
              | refine ⟨vp_inb rfl, ?_⟩
              | refine ⟨fun h => absurd h (of_decide_eq_false rfl), fun _ => ?_⟩
              | refine ⟨fun _ => ?_, fun h => absurd (of_decide_eq_true rfl) h⟩
              | refine ⟨fun _ => ?_, fun h => absurd h (of_decide_eq_false rfl)⟩
              | refine ⟨fun h => absurd (of_decide_eq_true rfl) h, fun _ => ?_⟩
              | refine ⟨of_decide_eq_true rfl, ?_⟩
              | refine ⟨rfl, ?_⟩)
      try (conv => whnf)
      exact hK _ _ ⟨rfl, rfl, rfl, rfl, rfl⟩
    · rw [if_neg h]
      simp only [if_neg h] at hK
      repeat (conv => whnf
              try dsimp only
              try simp (decide := true) only [zu_same, zu_ne1, zu_ne2, zuL_same, zuL_ne1, zuL_ne2, zrow_n1, zx0, zx1, zx2, zx3, zf_0_13, zf_0_14, zf_0_15, zf_1_3, zf_15_0, zf_16_0, zf_17_10, zf_86_3, zf_90_6, zf_90_7, zf_94_7, zf_100_6, zf_100_7, zf_118_0, zf_118_1, zf_118_2, zf_118_3, zg_119_0, zg_119_5, zg_119_9, zg_119_15, zg_119_19, zg_119_22, zg_119_1, zg_119_16, zg_120_0, zg_120_1, zg_120_2, zg_120_3, zg_121_0, zg_122_0, zg_124_0, zg_126_0, zg_127_0, zg_128_0, zg_129_0, zg_131_0, zg_131_1, zg_131_2, zg_131_3, Nat.reduceAdd, Nat.reduceMul, Int32.reduceAdd, Int32.reduceSub, Int32.reduceMul]
              first
              | refine ⟨vp_inb rfl, ?_⟩
              | refine ⟨fun h => absurd h (of_decide_eq_false rfl), fun _ => ?_⟩
              | refine ⟨fun _ => ?_, fun h => absurd (of_decide_eq_true rfl) h⟩
              | refine ⟨fun _ => ?_, fun h => absurd h (of_decide_eq_false rfl)⟩
              | refine ⟨fun h => absurd (of_decide_eq_true rfl) h, fun _ => ?_⟩
              | refine ⟨of_decide_eq_true rfl, ?_⟩
              | refine ⟨rfl, ?_⟩)
      try (conv => whnf)
      refine ⟨(_, 1), rfl, rfl, ⟨rfl, trivial⟩, ?_⟩
      try dsimp only
      repeat (conv => whnf
              try dsimp only
              try simp (decide := true) only [zu_same, zu_ne1, zu_ne2, zuL_same, zuL_ne1, zuL_ne2, zrow_n1, zx0, zx1, zx2, zx3, zf_0_13, zf_0_14, zf_0_15, zf_1_3, zf_15_0, zf_16_0, zf_17_10, zf_86_3, zf_90_6, zf_90_7, zf_94_7, zf_100_6, zf_100_7, zf_118_0, zf_118_1, zf_118_2, zf_118_3, zg_119_0, zg_119_5, zg_119_9, zg_119_15, zg_119_19, zg_119_22, zg_119_1, zg_119_16, zg_120_0, zg_120_1, zg_120_2, zg_120_3, zg_121_0, zg_122_0, zg_124_0, zg_126_0, zg_127_0, zg_128_0, zg_129_0, zg_131_0, zg_131_1, zg_131_2, zg_131_3, Nat.reduceAdd, Nat.reduceMul, Int32.reduceAdd, Int32.reduceSub, Int32.reduceMul]
              first
              | refine ⟨vp_inb rfl, ?_⟩
              | refine ⟨fun h => absurd h (of_decide_eq_false rfl), fun _ => ?_⟩
              | refine ⟨fun _ => ?_, fun h => absurd (of_decide_eq_true rfl) h⟩
              | refine ⟨fun _ => ?_, fun h => absurd h (of_decide_eq_false rfl)⟩
              | refine ⟨fun h => absurd (of_decide_eq_true rfl) h, fun _ => ?_⟩
              | refine ⟨of_decide_eq_true rfl, ?_⟩
              | refine ⟨rfl, ?_⟩)
      try (conv => whnf)
      exact hK _ _ ⟨rfl, rfl, rfl, rfl, rfl⟩
def spX8_haveExponents : zSp := zD (X := zIn × zLo) (fun x => match x with | (σ, τ) => [.ref 119, .int 0]) (fun x => match x with | (σ, τ) => (145, zSH, zRH, σ, τ)) (fun x => match x with | (σ, τ) => σ 126 0 = 0) (fun x => match x with | (σ, τ) => some (.int 1)) (fun x => match x with | (σ, τ) => (145, zSH, zRH, σ, τ))
abbrev rmX8_haveExponents : Room := ({ frames := 0, cells := 0, slots := 0, locals := 0 } : Room)
set_option maxRecDepth 100000 in
set_option maxHeartbeats 4000000 in
theorem ctX8_haveExponents (l : Launch) (D : va_G) (cA : Nat → ClassId) : zCt false l D cA yX8_haveExponents cX8_haveExponents 3 (some .boolean) rmX8_haveExponents spX8_haveExponents := by
  refine zct_D (zCX8_haveExponents []) zpX8_haveExponents [] (by decide +kernel) zkX8_haveExponents (Or.inr (by decide +kernel)) trivial ⟨by decide +kernel, by decide +kernel⟩ (fun x ad => Nat.le_of_ble_eq_true rfl) ?_ ?_
  · intro p e s m args below meth c A H0 ad0 n0 Q F hml hNw hA hX
    exact trivial
  · rintro ⟨σ, τ⟩ Ret hP hK Gl hG
    try dsimp only at hP hK
    show Gl 0 (zent 3 [.ref 119, .int 0]) [] (0, 0) ((145, zSH, zRH, σ, τ))
    refine hG 1000 _ _ _ _ _ ?_
    repeat (first
      | (conv => whnf
         try dsimp only
         try simp (decide := true) only [hP, zu_same, zu_ne1, zu_ne2, zuL_same, zuL_ne1, zuL_ne2, zrow_n1, zx0, zx1, zx2, zx3, zf_0_13, zf_0_14, zf_0_15, zf_1_3, zf_15_0, zf_16_0, zf_17_10, zf_86_3, zf_90_6, zf_90_7, zf_94_7, zf_100_6, zf_100_7, zf_118_0, zf_118_1, zf_118_2, zf_118_3, zg_119_0, zg_119_5, zg_119_9, zg_119_15, zg_119_19, zg_119_22, zg_119_1, zg_119_16, zg_120_0, zg_120_1, zg_120_2, zg_120_3, zg_121_0, zg_122_0, zg_124_0, zg_126_0, zg_127_0, zg_128_0, zg_129_0, zg_131_0, zg_131_1, zg_131_2, zg_131_3, Nat.reduceAdd, Nat.reduceMul, Int32.reduceAdd, Int32.reduceSub, Int32.reduceMul]
         first
         | refine ⟨vp_inb rfl, ?_⟩
         | refine ⟨fun h => absurd h (of_decide_eq_false rfl), fun _ => ?_⟩
         | refine ⟨fun _ => ?_, fun h => absurd (of_decide_eq_true rfl) h⟩
         | refine ⟨fun _ => ?_, fun h => absurd h (of_decide_eq_false rfl)⟩
         | refine ⟨fun h => absurd (of_decide_eq_true rfl) h, fun _ => ?_⟩
         | refine ⟨of_decide_eq_true rfl, ?_⟩
         | refine ⟨rfl, ?_⟩)
      | (conv => whnf
         fail_if_success refine Exists.intro ?_ ?_
         simp only [hP]))
    try (conv => whnf)
    exact hK
def spX8_told : zSp := zD (X := zIn × zLo × Nat) (fun x => match x with | (σ, τ, k) => [.ref 119, .int 0, .int (nI k)]) (fun x => match x with | (σ, τ, k) => (145, zSH, zRH, σ, τ)) (fun x => match x with | (σ, τ, k) => k < 4 ∧ σ 126 0 = 0 ∧ σ 128 0 = 0 ∧ σ 120 0 = 0 ∧ σ 120 1 = 0 ∧ σ 120 2 = 0 ∧ σ 120 3 = 0) (fun x => match x with | (σ, τ, k) => some (.int 0)) (fun x => match x with | (σ, τ, k) => (145, zSH, zRH, σ, τ))
abbrev rmX8_told : Room := ({ frames := 0, cells := 0, slots := 0, locals := 0 } : Room)
set_option maxRecDepth 100000 in
set_option maxHeartbeats 4000000 in
theorem ctX8_told (l : Launch) (D : va_G) (cA : Nat → ClassId) : zCt false l D cA yX8_told cX8_told 4 (some .int) rmX8_told spX8_told := by
  refine zct_D (zCX8_told []) zpX8_told [] (by decide +kernel) zkX8_told (Or.inr (by decide +kernel)) trivial ⟨by decide +kernel, by decide +kernel⟩ (fun x ad => Nat.le_of_ble_eq_true rfl) ?_ ?_
  · intro p e s m args below meth c A H0 ad0 n0 Q F hml hNw hA hX
    exact trivial
  · rintro ⟨σ, τ, k⟩ Ret hP hK Gl hG
    try dsimp only at hP hK
    show Gl 0 (zent 4 [.ref 119, .int 0, .int (nI k)]) [] (0, 0) ((145, zSH, zRH, σ, τ))
    obtain ⟨hk, hP⟩ := hP
    rcases (show k = 0 ∨ k = 1 ∨ k = 2 ∨ k = 3 by omega) with rfl | rfl | rfl | rfl
    all_goals
      refine hG 1000 _ _ _ _ _ ?_
      repeat (first
        | (conv => whnf
           try dsimp only
           try simp (decide := true) only [hP.1, hP.2.1, hP.2.2.1, hP.2.2.2.1, hP.2.2.2.2.1, hP.2.2.2.2.2, zu_same, zu_ne1, zu_ne2, zuL_same, zuL_ne1, zuL_ne2, zrow_n1, zx0, zx1, zx2, zx3, zf_0_13, zf_0_14, zf_0_15, zf_1_3, zf_15_0, zf_16_0, zf_17_10, zf_86_3, zf_90_6, zf_90_7, zf_94_7, zf_100_6, zf_100_7, zf_118_0, zf_118_1, zf_118_2, zf_118_3, zg_119_0, zg_119_5, zg_119_9, zg_119_15, zg_119_19, zg_119_22, zg_119_1, zg_119_16, zg_120_0, zg_120_1, zg_120_2, zg_120_3, zg_121_0, zg_122_0, zg_124_0, zg_126_0, zg_127_0, zg_128_0, zg_129_0, zg_131_0, zg_131_1, zg_131_2, zg_131_3, Nat.reduceAdd, Nat.reduceMul, Int32.reduceAdd, Int32.reduceSub, Int32.reduceMul]
           first
           | refine ⟨vp_inb rfl, ?_⟩
           | refine ⟨fun h => absurd h (of_decide_eq_false rfl), fun _ => ?_⟩
           | refine ⟨fun _ => ?_, fun h => absurd (of_decide_eq_true rfl) h⟩
           | refine ⟨fun _ => ?_, fun h => absurd h (of_decide_eq_false rfl)⟩
           | refine ⟨fun h => absurd (of_decide_eq_true rfl) h, fun _ => ?_⟩
           | refine ⟨of_decide_eq_true rfl, ?_⟩
           | refine ⟨rfl, ?_⟩)
        | (conv => whnf
           fail_if_success refine Exists.intro ?_ ?_
           simp only [hP.1, hP.2.1, hP.2.2.1, hP.2.2.2.1, hP.2.2.2.2.1, hP.2.2.2.2.2]))
      try (conv => whnf)
      refine ⟨fun h => absurd h (by decide), zsw_one _ _ 0 92 rfl rfl ?_⟩
      repeat (first
        | (conv => whnf
           try dsimp only
           try simp (decide := true) only [hP.1, hP.2.1, hP.2.2.1, hP.2.2.2.1, hP.2.2.2.2.1, hP.2.2.2.2.2, zu_same, zu_ne1, zu_ne2, zuL_same, zuL_ne1, zuL_ne2, zrow_n1, zx0, zx1, zx2, zx3, zf_0_13, zf_0_14, zf_0_15, zf_1_3, zf_15_0, zf_16_0, zf_17_10, zf_86_3, zf_90_6, zf_90_7, zf_94_7, zf_100_6, zf_100_7, zf_118_0, zf_118_1, zf_118_2, zf_118_3, zg_119_0, zg_119_5, zg_119_9, zg_119_15, zg_119_19, zg_119_22, zg_119_1, zg_119_16, zg_120_0, zg_120_1, zg_120_2, zg_120_3, zg_121_0, zg_122_0, zg_124_0, zg_126_0, zg_127_0, zg_128_0, zg_129_0, zg_131_0, zg_131_1, zg_131_2, zg_131_3, Nat.reduceAdd, Nat.reduceMul, Int32.reduceAdd, Int32.reduceSub, Int32.reduceMul]
           first
           | refine ⟨vp_inb rfl, ?_⟩
           | refine ⟨fun h => absurd h (of_decide_eq_false rfl), fun _ => ?_⟩
           | refine ⟨fun _ => ?_, fun h => absurd (of_decide_eq_true rfl) h⟩
           | refine ⟨fun _ => ?_, fun h => absurd h (of_decide_eq_false rfl)⟩
           | refine ⟨fun h => absurd (of_decide_eq_true rfl) h, fun _ => ?_⟩
           | refine ⟨of_decide_eq_true rfl, ?_⟩
           | refine ⟨rfl, ?_⟩)
        | (conv => whnf
           fail_if_success refine Exists.intro ?_ ?_
           simp only [hP.1, hP.2.1, hP.2.2.1, hP.2.2.2.1, hP.2.2.2.2.1, hP.2.2.2.2.2]))
      try (conv => whnf)
      first
      | (show Ret (some (Value.int (σ 120 0))) (145, zSH, zRH, σ, τ); rw [hP.2.2.1]; exact hK)
      | (show Ret (some (Value.int (σ 120 1))) (145, zSH, zRH, σ, τ); rw [hP.2.2.2.1]; exact hK)
      | (show Ret (some (Value.int (σ 120 2))) (145, zSH, zRH, σ, τ); rw [hP.2.2.2.2.1]; exact hK)
      | (show Ret (some (Value.int (σ 120 3))) (145, zSH, zRH, σ, τ); rw [hP.2.2.2.2.2]; exact hK)
def spX8_tellExponents : zSp := zD (X := zIn × zLo) (fun x => match x with | (σ, τ) => [.ref 119, .int 0]) (fun x => match x with | (σ, τ) => (145, zSH, zRH, σ, τ)) (fun x => match x with | (σ, τ) => σ 126 0 = 0 ∧ σ 128 0 = 0 ∧ σ 120 0 = 0 ∧ σ 120 1 = 0 ∧ σ 120 2 = 0 ∧ σ 120 3 = 0) (fun x => match x with | (σ, τ) => none) (fun x => match x with | (σ, τ) => (145, zSH, zRH, zu (zu (zu (zu (σ) 130 0 0) 130 1 0) 130 2 0) 130 3 0, τ))
abbrev rmX8_tellExponents : Room := ({ frames := 1, cells := 0, slots := 0, locals := 23 } : Room)
set_option maxRecDepth 100000 in
set_option maxHeartbeats 4000000 in
theorem ctX8_tellExponents (l : Launch) (D : va_G) (cA : Nat → ClassId) : zCt false l D cA yX8_tellExponents cX8_tellExponents 5 (none) rmX8_tellExponents spX8_tellExponents := by
  refine zct_D (zCX8_tellExponents [(161, 0, 1, spX8_haveExponents, rmX8_haveExponents.cells, rmX8_haveExponents.slots), (168, 0, 2, spX8_told, rmX8_told.cells, rmX8_told.slots), (90, 1, 3, spX8_isIn, rmX8_isIn.cells, rmX8_isIn.slots)]) zpX8_tellExponents [] (by decide +kernel) zkX8_tellExponents (Or.inr (by decide +kernel)) trivial ⟨by decide +kernel, by decide +kernel⟩ (fun x ad => Nat.le_of_ble_eq_true rfl) ?_ ?_
  · intro p e s m args below meth c A H0 ad0 n0 Q F hml hNw hA hX
    exact ⟨zco_V hX hA F hml hNw (ctX8_haveExponents l D cA) ⟨⟨zlX8_tellExponents_161, zwX8_haveExponents.1.1, zwX8_haveExponents.1.2⟩, zwX8_haveExponents.2⟩ zdX8_haveExponents ⟨Nat.le_of_ble_eq_true rfl, Nat.le_of_ble_eq_true rfl⟩ (ci := 8) (by decide) rfl (by rintro av μ K ⟨x, rfl, rfl, -⟩; exact ⟨_, _, rfl, rfl⟩), zco_V hX hA F hml hNw (ctX8_told l D cA) ⟨⟨zlX8_tellExponents_168, zwX8_told.1.1, zwX8_told.1.2⟩, zwX8_told.2⟩ zdX8_told ⟨Nat.le_of_ble_eq_true rfl, Nat.le_of_ble_eq_true rfl⟩ (ci := 8) (by decide) rfl (by rintro av μ K ⟨x, rfl, rfl, -⟩; exact ⟨_, _, rfl, rfl⟩), zco_S hX hA F hml hNw (ctX8_isIn l D cA) ⟨⟨zlX8_tellExponents_90, zwX8_isIn.1⟩, zwX8_isIn.2⟩ zdX8_isIn ⟨Nat.le_of_ble_eq_true rfl, Nat.le_of_ble_eq_true rfl⟩, trivial⟩
  · rintro ⟨σ, τ⟩ Ret hP hK Gl hG
    try dsimp only at hP hK
    show Gl 0 (zent 5 [.ref 119, .int 0]) [] (0, 0) ((145, zSH, zRH, σ, τ))
    refine hG 1000 _ _ _ _ _ ?_
    repeat (first
      | (conv => whnf
         try dsimp only
         try simp (decide := true) only [hP.1, hP.2.1, hP.2.2.1, hP.2.2.2.1, hP.2.2.2.2.1, hP.2.2.2.2.2, zu_same, zu_ne1, zu_ne2, zuL_same, zuL_ne1, zuL_ne2, zrow_n1, zx0, zx1, zx2, zx3, zf_0_13, zf_0_14, zf_0_15, zf_1_3, zf_15_0, zf_16_0, zf_17_10, zf_86_3, zf_90_6, zf_90_7, zf_94_7, zf_100_6, zf_100_7, zf_118_0, zf_118_1, zf_118_2, zf_118_3, zg_119_0, zg_119_5, zg_119_9, zg_119_15, zg_119_19, zg_119_22, zg_119_1, zg_119_16, zg_120_0, zg_120_1, zg_120_2, zg_120_3, zg_121_0, zg_122_0, zg_124_0, zg_126_0, zg_127_0, zg_128_0, zg_129_0, zg_131_0, zg_131_1, zg_131_2, zg_131_3, Nat.reduceAdd, Nat.reduceMul, Int32.reduceAdd, Int32.reduceSub, Int32.reduceMul]
         first
         | refine ⟨vp_inb rfl, ?_⟩
         | refine ⟨fun h => absurd h (of_decide_eq_false rfl), fun _ => ?_⟩
         | refine ⟨fun _ => ?_, fun h => absurd (of_decide_eq_true rfl) h⟩
         | refine ⟨fun _ => ?_, fun h => absurd h (of_decide_eq_false rfl)⟩
         | refine ⟨fun h => absurd (of_decide_eq_true rfl) h, fun _ => ?_⟩
         | refine ⟨of_decide_eq_true rfl, ?_⟩
         | refine ⟨rfl, ?_⟩)
      | (conv => whnf
         fail_if_success refine Exists.intro ?_ ?_
         simp only [hP.1, hP.2.1, hP.2.2.1, hP.2.2.2.1, hP.2.2.2.2.1, hP.2.2.2.2.2]))
    try (conv => whnf)
    refine ⟨(σ, τ), rfl, rfl, hP.1, ?_⟩
    try dsimp only
    repeat (first
      | (conv => whnf
         try dsimp only
         try simp (decide := true) only [hP.1, hP.2.1, hP.2.2.1, hP.2.2.2.1, hP.2.2.2.2.1, hP.2.2.2.2.2, zu_same, zu_ne1, zu_ne2, zuL_same, zuL_ne1, zuL_ne2, zrow_n1, zx0, zx1, zx2, zx3, zf_0_13, zf_0_14, zf_0_15, zf_1_3, zf_15_0, zf_16_0, zf_17_10, zf_86_3, zf_90_6, zf_90_7, zf_94_7, zf_100_6, zf_100_7, zf_118_0, zf_118_1, zf_118_2, zf_118_3, zg_119_0, zg_119_5, zg_119_9, zg_119_15, zg_119_19, zg_119_22, zg_119_1, zg_119_16, zg_120_0, zg_120_1, zg_120_2, zg_120_3, zg_121_0, zg_122_0, zg_124_0, zg_126_0, zg_127_0, zg_128_0, zg_129_0, zg_131_0, zg_131_1, zg_131_2, zg_131_3, Nat.reduceAdd, Nat.reduceMul, Int32.reduceAdd, Int32.reduceSub, Int32.reduceMul]
         first
         | refine ⟨vp_inb rfl, ?_⟩
         | refine ⟨fun h => absurd h (of_decide_eq_false rfl), fun _ => ?_⟩
         | refine ⟨fun _ => ?_, fun h => absurd (of_decide_eq_true rfl) h⟩
         | refine ⟨fun _ => ?_, fun h => absurd h (of_decide_eq_false rfl)⟩
         | refine ⟨fun h => absurd (of_decide_eq_true rfl) h, fun _ => ?_⟩
         | refine ⟨of_decide_eq_true rfl, ?_⟩
         | refine ⟨rfl, ?_⟩)
      | (conv => whnf
         fail_if_success refine Exists.intro ?_ ?_
         simp only [hP.1, hP.2.1, hP.2.2.1, hP.2.2.2.1, hP.2.2.2.2.1, hP.2.2.2.2.2]))
    try (conv => whnf)
    refine ⟨(σ, τ, 0), rfl, rfl, ⟨by decide, hP.1, hP.2.1, hP.2.2.1, hP.2.2.2.1, hP.2.2.2.2.1, hP.2.2.2.2.2⟩, ?_⟩
    try dsimp only
    repeat (first
      | (conv => whnf
         try dsimp only
         try simp (decide := true) only [hP.1, hP.2.1, hP.2.2.1, hP.2.2.2.1, hP.2.2.2.2.1, hP.2.2.2.2.2, zu_same, zu_ne1, zu_ne2, zuL_same, zuL_ne1, zuL_ne2, zrow_n1, zx0, zx1, zx2, zx3, zf_0_13, zf_0_14, zf_0_15, zf_1_3, zf_15_0, zf_16_0, zf_17_10, zf_86_3, zf_90_6, zf_90_7, zf_94_7, zf_100_6, zf_100_7, zf_118_0, zf_118_1, zf_118_2, zf_118_3, zg_119_0, zg_119_5, zg_119_9, zg_119_15, zg_119_19, zg_119_22, zg_119_1, zg_119_16, zg_120_0, zg_120_1, zg_120_2, zg_120_3, zg_121_0, zg_122_0, zg_124_0, zg_126_0, zg_127_0, zg_128_0, zg_129_0, zg_131_0, zg_131_1, zg_131_2, zg_131_3, Nat.reduceAdd, Nat.reduceMul, Int32.reduceAdd, Int32.reduceSub, Int32.reduceMul]
         first
         | refine ⟨vp_inb rfl, ?_⟩
         | refine ⟨fun h => absurd h (of_decide_eq_false rfl), fun _ => ?_⟩
         | refine ⟨fun _ => ?_, fun h => absurd (of_decide_eq_true rfl) h⟩
         | refine ⟨fun _ => ?_, fun h => absurd h (of_decide_eq_false rfl)⟩
         | refine ⟨fun h => absurd (of_decide_eq_true rfl) h, fun _ => ?_⟩
         | refine ⟨of_decide_eq_true rfl, ?_⟩
         | refine ⟨rfl, ?_⟩)
      | (conv => whnf
         fail_if_success refine Exists.intro ?_ ?_
         simp only [hP.1, hP.2.1, hP.2.2.1, hP.2.2.2.1, hP.2.2.2.2.1, hP.2.2.2.2.2]))
    try (conv => whnf)
    refine ⟨(0, -20, 20, _), rfl, rfl, trivial, ?_⟩
    try dsimp only
    repeat (first
      | (conv => whnf
         try dsimp only
         try simp (decide := true) only [hP.1, hP.2.1, hP.2.2.1, hP.2.2.2.1, hP.2.2.2.2.1, hP.2.2.2.2.2, zu_same, zu_ne1, zu_ne2, zuL_same, zuL_ne1, zuL_ne2, zrow_n1, zx0, zx1, zx2, zx3, zf_0_13, zf_0_14, zf_0_15, zf_1_3, zf_15_0, zf_16_0, zf_17_10, zf_86_3, zf_90_6, zf_90_7, zf_94_7, zf_100_6, zf_100_7, zf_118_0, zf_118_1, zf_118_2, zf_118_3, zg_119_0, zg_119_5, zg_119_9, zg_119_15, zg_119_19, zg_119_22, zg_119_1, zg_119_16, zg_120_0, zg_120_1, zg_120_2, zg_120_3, zg_121_0, zg_122_0, zg_124_0, zg_126_0, zg_127_0, zg_128_0, zg_129_0, zg_131_0, zg_131_1, zg_131_2, zg_131_3, Nat.reduceAdd, Nat.reduceMul, Int32.reduceAdd, Int32.reduceSub, Int32.reduceMul]
         first
         | refine ⟨vp_inb rfl, ?_⟩
         | refine ⟨fun h => absurd h (of_decide_eq_false rfl), fun _ => ?_⟩
         | refine ⟨fun _ => ?_, fun h => absurd (of_decide_eq_true rfl) h⟩
         | refine ⟨fun _ => ?_, fun h => absurd h (of_decide_eq_false rfl)⟩
         | refine ⟨fun h => absurd (of_decide_eq_true rfl) h, fun _ => ?_⟩
         | refine ⟨of_decide_eq_true rfl, ?_⟩
         | refine ⟨rfl, ?_⟩)
      | (conv => whnf
         fail_if_success refine Exists.intro ?_ ?_
         simp only [hP.1, hP.2.1, hP.2.2.1, hP.2.2.2.1, hP.2.2.2.2.1, hP.2.2.2.2.2]))
    try (conv => whnf)
    refine ⟨(zu (σ) 130 0 0, τ, 1), rfl, rfl, ⟨by decide, hP.1, hP.2.1, hP.2.2.1, hP.2.2.2.1, hP.2.2.2.2.1, hP.2.2.2.2.2⟩, ?_⟩
    try dsimp only
    repeat (first
      | (conv => whnf
         try dsimp only
         try simp (decide := true) only [hP.1, hP.2.1, hP.2.2.1, hP.2.2.2.1, hP.2.2.2.2.1, hP.2.2.2.2.2, zu_same, zu_ne1, zu_ne2, zuL_same, zuL_ne1, zuL_ne2, zrow_n1, zx0, zx1, zx2, zx3, zf_0_13, zf_0_14, zf_0_15, zf_1_3, zf_15_0, zf_16_0, zf_17_10, zf_86_3, zf_90_6, zf_90_7, zf_94_7, zf_100_6, zf_100_7, zf_118_0, zf_118_1, zf_118_2, zf_118_3, zg_119_0, zg_119_5, zg_119_9, zg_119_15, zg_119_19, zg_119_22, zg_119_1, zg_119_16, zg_120_0, zg_120_1, zg_120_2, zg_120_3, zg_121_0, zg_122_0, zg_124_0, zg_126_0, zg_127_0, zg_128_0, zg_129_0, zg_131_0, zg_131_1, zg_131_2, zg_131_3, Nat.reduceAdd, Nat.reduceMul, Int32.reduceAdd, Int32.reduceSub, Int32.reduceMul]
         first
         | refine ⟨vp_inb rfl, ?_⟩
         | refine ⟨fun h => absurd h (of_decide_eq_false rfl), fun _ => ?_⟩
         | refine ⟨fun _ => ?_, fun h => absurd (of_decide_eq_true rfl) h⟩
         | refine ⟨fun _ => ?_, fun h => absurd h (of_decide_eq_false rfl)⟩
         | refine ⟨fun h => absurd (of_decide_eq_true rfl) h, fun _ => ?_⟩
         | refine ⟨of_decide_eq_true rfl, ?_⟩
         | refine ⟨rfl, ?_⟩)
      | (conv => whnf
         fail_if_success refine Exists.intro ?_ ?_
         simp only [hP.1, hP.2.1, hP.2.2.1, hP.2.2.2.1, hP.2.2.2.2.1, hP.2.2.2.2.2]))
    try (conv => whnf)
    refine ⟨(0, -20, 20, _), rfl, rfl, trivial, ?_⟩
    try dsimp only
    repeat (first
      | (conv => whnf
         try dsimp only
         try simp (decide := true) only [hP.1, hP.2.1, hP.2.2.1, hP.2.2.2.1, hP.2.2.2.2.1, hP.2.2.2.2.2, zu_same, zu_ne1, zu_ne2, zuL_same, zuL_ne1, zuL_ne2, zrow_n1, zx0, zx1, zx2, zx3, zf_0_13, zf_0_14, zf_0_15, zf_1_3, zf_15_0, zf_16_0, zf_17_10, zf_86_3, zf_90_6, zf_90_7, zf_94_7, zf_100_6, zf_100_7, zf_118_0, zf_118_1, zf_118_2, zf_118_3, zg_119_0, zg_119_5, zg_119_9, zg_119_15, zg_119_19, zg_119_22, zg_119_1, zg_119_16, zg_120_0, zg_120_1, zg_120_2, zg_120_3, zg_121_0, zg_122_0, zg_124_0, zg_126_0, zg_127_0, zg_128_0, zg_129_0, zg_131_0, zg_131_1, zg_131_2, zg_131_3, Nat.reduceAdd, Nat.reduceMul, Int32.reduceAdd, Int32.reduceSub, Int32.reduceMul]
         first
         | refine ⟨vp_inb rfl, ?_⟩
         | refine ⟨fun h => absurd h (of_decide_eq_false rfl), fun _ => ?_⟩
         | refine ⟨fun _ => ?_, fun h => absurd (of_decide_eq_true rfl) h⟩
         | refine ⟨fun _ => ?_, fun h => absurd h (of_decide_eq_false rfl)⟩
         | refine ⟨fun h => absurd (of_decide_eq_true rfl) h, fun _ => ?_⟩
         | refine ⟨of_decide_eq_true rfl, ?_⟩
         | refine ⟨rfl, ?_⟩)
      | (conv => whnf
         fail_if_success refine Exists.intro ?_ ?_
         simp only [hP.1, hP.2.1, hP.2.2.1, hP.2.2.2.1, hP.2.2.2.2.1, hP.2.2.2.2.2]))
    try (conv => whnf)
    refine ⟨(zu (zu (σ) 130 0 0) 130 1 0, τ, 2), rfl, rfl, ⟨by decide, hP.1, hP.2.1, hP.2.2.1, hP.2.2.2.1, hP.2.2.2.2.1, hP.2.2.2.2.2⟩, ?_⟩
    try dsimp only
    repeat (first
      | (conv => whnf
         try dsimp only
         try simp (decide := true) only [hP.1, hP.2.1, hP.2.2.1, hP.2.2.2.1, hP.2.2.2.2.1, hP.2.2.2.2.2, zu_same, zu_ne1, zu_ne2, zuL_same, zuL_ne1, zuL_ne2, zrow_n1, zx0, zx1, zx2, zx3, zf_0_13, zf_0_14, zf_0_15, zf_1_3, zf_15_0, zf_16_0, zf_17_10, zf_86_3, zf_90_6, zf_90_7, zf_94_7, zf_100_6, zf_100_7, zf_118_0, zf_118_1, zf_118_2, zf_118_3, zg_119_0, zg_119_5, zg_119_9, zg_119_15, zg_119_19, zg_119_22, zg_119_1, zg_119_16, zg_120_0, zg_120_1, zg_120_2, zg_120_3, zg_121_0, zg_122_0, zg_124_0, zg_126_0, zg_127_0, zg_128_0, zg_129_0, zg_131_0, zg_131_1, zg_131_2, zg_131_3, Nat.reduceAdd, Nat.reduceMul, Int32.reduceAdd, Int32.reduceSub, Int32.reduceMul]
         first
         | refine ⟨vp_inb rfl, ?_⟩
         | refine ⟨fun h => absurd h (of_decide_eq_false rfl), fun _ => ?_⟩
         | refine ⟨fun _ => ?_, fun h => absurd (of_decide_eq_true rfl) h⟩
         | refine ⟨fun _ => ?_, fun h => absurd h (of_decide_eq_false rfl)⟩
         | refine ⟨fun h => absurd (of_decide_eq_true rfl) h, fun _ => ?_⟩
         | refine ⟨of_decide_eq_true rfl, ?_⟩
         | refine ⟨rfl, ?_⟩)
      | (conv => whnf
         fail_if_success refine Exists.intro ?_ ?_
         simp only [hP.1, hP.2.1, hP.2.2.1, hP.2.2.2.1, hP.2.2.2.2.1, hP.2.2.2.2.2]))
    try (conv => whnf)
    refine ⟨(0, -20, 20, _), rfl, rfl, trivial, ?_⟩
    try dsimp only
    repeat (first
      | (conv => whnf
         try dsimp only
         try simp (decide := true) only [hP.1, hP.2.1, hP.2.2.1, hP.2.2.2.1, hP.2.2.2.2.1, hP.2.2.2.2.2, zu_same, zu_ne1, zu_ne2, zuL_same, zuL_ne1, zuL_ne2, zrow_n1, zx0, zx1, zx2, zx3, zf_0_13, zf_0_14, zf_0_15, zf_1_3, zf_15_0, zf_16_0, zf_17_10, zf_86_3, zf_90_6, zf_90_7, zf_94_7, zf_100_6, zf_100_7, zf_118_0, zf_118_1, zf_118_2, zf_118_3, zg_119_0, zg_119_5, zg_119_9, zg_119_15, zg_119_19, zg_119_22, zg_119_1, zg_119_16, zg_120_0, zg_120_1, zg_120_2, zg_120_3, zg_121_0, zg_122_0, zg_124_0, zg_126_0, zg_127_0, zg_128_0, zg_129_0, zg_131_0, zg_131_1, zg_131_2, zg_131_3, Nat.reduceAdd, Nat.reduceMul, Int32.reduceAdd, Int32.reduceSub, Int32.reduceMul]
         first
         | refine ⟨vp_inb rfl, ?_⟩
         | refine ⟨fun h => absurd h (of_decide_eq_false rfl), fun _ => ?_⟩
         | refine ⟨fun _ => ?_, fun h => absurd (of_decide_eq_true rfl) h⟩
         | refine ⟨fun _ => ?_, fun h => absurd h (of_decide_eq_false rfl)⟩
         | refine ⟨fun h => absurd (of_decide_eq_true rfl) h, fun _ => ?_⟩
         | refine ⟨of_decide_eq_true rfl, ?_⟩
         | refine ⟨rfl, ?_⟩)
      | (conv => whnf
         fail_if_success refine Exists.intro ?_ ?_
         simp only [hP.1, hP.2.1, hP.2.2.1, hP.2.2.2.1, hP.2.2.2.2.1, hP.2.2.2.2.2]))
    try (conv => whnf)
    refine ⟨(zu (zu (zu (σ) 130 0 0) 130 1 0) 130 2 0, τ, 3), rfl, rfl, ⟨by decide, hP.1, hP.2.1, hP.2.2.1, hP.2.2.2.1, hP.2.2.2.2.1, hP.2.2.2.2.2⟩, ?_⟩
    try dsimp only
    repeat (first
      | (conv => whnf
         try dsimp only
         try simp (decide := true) only [hP.1, hP.2.1, hP.2.2.1, hP.2.2.2.1, hP.2.2.2.2.1, hP.2.2.2.2.2, zu_same, zu_ne1, zu_ne2, zuL_same, zuL_ne1, zuL_ne2, zrow_n1, zx0, zx1, zx2, zx3, zf_0_13, zf_0_14, zf_0_15, zf_1_3, zf_15_0, zf_16_0, zf_17_10, zf_86_3, zf_90_6, zf_90_7, zf_94_7, zf_100_6, zf_100_7, zf_118_0, zf_118_1, zf_118_2, zf_118_3, zg_119_0, zg_119_5, zg_119_9, zg_119_15, zg_119_19, zg_119_22, zg_119_1, zg_119_16, zg_120_0, zg_120_1, zg_120_2, zg_120_3, zg_121_0, zg_122_0, zg_124_0, zg_126_0, zg_127_0, zg_128_0, zg_129_0, zg_131_0, zg_131_1, zg_131_2, zg_131_3, Nat.reduceAdd, Nat.reduceMul, Int32.reduceAdd, Int32.reduceSub, Int32.reduceMul]
         first
         | refine ⟨vp_inb rfl, ?_⟩
         | refine ⟨fun h => absurd h (of_decide_eq_false rfl), fun _ => ?_⟩
         | refine ⟨fun _ => ?_, fun h => absurd (of_decide_eq_true rfl) h⟩
         | refine ⟨fun _ => ?_, fun h => absurd h (of_decide_eq_false rfl)⟩
         | refine ⟨fun h => absurd (of_decide_eq_true rfl) h, fun _ => ?_⟩
         | refine ⟨of_decide_eq_true rfl, ?_⟩
         | refine ⟨rfl, ?_⟩)
      | (conv => whnf
         fail_if_success refine Exists.intro ?_ ?_
         simp only [hP.1, hP.2.1, hP.2.2.1, hP.2.2.2.1, hP.2.2.2.2.1, hP.2.2.2.2.2]))
    try (conv => whnf)
    refine ⟨(0, -20, 20, _), rfl, rfl, trivial, ?_⟩
    try dsimp only
    repeat (first
      | (conv => whnf
         try dsimp only
         try simp (decide := true) only [hP.1, hP.2.1, hP.2.2.1, hP.2.2.2.1, hP.2.2.2.2.1, hP.2.2.2.2.2, zu_same, zu_ne1, zu_ne2, zuL_same, zuL_ne1, zuL_ne2, zrow_n1, zx0, zx1, zx2, zx3, zf_0_13, zf_0_14, zf_0_15, zf_1_3, zf_15_0, zf_16_0, zf_17_10, zf_86_3, zf_90_6, zf_90_7, zf_94_7, zf_100_6, zf_100_7, zf_118_0, zf_118_1, zf_118_2, zf_118_3, zg_119_0, zg_119_5, zg_119_9, zg_119_15, zg_119_19, zg_119_22, zg_119_1, zg_119_16, zg_120_0, zg_120_1, zg_120_2, zg_120_3, zg_121_0, zg_122_0, zg_124_0, zg_126_0, zg_127_0, zg_128_0, zg_129_0, zg_131_0, zg_131_1, zg_131_2, zg_131_3, Nat.reduceAdd, Nat.reduceMul, Int32.reduceAdd, Int32.reduceSub, Int32.reduceMul]
         first
         | refine ⟨vp_inb rfl, ?_⟩
         | refine ⟨fun h => absurd h (of_decide_eq_false rfl), fun _ => ?_⟩
         | refine ⟨fun _ => ?_, fun h => absurd (of_decide_eq_true rfl) h⟩
         | refine ⟨fun _ => ?_, fun h => absurd h (of_decide_eq_false rfl)⟩
         | refine ⟨fun h => absurd (of_decide_eq_true rfl) h, fun _ => ?_⟩
         | refine ⟨of_decide_eq_true rfl, ?_⟩
         | refine ⟨rfl, ?_⟩)
      | (conv => whnf
         fail_if_success refine Exists.intro ?_ ?_
         simp only [hP.1, hP.2.1, hP.2.2.1, hP.2.2.2.1, hP.2.2.2.2.1, hP.2.2.2.2.2]))
    try (conv => whnf)
    exact hK
def spX8_add : zSp := zD (X := Int32 × zIn × zLo) (fun x => match x with | (n, s1, τ) => [.ref 119, .int 0, .int n, .int 0, .int 0]) (fun x => match x with | (n, s1, τ) => (145, zSH, zRH, zu (zmx s1) 119 0 0, τ)) (fun x => match x with | (n, s1, τ) => True) (fun x => match x with | (n, s1, τ) => some (.int 0)) (fun x => match x with | (n, s1, τ) => (145, zSH, zRH, zu (zu (zu (zu (zu (zu (zu (zu (zu (zu (zmx s1) 119 0 0) 126 0 0) 127 0 n) 128 0 0) 129 0 0) 130 0 0) 130 1 0) 130 2 0) 130 3 0) 119 9 1, τ))
abbrev rmX8_add : Room := ({ frames := 2, cells := 0, slots := 0, locals := 47 } : Room)
set_option maxRecDepth 100000 in
set_option maxHeartbeats 4000000 in
theorem ctX8_add (l : Launch) (D : va_G) (cA : Nat → ClassId) : zCt false l D cA yX8_add cX8_add 5 (some .int) rmX8_add spX8_add := by
  refine zct_D (zCX8_add [(132, 0, 1, spX8_tellExponents, rmX8_tellExponents.cells, rmX8_tellExponents.slots)]) zpX8_add [] (by decide +kernel) zkX8_add (Or.inr (by decide +kernel)) trivial ⟨by decide +kernel, by decide +kernel⟩ (fun x ad => Nat.le_of_ble_eq_true rfl) ?_ ?_
  · intro p e s m args below meth c A H0 ad0 n0 Q F hml hNw hA hX
    exact ⟨zco_V hX hA F hml hNw (ctX8_tellExponents l D cA) ⟨⟨zlX8_add_132, zwX8_tellExponents.1.1, zwX8_tellExponents.1.2⟩, zwX8_tellExponents.2⟩ zdX8_tellExponents ⟨Nat.le_of_ble_eq_true rfl, Nat.le_of_ble_eq_true rfl⟩ (ci := 8) (by decide) rfl (by rintro av μ K ⟨x, rfl, rfl, -⟩; exact ⟨_, _, rfl, rfl⟩), trivial⟩
  · rintro ⟨n, s1, τ⟩ Ret hP hK Gl hG
    try dsimp only at hP hK
    show Gl 0 (zent 5 [.ref 119, .int 0, .int n, .int 0, .int 0]) [] (0, 0) ((145, zSH, zRH, zu (zmx s1) 119 0 0, τ))
    refine hG 1000 _ _ _ _ _ ?_
    repeat (conv => whnf
            try dsimp only
            try simp (decide := true) only [zu_same, zu_ne1, zu_ne2, zuL_same, zuL_ne1, zuL_ne2, zrow_n1, zx0, zx1, zx2, zx3, zf_0_13, zf_0_14, zf_0_15, zf_1_3, zf_15_0, zf_16_0, zf_17_10, zf_86_3, zf_90_6, zf_90_7, zf_94_7, zf_100_6, zf_100_7, zf_118_0, zf_118_1, zf_118_2, zf_118_3, zg_119_0, zg_119_5, zg_119_9, zg_119_15, zg_119_19, zg_119_22, zg_119_1, zg_119_16, zg_120_0, zg_120_1, zg_120_2, zg_120_3, zg_121_0, zg_122_0, zg_124_0, zg_126_0, zg_127_0, zg_128_0, zg_129_0, zg_131_0, zg_131_1, zg_131_2, zg_131_3, Nat.reduceAdd, Nat.reduceMul, Int32.reduceAdd, Int32.reduceSub, Int32.reduceMul]
            first
            | refine ⟨vp_inb rfl, ?_⟩
            | refine ⟨fun h => absurd h (of_decide_eq_false rfl), fun _ => ?_⟩
            | refine ⟨fun _ => ?_, fun h => absurd (of_decide_eq_true rfl) h⟩
            | refine ⟨fun _ => ?_, fun h => absurd h (of_decide_eq_false rfl)⟩
            | refine ⟨fun h => absurd (of_decide_eq_true rfl) h, fun _ => ?_⟩
            | refine ⟨of_decide_eq_true rfl, ?_⟩
            | refine ⟨rfl, ?_⟩)
    try (conv => whnf)
    refine ⟨(zu (zu (zu (zu (zu (zmx s1) 119 0 0) 126 0 0) 127 0 n) 128 0 0) 129 0 0, τ), rfl, rfl, ⟨rfl, rfl, rfl, rfl, rfl, rfl⟩, ?_⟩
    try dsimp only
    repeat (conv => whnf
            try dsimp only
            try simp (decide := true) only [zu_same, zu_ne1, zu_ne2, zuL_same, zuL_ne1, zuL_ne2, zrow_n1, zx0, zx1, zx2, zx3, zf_0_13, zf_0_14, zf_0_15, zf_1_3, zf_15_0, zf_16_0, zf_17_10, zf_86_3, zf_90_6, zf_90_7, zf_94_7, zf_100_6, zf_100_7, zf_118_0, zf_118_1, zf_118_2, zf_118_3, zg_119_0, zg_119_5, zg_119_9, zg_119_15, zg_119_19, zg_119_22, zg_119_1, zg_119_16, zg_120_0, zg_120_1, zg_120_2, zg_120_3, zg_121_0, zg_122_0, zg_124_0, zg_126_0, zg_127_0, zg_128_0, zg_129_0, zg_131_0, zg_131_1, zg_131_2, zg_131_3, Nat.reduceAdd, Nat.reduceMul, Int32.reduceAdd, Int32.reduceSub, Int32.reduceMul]
            first
            | refine ⟨vp_inb rfl, ?_⟩
            | refine ⟨fun h => absurd h (of_decide_eq_false rfl), fun _ => ?_⟩
            | refine ⟨fun _ => ?_, fun h => absurd (of_decide_eq_true rfl) h⟩
            | refine ⟨fun _ => ?_, fun h => absurd h (of_decide_eq_false rfl)⟩
            | refine ⟨fun h => absurd (of_decide_eq_true rfl) h, fun _ => ?_⟩
            | refine ⟨of_decide_eq_true rfl, ?_⟩
            | refine ⟨rfl, ?_⟩)
    try (conv => whnf)
    exact hK
def spX8_number : zSp := zDQ (X := Int32 × Int32 × zIn × zLo × Int64) (fun x => match x with | (n, u, s1, t1, v9) => [.ref 119, .int n, .int u]) (fun x => match x with | (n, u, s1, t1, v9) => (145, zSH, zRH, zmx s1, zmxL t1 v9)) (fun x => match x with | (n, u, s1, t1, v9) => True) (fun x r9 μ9 => match x with | (n, u, s1, t1, v9) => r9 = some (.int 0) ∧ zaft v9 (if 0 ≤ u ∧ u ≤ 0 then (if -1000000000 ≤ n ∧ n ≤ 1000000000 then 0 else 2) else 1) μ9)
abbrev rmX8_number : Room := ({ frames := 3, cells := 0, slots := 0, locals := 71 } : Room)
set_option maxRecDepth 100000 in
set_option maxHeartbeats 4000000 in
theorem ctX8_number (l : Launch) (D : va_G) (cA : Nat → ClassId) : zCt false l D cA yX8_number cX8_number 3 (some .int) rmX8_number spX8_number := by
  refine zct_Q (zCX8_number [(128, 0, 1, spX8_isUnit, rmX8_isUnit.cells, rmX8_isUnit.slots), (118, 0, 1, spX8_no, rmX8_no.cells, rmX8_no.slots), (90, 1, 3, spX8_isIn, rmX8_isIn.cells, rmX8_isIn.slots), (138, 0, 4, spX8_add, rmX8_add.cells, rmX8_add.slots)]) zpX8_number [] (by decide +kernel) zkX8_number (Or.inr (by decide +kernel)) trivial ⟨by decide +kernel, by decide +kernel⟩ (fun x ad => Nat.le_of_ble_eq_true rfl) ?_ ?_
  · intro p e s m args below meth c A H0 ad0 n0 Q F hml hNw hA hX
    exact ⟨zco_V hX hA F hml hNw (ctX8_isUnit l D cA) ⟨⟨zlX8_number_128, zwX8_isUnit.1.1, zwX8_isUnit.1.2⟩, zwX8_isUnit.2⟩ zdX8_isUnit ⟨Nat.le_of_ble_eq_true rfl, Nat.le_of_ble_eq_true rfl⟩ (ci := 8) (by decide) rfl (by rintro av μ K ⟨x, rfl, rfl, -⟩; exact ⟨_, _, rfl, rfl⟩), zco_V hX hA F hml hNw (ctX8_no l D cA) ⟨⟨zlX8_number_118, zwX8_no.1.1, zwX8_no.1.2⟩, zwX8_no.2⟩ zdX8_no ⟨Nat.le_of_ble_eq_true rfl, Nat.le_of_ble_eq_true rfl⟩ (ci := 8) (by decide) rfl (by rintro av μ K ⟨⟨μ0, x9⟩, rfl, rfl, h9, -⟩; exact ⟨_, _, rfl, congrArg Prod.fst h9.1⟩), zco_S hX hA F hml hNw (ctX8_isIn l D cA) ⟨⟨zlX8_number_90, zwX8_isIn.1⟩, zwX8_isIn.2⟩ zdX8_isIn ⟨Nat.le_of_ble_eq_true rfl, Nat.le_of_ble_eq_true rfl⟩, zco_V hX hA F hml hNw (ctX8_add l D cA) ⟨⟨zlX8_number_138, zwX8_add.1.1, zwX8_add.1.2⟩, zwX8_add.2⟩ zdX8_add ⟨Nat.le_of_ble_eq_true rfl, Nat.le_of_ble_eq_true rfl⟩ (ci := 8) (by decide) rfl (by rintro av μ K ⟨x, rfl, rfl, -⟩; exact ⟨_, _, rfl, rfl⟩), trivial⟩
  · rintro ⟨n, u, s1, t1, v9⟩ Ret hP hK Gl hG
    try dsimp only at hP hK
    show Gl 0 (zent 3 [.ref 119, .int n, .int u]) [] (0, 0) ((145, zSH, zRH, zmx s1, zmxL t1 v9))
    refine hG 1000 _ _ _ _ _ ?_
    repeat (conv => whnf
            try dsimp only
            try simp (decide := true) only [zu_same, zu_ne1, zu_ne2, zuL_same, zuL_ne1, zuL_ne2, zrow_n1, zx0, zx1, zx2, zx3, zf_0_13, zf_0_14, zf_0_15, zf_1_3, zf_15_0, zf_16_0, zf_17_10, zf_86_3, zf_90_6, zf_90_7, zf_94_7, zf_100_6, zf_100_7, zf_118_0, zf_118_1, zf_118_2, zf_118_3, zg_119_0, zg_119_5, zg_119_9, zg_119_15, zg_119_19, zg_119_22, zg_119_1, zg_119_16, zg_120_0, zg_120_1, zg_120_2, zg_120_3, zg_121_0, zg_122_0, zg_124_0, zg_126_0, zg_127_0, zg_128_0, zg_129_0, zg_131_0, zg_131_1, zg_131_2, zg_131_3, Nat.reduceAdd, Nat.reduceMul, Int32.reduceAdd, Int32.reduceSub, Int32.reduceMul]
            first
            | refine ⟨vp_inb rfl, ?_⟩
            | refine ⟨fun h => absurd h (of_decide_eq_false rfl), fun _ => ?_⟩
            | refine ⟨fun _ => ?_, fun h => absurd (of_decide_eq_true rfl) h⟩
            | refine ⟨fun _ => ?_, fun h => absurd h (of_decide_eq_false rfl)⟩
            | refine ⟨fun h => absurd (of_decide_eq_true rfl) h, fun _ => ?_⟩
            | refine ⟨of_decide_eq_true rfl, ?_⟩
            | refine ⟨rfl, ?_⟩)
    try (conv => whnf)
    refine ⟨(zu (zmx s1) 119 0 0, zmxL t1 v9, u), rfl, rfl, rfl, ?_⟩
    try dsimp only
    by_cases h : 0 ≤ u ∧ u ≤ 0
    · rw [if_pos h]
      simp only [if_pos h] at hK
      have hu := zu0' h
      subst hu
      repeat (conv => whnf
              try dsimp only
              try simp (decide := true) only [zu_same, zu_ne1, zu_ne2, zuL_same, zuL_ne1, zuL_ne2, zrow_n1, zx0, zx1, zx2, zx3, zf_0_13, zf_0_14, zf_0_15, zf_1_3, zf_15_0, zf_16_0, zf_17_10, zf_86_3, zf_90_6, zf_90_7, zf_94_7, zf_100_6, zf_100_7, zf_118_0, zf_118_1, zf_118_2, zf_118_3, zg_119_0, zg_119_5, zg_119_9, zg_119_15, zg_119_19, zg_119_22, zg_119_1, zg_119_16, zg_120_0, zg_120_1, zg_120_2, zg_120_3, zg_121_0, zg_122_0, zg_124_0, zg_126_0, zg_127_0, zg_128_0, zg_129_0, zg_131_0, zg_131_1, zg_131_2, zg_131_3, Nat.reduceAdd, Nat.reduceMul, Int32.reduceAdd, Int32.reduceSub, Int32.reduceMul]
              first
              | refine ⟨vp_inb rfl, ?_⟩
              | refine ⟨fun h => absurd h (of_decide_eq_false rfl), fun _ => ?_⟩
              | refine ⟨fun _ => ?_, fun h => absurd (of_decide_eq_true rfl) h⟩
              | refine ⟨fun _ => ?_, fun h => absurd h (of_decide_eq_false rfl)⟩
              | refine ⟨fun h => absurd (of_decide_eq_true rfl) h, fun _ => ?_⟩
              | refine ⟨of_decide_eq_true rfl, ?_⟩
              | refine ⟨rfl, ?_⟩)
      try (conv => whnf)
      refine ⟨(n, -1000000000, 1000000000, _), rfl, rfl, trivial, ?_⟩
      try dsimp only
      by_cases h2 : -1000000000 ≤ n ∧ n ≤ 1000000000
      · rw [if_pos h2]
        simp only [if_pos h2] at hK
        repeat (conv => whnf
                try dsimp only
                try simp (decide := true) only [zu_same, zu_ne1, zu_ne2, zuL_same, zuL_ne1, zuL_ne2, zrow_n1, zx0, zx1, zx2, zx3, zf_0_13, zf_0_14, zf_0_15, zf_1_3, zf_15_0, zf_16_0, zf_17_10, zf_86_3, zf_90_6, zf_90_7, zf_94_7, zf_100_6, zf_100_7, zf_118_0, zf_118_1, zf_118_2, zf_118_3, zg_119_0, zg_119_5, zg_119_9, zg_119_15, zg_119_19, zg_119_22, zg_119_1, zg_119_16, zg_120_0, zg_120_1, zg_120_2, zg_120_3, zg_121_0, zg_122_0, zg_124_0, zg_126_0, zg_127_0, zg_128_0, zg_129_0, zg_131_0, zg_131_1, zg_131_2, zg_131_3, Nat.reduceAdd, Nat.reduceMul, Int32.reduceAdd, Int32.reduceSub, Int32.reduceMul]
                first
                | refine ⟨vp_inb rfl, ?_⟩
                | refine ⟨fun h => absurd h (of_decide_eq_false rfl), fun _ => ?_⟩
                | refine ⟨fun _ => ?_, fun h => absurd (of_decide_eq_true rfl) h⟩
                | refine ⟨fun _ => ?_, fun h => absurd h (of_decide_eq_false rfl)⟩
                | refine ⟨fun h => absurd (of_decide_eq_true rfl) h, fun _ => ?_⟩
                | refine ⟨of_decide_eq_true rfl, ?_⟩
                | refine ⟨rfl, ?_⟩)
        try (conv => whnf)
        refine ⟨(n, s1, zmxL t1 v9), rfl, rfl, trivial, ?_⟩
        try dsimp only
        repeat (conv => whnf
                try dsimp only
                try simp (decide := true) only [zu_same, zu_ne1, zu_ne2, zuL_same, zuL_ne1, zuL_ne2, zrow_n1, zx0, zx1, zx2, zx3, zf_0_13, zf_0_14, zf_0_15, zf_1_3, zf_15_0, zf_16_0, zf_17_10, zf_86_3, zf_90_6, zf_90_7, zf_94_7, zf_100_6, zf_100_7, zf_118_0, zf_118_1, zf_118_2, zf_118_3, zg_119_0, zg_119_5, zg_119_9, zg_119_15, zg_119_19, zg_119_22, zg_119_1, zg_119_16, zg_120_0, zg_120_1, zg_120_2, zg_120_3, zg_121_0, zg_122_0, zg_124_0, zg_126_0, zg_127_0, zg_128_0, zg_129_0, zg_131_0, zg_131_1, zg_131_2, zg_131_3, Nat.reduceAdd, Nat.reduceMul, Int32.reduceAdd, Int32.reduceSub, Int32.reduceMul]
                first
                | refine ⟨vp_inb rfl, ?_⟩
                | refine ⟨fun h => absurd h (of_decide_eq_false rfl), fun _ => ?_⟩
                | refine ⟨fun _ => ?_, fun h => absurd (of_decide_eq_true rfl) h⟩
                | refine ⟨fun _ => ?_, fun h => absurd h (of_decide_eq_false rfl)⟩
                | refine ⟨fun h => absurd (of_decide_eq_true rfl) h, fun _ => ?_⟩
                | refine ⟨of_decide_eq_true rfl, ?_⟩
                | refine ⟨rfl, ?_⟩)
        try (conv => whnf)
        exact hK _ _ ⟨rfl, rfl, rfl, rfl, rfl⟩
      · rw [if_neg h2]
        simp only [if_neg h2] at hK
        repeat (conv => whnf
                try dsimp only
                try simp (decide := true) only [zu_same, zu_ne1, zu_ne2, zuL_same, zuL_ne1, zuL_ne2, zrow_n1, zx0, zx1, zx2, zx3, zf_0_13, zf_0_14, zf_0_15, zf_1_3, zf_15_0, zf_16_0, zf_17_10, zf_86_3, zf_90_6, zf_90_7, zf_94_7, zf_100_6, zf_100_7, zf_118_0, zf_118_1, zf_118_2, zf_118_3, zg_119_0, zg_119_5, zg_119_9, zg_119_15, zg_119_19, zg_119_22, zg_119_1, zg_119_16, zg_120_0, zg_120_1, zg_120_2, zg_120_3, zg_121_0, zg_122_0, zg_124_0, zg_126_0, zg_127_0, zg_128_0, zg_129_0, zg_131_0, zg_131_1, zg_131_2, zg_131_3, Nat.reduceAdd, Nat.reduceMul, Int32.reduceAdd, Int32.reduceSub, Int32.reduceMul]
                first
                | refine ⟨vp_inb rfl, ?_⟩
                | refine ⟨fun h => absurd h (of_decide_eq_false rfl), fun _ => ?_⟩
                | refine ⟨fun _ => ?_, fun h => absurd (of_decide_eq_true rfl) h⟩
                | refine ⟨fun _ => ?_, fun h => absurd h (of_decide_eq_false rfl)⟩
                | refine ⟨fun h => absurd (of_decide_eq_true rfl) h, fun _ => ?_⟩
                | refine ⟨of_decide_eq_true rfl, ?_⟩
                | refine ⟨rfl, ?_⟩)
        try (conv => whnf)
        refine ⟨(_, 2), rfl, rfl, ⟨rfl, trivial⟩, ?_⟩
        try dsimp only
        repeat (conv => whnf
                try dsimp only
                try simp (decide := true) only [zu_same, zu_ne1, zu_ne2, zuL_same, zuL_ne1, zuL_ne2, zrow_n1, zx0, zx1, zx2, zx3, zf_0_13, zf_0_14, zf_0_15, zf_1_3, zf_15_0, zf_16_0, zf_17_10, zf_86_3, zf_90_6, zf_90_7, zf_94_7, zf_100_6, zf_100_7, zf_118_0, zf_118_1, zf_118_2, zf_118_3, zg_119_0, zg_119_5, zg_119_9, zg_119_15, zg_119_19, zg_119_22, zg_119_1, zg_119_16, zg_120_0, zg_120_1, zg_120_2, zg_120_3, zg_121_0, zg_122_0, zg_124_0, zg_126_0, zg_127_0, zg_128_0, zg_129_0, zg_131_0, zg_131_1, zg_131_2, zg_131_3, Nat.reduceAdd, Nat.reduceMul, Int32.reduceAdd, Int32.reduceSub, Int32.reduceMul]
                first
                | refine ⟨vp_inb rfl, ?_⟩
                | refine ⟨fun h => absurd h (of_decide_eq_false rfl), fun _ => ?_⟩
                | refine ⟨fun _ => ?_, fun h => absurd (of_decide_eq_true rfl) h⟩
                | refine ⟨fun _ => ?_, fun h => absurd h (of_decide_eq_false rfl)⟩
                | refine ⟨fun h => absurd (of_decide_eq_true rfl) h, fun _ => ?_⟩
                | refine ⟨of_decide_eq_true rfl, ?_⟩
                | refine ⟨rfl, ?_⟩)
        try (conv => whnf)
        exact hK _ _ ⟨rfl, rfl, rfl, rfl, rfl⟩
    · rw [if_neg h]
      simp only [if_neg h] at hK
      repeat (conv => whnf
              try dsimp only
              try simp (decide := true) only [zu_same, zu_ne1, zu_ne2, zuL_same, zuL_ne1, zuL_ne2, zrow_n1, zx0, zx1, zx2, zx3, zf_0_13, zf_0_14, zf_0_15, zf_1_3, zf_15_0, zf_16_0, zf_17_10, zf_86_3, zf_90_6, zf_90_7, zf_94_7, zf_100_6, zf_100_7, zf_118_0, zf_118_1, zf_118_2, zf_118_3, zg_119_0, zg_119_5, zg_119_9, zg_119_15, zg_119_19, zg_119_22, zg_119_1, zg_119_16, zg_120_0, zg_120_1, zg_120_2, zg_120_3, zg_121_0, zg_122_0, zg_124_0, zg_126_0, zg_127_0, zg_128_0, zg_129_0, zg_131_0, zg_131_1, zg_131_2, zg_131_3, Nat.reduceAdd, Nat.reduceMul, Int32.reduceAdd, Int32.reduceSub, Int32.reduceMul]
              first
              | refine ⟨vp_inb rfl, ?_⟩
              | refine ⟨fun h => absurd h (of_decide_eq_false rfl), fun _ => ?_⟩
              | refine ⟨fun _ => ?_, fun h => absurd (of_decide_eq_true rfl) h⟩
              | refine ⟨fun _ => ?_, fun h => absurd h (of_decide_eq_false rfl)⟩
              | refine ⟨fun h => absurd (of_decide_eq_true rfl) h, fun _ => ?_⟩
              | refine ⟨of_decide_eq_true rfl, ?_⟩
              | refine ⟨rfl, ?_⟩)
      try (conv => whnf)
      refine ⟨(_, 1), rfl, rfl, ⟨rfl, trivial⟩, ?_⟩
      try dsimp only
      repeat (conv => whnf
              try dsimp only
              try simp (decide := true) only [zu_same, zu_ne1, zu_ne2, zuL_same, zuL_ne1, zuL_ne2, zrow_n1, zx0, zx1, zx2, zx3, zf_0_13, zf_0_14, zf_0_15, zf_1_3, zf_15_0, zf_16_0, zf_17_10, zf_86_3, zf_90_6, zf_90_7, zf_94_7, zf_100_6, zf_100_7, zf_118_0, zf_118_1, zf_118_2, zf_118_3, zg_119_0, zg_119_5, zg_119_9, zg_119_15, zg_119_19, zg_119_22, zg_119_1, zg_119_16, zg_120_0, zg_120_1, zg_120_2, zg_120_3, zg_121_0, zg_122_0, zg_124_0, zg_126_0, zg_127_0, zg_128_0, zg_129_0, zg_131_0, zg_131_1, zg_131_2, zg_131_3, Nat.reduceAdd, Nat.reduceMul, Int32.reduceAdd, Int32.reduceSub, Int32.reduceMul]
              first
              | refine ⟨vp_inb rfl, ?_⟩
              | refine ⟨fun h => absurd h (of_decide_eq_false rfl), fun _ => ?_⟩
              | refine ⟨fun _ => ?_, fun h => absurd (of_decide_eq_true rfl) h⟩
              | refine ⟨fun _ => ?_, fun h => absurd h (of_decide_eq_false rfl)⟩
              | refine ⟨fun h => absurd (of_decide_eq_true rfl) h, fun _ => ?_⟩
              | refine ⟨of_decide_eq_true rfl, ?_⟩
              | refine ⟨rfl, ?_⟩)
      try (conv => whnf)
      exact hK _ _ ⟨rfl, rfl, rfl, rfl, rfl⟩
def spX8_keep_ : zSp := zDQ (X := Int32 × zIn × zLo × Int64) (fun x => match x with | (q, s1, t1, v9) => [.ref 119, .int q]) (fun x => match x with | (q, s1, t1, v9) => (145, zSH, zRH, zmx s1, zmxL t1 v9)) (fun x => match x with | (q, s1, t1, v9) => True) (fun x r9 μ9 => match x with | (q, s1, t1, v9) => r9 = some (.int (if 0 ≤ q ∧ q ≤ 3 then 1 else 0)) ∧ zaft v9 (if 0 ≤ q ∧ q ≤ 3 then 0 else 1) μ9)
abbrev rmX8_keep_ : Room := ({ frames := 2, cells := 0, slots := 0, locals := 42 } : Room)
set_option maxRecDepth 100000 in
set_option maxHeartbeats 4000000 in
theorem ctX8_keep_ (l : Launch) (D : va_G) (cA : Nat → ClassId) : zCt false l D cA yX8_keep_ cX8_keep_ 4 (some .int) rmX8_keep_ spX8_keep_ := by
  refine zct_Q (zCX8_keep_ [(266, 1, 1, spX8_isPlace, rmX8_isPlace.cells, rmX8_isPlace.slots), (118, 0, 1, spX8_no, rmX8_no.cells, rmX8_no.slots), (122, 1, 5, spCopy, 0, 0)]) zpX8_keep_ [] (by decide +kernel) zkX8_keep_ (Or.inr (by decide +kernel)) trivial ⟨by decide +kernel, by decide +kernel⟩ (fun x ad => Nat.le_of_ble_eq_true rfl) ?_ ?_
  · intro p e s m args below meth c A H0 ad0 n0 Q F hml hNw hA hX
    exact ⟨zco_S hX hA F hml hNw (ctX8_isPlace l D cA) ⟨⟨zlX8_keep__266, zwX8_isPlace.1⟩, zwX8_isPlace.2⟩ zdX8_isPlace ⟨Nat.le_of_ble_eq_true rfl, Nat.le_of_ble_eq_true rfl⟩, zco_V hX hA F hml hNw (ctX8_no l D cA) ⟨⟨zlX8_keep__118, zwX8_no.1.1, zwX8_no.1.2⟩, zwX8_no.2⟩ zdX8_no ⟨Nat.le_of_ble_eq_true rfl, Nat.le_of_ble_eq_true rfl⟩ (ci := 8) (by decide) rfl (by rintro av μ K ⟨⟨μ0, x9⟩, rfl, rfl, h9, -⟩; exact ⟨_, _, rfl, congrArg Prod.fst h9.1⟩), zco_copy F hml ⟨zlX8_keep__122, zlib_copy⟩ ⟨Nat.le_of_ble_eq_true rfl, Nat.le_of_ble_eq_true rfl⟩, trivial⟩
  · rintro ⟨q, s1, t1, v9⟩ Ret hP hK Gl hG
    try dsimp only at hP hK
    show Gl 0 (zent 4 [.ref 119, .int q]) [] (0, 0) ((145, zSH, zRH, zmx s1, zmxL t1 v9))
    by_cases h : 0 ≤ q ∧ q ≤ 3
    · simp only [if_pos h] at hK
      obtain ⟨j, hj, rfl⟩ := vp_in_of (zin3 h) (by decide)
      rcases (show j = 0 ∨ j = 1 ∨ j = 2 ∨ j = 3 by omega) with rfl | rfl | rfl | rfl
      all_goals
        refine hG 1000 _ _ _ _ _ ?_
        repeat (conv => whnf
                try dsimp only
                try simp (decide := true) only [zu_same, zu_ne1, zu_ne2, zuL_same, zuL_ne1, zuL_ne2, zrow_n1, zx0, zx1, zx2, zx3, zf_0_13, zf_0_14, zf_0_15, zf_1_3, zf_15_0, zf_16_0, zf_17_10, zf_86_3, zf_90_6, zf_90_7, zf_94_7, zf_100_6, zf_100_7, zf_118_0, zf_118_1, zf_118_2, zf_118_3, zg_119_0, zg_119_5, zg_119_9, zg_119_15, zg_119_19, zg_119_22, zg_119_1, zg_119_16, zg_120_0, zg_120_1, zg_120_2, zg_120_3, zg_121_0, zg_122_0, zg_124_0, zg_126_0, zg_127_0, zg_128_0, zg_129_0, zg_131_0, zg_131_1, zg_131_2, zg_131_3, Nat.reduceAdd, Nat.reduceMul, Int32.reduceAdd, Int32.reduceSub, Int32.reduceMul]
                first
                | refine ⟨vp_inb rfl, ?_⟩
                | refine ⟨fun h => absurd h (of_decide_eq_false rfl), fun _ => ?_⟩
                | refine ⟨fun _ => ?_, fun h => absurd (of_decide_eq_true rfl) h⟩
                | refine ⟨fun _ => ?_, fun h => absurd h (of_decide_eq_false rfl)⟩
                | refine ⟨fun h => absurd (of_decide_eq_true rfl) h, fun _ => ?_⟩
                | refine ⟨of_decide_eq_true rfl, ?_⟩
                | refine ⟨rfl, ?_⟩)
        try (conv => whnf)
        refine ⟨(_, _), rfl, rfl, trivial, ?_⟩
        try dsimp only
        repeat (conv => whnf
                try dsimp only
                try simp (decide := true) only [zu_same, zu_ne1, zu_ne2, zuL_same, zuL_ne1, zuL_ne2, zrow_n1, zx0, zx1, zx2, zx3, zf_0_13, zf_0_14, zf_0_15, zf_1_3, zf_15_0, zf_16_0, zf_17_10, zf_86_3, zf_90_6, zf_90_7, zf_94_7, zf_100_6, zf_100_7, zf_118_0, zf_118_1, zf_118_2, zf_118_3, zg_119_0, zg_119_5, zg_119_9, zg_119_15, zg_119_19, zg_119_22, zg_119_1, zg_119_16, zg_120_0, zg_120_1, zg_120_2, zg_120_3, zg_121_0, zg_122_0, zg_124_0, zg_126_0, zg_127_0, zg_128_0, zg_129_0, zg_131_0, zg_131_1, zg_131_2, zg_131_3, Nat.reduceAdd, Nat.reduceMul, Int32.reduceAdd, Int32.reduceSub, Int32.reduceMul]
                first
                | refine ⟨vp_inb rfl, ?_⟩
                | refine ⟨fun h => absurd h (of_decide_eq_false rfl), fun _ => ?_⟩
                | refine ⟨fun _ => ?_, fun h => absurd (of_decide_eq_true rfl) h⟩
                | refine ⟨fun _ => ?_, fun h => absurd h (of_decide_eq_false rfl)⟩
                | refine ⟨fun h => absurd (of_decide_eq_true rfl) h, fun _ => ?_⟩
                | refine ⟨of_decide_eq_true rfl, ?_⟩
                | refine ⟨rfl, ?_⟩)
        try (conv => whnf)
        refine ⟨_, _, _, _, _, 16, 64, rfl, rfl, rfl, ⟨of_decide_eq_true rfl, of_decide_eq_true rfl, of_decide_eq_true rfl, of_decide_eq_true rfl, of_decide_eq_true rfl⟩, ?_⟩
        repeat (conv => whnf
                try dsimp only
                try simp (decide := true) only [zu_same, zu_ne1, zu_ne2, zuL_same, zuL_ne1, zuL_ne2, zrow_n1, zx0, zx1, zx2, zx3, zf_0_13, zf_0_14, zf_0_15, zf_1_3, zf_15_0, zf_16_0, zf_17_10, zf_86_3, zf_90_6, zf_90_7, zf_94_7, zf_100_6, zf_100_7, zf_118_0, zf_118_1, zf_118_2, zf_118_3, zg_119_0, zg_119_5, zg_119_9, zg_119_15, zg_119_19, zg_119_22, zg_119_1, zg_119_16, zg_120_0, zg_120_1, zg_120_2, zg_120_3, zg_121_0, zg_122_0, zg_124_0, zg_126_0, zg_127_0, zg_128_0, zg_129_0, zg_131_0, zg_131_1, zg_131_2, zg_131_3, Nat.reduceAdd, Nat.reduceMul, Int32.reduceAdd, Int32.reduceSub, Int32.reduceMul]
                first
                | refine ⟨vp_inb rfl, ?_⟩
                | refine ⟨fun h => absurd h (of_decide_eq_false rfl), fun _ => ?_⟩
                | refine ⟨fun _ => ?_, fun h => absurd (of_decide_eq_true rfl) h⟩
                | refine ⟨fun _ => ?_, fun h => absurd h (of_decide_eq_false rfl)⟩
                | refine ⟨fun h => absurd (of_decide_eq_true rfl) h, fun _ => ?_⟩
                | refine ⟨of_decide_eq_true rfl, ?_⟩
                | refine ⟨rfl, ?_⟩)
        try (conv => whnf)
        exact hK _ _ ⟨rfl, rfl, rfl, rfl, rfl⟩
    · simp only [if_neg h] at hK
      refine hG 1000 _ _ _ _ _ ?_
      repeat (conv => whnf
              try dsimp only
              try simp (decide := true) only [zu_same, zu_ne1, zu_ne2, zuL_same, zuL_ne1, zuL_ne2, zrow_n1, zx0, zx1, zx2, zx3, zf_0_13, zf_0_14, zf_0_15, zf_1_3, zf_15_0, zf_16_0, zf_17_10, zf_86_3, zf_90_6, zf_90_7, zf_94_7, zf_100_6, zf_100_7, zf_118_0, zf_118_1, zf_118_2, zf_118_3, zg_119_0, zg_119_5, zg_119_9, zg_119_15, zg_119_19, zg_119_22, zg_119_1, zg_119_16, zg_120_0, zg_120_1, zg_120_2, zg_120_3, zg_121_0, zg_122_0, zg_124_0, zg_126_0, zg_127_0, zg_128_0, zg_129_0, zg_131_0, zg_131_1, zg_131_2, zg_131_3, Nat.reduceAdd, Nat.reduceMul, Int32.reduceAdd, Int32.reduceSub, Int32.reduceMul]
              first
              | refine ⟨vp_inb rfl, ?_⟩
              | refine ⟨fun h => absurd h (of_decide_eq_false rfl), fun _ => ?_⟩
              | refine ⟨fun _ => ?_, fun h => absurd (of_decide_eq_true rfl) h⟩
              | refine ⟨fun _ => ?_, fun h => absurd h (of_decide_eq_false rfl)⟩
              | refine ⟨fun h => absurd (of_decide_eq_true rfl) h, fun _ => ?_⟩
              | refine ⟨of_decide_eq_true rfl, ?_⟩
              | refine ⟨rfl, ?_⟩)
      try (conv => whnf)
      refine ⟨(q, _), rfl, rfl, trivial, ?_⟩
      try dsimp only
      rw [if_neg h]
      repeat (conv => whnf
              try dsimp only
              try simp (decide := true) only [zu_same, zu_ne1, zu_ne2, zuL_same, zuL_ne1, zuL_ne2, zrow_n1, zx0, zx1, zx2, zx3, zf_0_13, zf_0_14, zf_0_15, zf_1_3, zf_15_0, zf_16_0, zf_17_10, zf_86_3, zf_90_6, zf_90_7, zf_94_7, zf_100_6, zf_100_7, zf_118_0, zf_118_1, zf_118_2, zf_118_3, zg_119_0, zg_119_5, zg_119_9, zg_119_15, zg_119_19, zg_119_22, zg_119_1, zg_119_16, zg_120_0, zg_120_1, zg_120_2, zg_120_3, zg_121_0, zg_122_0, zg_124_0, zg_126_0, zg_127_0, zg_128_0, zg_129_0, zg_131_0, zg_131_1, zg_131_2, zg_131_3, Nat.reduceAdd, Nat.reduceMul, Int32.reduceAdd, Int32.reduceSub, Int32.reduceMul]
              first
              | refine ⟨vp_inb rfl, ?_⟩
              | refine ⟨fun h => absurd h (of_decide_eq_false rfl), fun _ => ?_⟩
              | refine ⟨fun _ => ?_, fun h => absurd (of_decide_eq_true rfl) h⟩
              | refine ⟨fun _ => ?_, fun h => absurd h (of_decide_eq_false rfl)⟩
              | refine ⟨fun h => absurd (of_decide_eq_true rfl) h, fun _ => ?_⟩
              | refine ⟨of_decide_eq_true rfl, ?_⟩
              | refine ⟨rfl, ?_⟩)
      try (conv => whnf)
      refine ⟨(_, 1), rfl, rfl, ⟨rfl, trivial⟩, ?_⟩
      try dsimp only
      repeat (conv => whnf
              try dsimp only
              try simp (decide := true) only [zu_same, zu_ne1, zu_ne2, zuL_same, zuL_ne1, zuL_ne2, zrow_n1, zx0, zx1, zx2, zx3, zf_0_13, zf_0_14, zf_0_15, zf_1_3, zf_15_0, zf_16_0, zf_17_10, zf_86_3, zf_90_6, zf_90_7, zf_94_7, zf_100_6, zf_100_7, zf_118_0, zf_118_1, zf_118_2, zf_118_3, zg_119_0, zg_119_5, zg_119_9, zg_119_15, zg_119_19, zg_119_22, zg_119_1, zg_119_16, zg_120_0, zg_120_1, zg_120_2, zg_120_3, zg_121_0, zg_122_0, zg_124_0, zg_126_0, zg_127_0, zg_128_0, zg_129_0, zg_131_0, zg_131_1, zg_131_2, zg_131_3, Nat.reduceAdd, Nat.reduceMul, Int32.reduceAdd, Int32.reduceSub, Int32.reduceMul]
              first
              | refine ⟨vp_inb rfl, ?_⟩
              | refine ⟨fun h => absurd h (of_decide_eq_false rfl), fun _ => ?_⟩
              | refine ⟨fun _ => ?_, fun h => absurd (of_decide_eq_true rfl) h⟩
              | refine ⟨fun _ => ?_, fun h => absurd h (of_decide_eq_false rfl)⟩
              | refine ⟨fun h => absurd (of_decide_eq_true rfl) h, fun _ => ?_⟩
              | refine ⟨of_decide_eq_true rfl, ?_⟩
              | refine ⟨rfl, ?_⟩)
      try (conv => whnf)
      exact hK _ _ ⟨rfl, rfl, rfl, rfl, rfl⟩
def spX8_load : zSp := zDQ (X := Int32 × zIn × zLo × Int64) (fun x => match x with | (q, s1, t1, v9) => [.ref 119, .int q]) (fun x => match x with | (q, s1, t1, v9) => (145, zSH, zRH, zmx s1, zmxL t1 v9)) (fun x => match x with | (q, s1, t1, v9) => True) (fun x r9 μ9 => match x with | (q, s1, t1, v9) => r9 = some (.int 0) ∧ zaft v9 (if 0 ≤ q ∧ q ≤ 3 then 2 else 1) μ9)
abbrev rmX8_load : Room := ({ frames := 2, cells := 0, slots := 0, locals := 42 } : Room)
set_option maxRecDepth 100000 in
set_option maxHeartbeats 4000000 in
theorem ctX8_load (l : Launch) (D : va_G) (cA : Nat → ClassId) : zCt false l D cA yX8_load cX8_load 5 (some .int) rmX8_load spX8_load := by
  refine zct_Q (zCX8_load [(266, 1, 1, spX8_isPlace, rmX8_isPlace.cells, rmX8_isPlace.slots), (118, 0, 1, spX8_no, rmX8_no.cells, rmX8_no.slots)]) zpX8_load [] (by decide +kernel) zkX8_load (Or.inr (by decide +kernel)) trivial ⟨by decide +kernel, by decide +kernel⟩ (fun x ad => Nat.le_of_ble_eq_true rfl) ?_ ?_
  · intro p e s m args below meth c A H0 ad0 n0 Q F hml hNw hA hX
    exact ⟨zco_S hX hA F hml hNw (ctX8_isPlace l D cA) ⟨⟨zlX8_load_266, zwX8_isPlace.1⟩, zwX8_isPlace.2⟩ zdX8_isPlace ⟨Nat.le_of_ble_eq_true rfl, Nat.le_of_ble_eq_true rfl⟩, zco_V hX hA F hml hNw (ctX8_no l D cA) ⟨⟨zlX8_load_118, zwX8_no.1.1, zwX8_no.1.2⟩, zwX8_no.2⟩ zdX8_no ⟨Nat.le_of_ble_eq_true rfl, Nat.le_of_ble_eq_true rfl⟩ (ci := 8) (by decide) rfl (by rintro av μ K ⟨⟨μ0, x9⟩, rfl, rfl, h9, -⟩; exact ⟨_, _, rfl, congrArg Prod.fst h9.1⟩), trivial⟩
  · rintro ⟨q, s1, t1, v9⟩ Ret hP hK Gl hG
    try dsimp only at hP hK
    show Gl 0 (zent 5 [.ref 119, .int q]) [] (0, 0) ((145, zSH, zRH, zmx s1, zmxL t1 v9))
    by_cases h : 0 ≤ q ∧ q ≤ 3
    · simp only [if_pos h] at hK
      obtain ⟨j, hj, rfl⟩ := vp_in_of (zin3 h) (by decide)
      rcases (show j = 0 ∨ j = 1 ∨ j = 2 ∨ j = 3 by omega) with rfl | rfl | rfl | rfl
      all_goals
        refine hG 1000 _ _ _ _ _ ?_
        repeat (conv => whnf
                try dsimp only
                try simp (decide := true) only [zu_same, zu_ne1, zu_ne2, zuL_same, zuL_ne1, zuL_ne2, zrow_n1, zx0, zx1, zx2, zx3, zf_0_13, zf_0_14, zf_0_15, zf_1_3, zf_15_0, zf_16_0, zf_17_10, zf_86_3, zf_90_6, zf_90_7, zf_94_7, zf_100_6, zf_100_7, zf_118_0, zf_118_1, zf_118_2, zf_118_3, zg_119_0, zg_119_5, zg_119_9, zg_119_15, zg_119_19, zg_119_22, zg_119_1, zg_119_16, zg_120_0, zg_120_1, zg_120_2, zg_120_3, zg_121_0, zg_122_0, zg_124_0, zg_126_0, zg_127_0, zg_128_0, zg_129_0, zg_131_0, zg_131_1, zg_131_2, zg_131_3, Nat.reduceAdd, Nat.reduceMul, Int32.reduceAdd, Int32.reduceSub, Int32.reduceMul]
                first
                | refine ⟨vp_inb rfl, ?_⟩
                | refine ⟨fun h => absurd h (of_decide_eq_false rfl), fun _ => ?_⟩
                | refine ⟨fun _ => ?_, fun h => absurd (of_decide_eq_true rfl) h⟩
                | refine ⟨fun _ => ?_, fun h => absurd h (of_decide_eq_false rfl)⟩
                | refine ⟨fun h => absurd (of_decide_eq_true rfl) h, fun _ => ?_⟩
                | refine ⟨of_decide_eq_true rfl, ?_⟩
                | refine ⟨rfl, ?_⟩)
        try (conv => whnf)
        refine ⟨(_, _), rfl, rfl, trivial, ?_⟩
        try dsimp only
        repeat (conv => whnf
                try dsimp only
                try simp (decide := true) only [zu_same, zu_ne1, zu_ne2, zuL_same, zuL_ne1, zuL_ne2, zrow_n1, zx0, zx1, zx2, zx3, zf_0_13, zf_0_14, zf_0_15, zf_1_3, zf_15_0, zf_16_0, zf_17_10, zf_86_3, zf_90_6, zf_90_7, zf_94_7, zf_100_6, zf_100_7, zf_118_0, zf_118_1, zf_118_2, zf_118_3, zg_119_0, zg_119_5, zg_119_9, zg_119_15, zg_119_19, zg_119_22, zg_119_1, zg_119_16, zg_120_0, zg_120_1, zg_120_2, zg_120_3, zg_121_0, zg_122_0, zg_124_0, zg_126_0, zg_127_0, zg_128_0, zg_129_0, zg_131_0, zg_131_1, zg_131_2, zg_131_3, Nat.reduceAdd, Nat.reduceMul, Int32.reduceAdd, Int32.reduceSub, Int32.reduceMul]
                first
                | refine ⟨vp_inb rfl, ?_⟩
                | refine ⟨fun h => absurd h (of_decide_eq_false rfl), fun _ => ?_⟩
                | refine ⟨fun _ => ?_, fun h => absurd (of_decide_eq_true rfl) h⟩
                | refine ⟨fun _ => ?_, fun h => absurd h (of_decide_eq_false rfl)⟩
                | refine ⟨fun h => absurd (of_decide_eq_true rfl) h, fun _ => ?_⟩
                | refine ⟨of_decide_eq_true rfl, ?_⟩
                | refine ⟨rfl, ?_⟩)
        try (conv => whnf)
        refine ⟨(_, 2), rfl, rfl, ⟨rfl, trivial⟩, ?_⟩
        try dsimp only
        repeat (conv => whnf
                try dsimp only
                try simp (decide := true) only [zu_same, zu_ne1, zu_ne2, zuL_same, zuL_ne1, zuL_ne2, zrow_n1, zx0, zx1, zx2, zx3, zf_0_13, zf_0_14, zf_0_15, zf_1_3, zf_15_0, zf_16_0, zf_17_10, zf_86_3, zf_90_6, zf_90_7, zf_94_7, zf_100_6, zf_100_7, zf_118_0, zf_118_1, zf_118_2, zf_118_3, zg_119_0, zg_119_5, zg_119_9, zg_119_15, zg_119_19, zg_119_22, zg_119_1, zg_119_16, zg_120_0, zg_120_1, zg_120_2, zg_120_3, zg_121_0, zg_122_0, zg_124_0, zg_126_0, zg_127_0, zg_128_0, zg_129_0, zg_131_0, zg_131_1, zg_131_2, zg_131_3, Nat.reduceAdd, Nat.reduceMul, Int32.reduceAdd, Int32.reduceSub, Int32.reduceMul]
                first
                | refine ⟨vp_inb rfl, ?_⟩
                | refine ⟨fun h => absurd h (of_decide_eq_false rfl), fun _ => ?_⟩
                | refine ⟨fun _ => ?_, fun h => absurd (of_decide_eq_true rfl) h⟩
                | refine ⟨fun _ => ?_, fun h => absurd h (of_decide_eq_false rfl)⟩
                | refine ⟨fun h => absurd (of_decide_eq_true rfl) h, fun _ => ?_⟩
                | refine ⟨of_decide_eq_true rfl, ?_⟩
                | refine ⟨rfl, ?_⟩)
        try (conv => whnf)
        exact hK _ _ ⟨rfl, rfl, rfl, rfl, rfl⟩
    · simp only [if_neg h] at hK
      refine hG 1000 _ _ _ _ _ ?_
      repeat (conv => whnf
              try dsimp only
              try simp (decide := true) only [zu_same, zu_ne1, zu_ne2, zuL_same, zuL_ne1, zuL_ne2, zrow_n1, zx0, zx1, zx2, zx3, zf_0_13, zf_0_14, zf_0_15, zf_1_3, zf_15_0, zf_16_0, zf_17_10, zf_86_3, zf_90_6, zf_90_7, zf_94_7, zf_100_6, zf_100_7, zf_118_0, zf_118_1, zf_118_2, zf_118_3, zg_119_0, zg_119_5, zg_119_9, zg_119_15, zg_119_19, zg_119_22, zg_119_1, zg_119_16, zg_120_0, zg_120_1, zg_120_2, zg_120_3, zg_121_0, zg_122_0, zg_124_0, zg_126_0, zg_127_0, zg_128_0, zg_129_0, zg_131_0, zg_131_1, zg_131_2, zg_131_3, Nat.reduceAdd, Nat.reduceMul, Int32.reduceAdd, Int32.reduceSub, Int32.reduceMul]
              first
              | refine ⟨vp_inb rfl, ?_⟩
              | refine ⟨fun h => absurd h (of_decide_eq_false rfl), fun _ => ?_⟩
              | refine ⟨fun _ => ?_, fun h => absurd (of_decide_eq_true rfl) h⟩
              | refine ⟨fun _ => ?_, fun h => absurd h (of_decide_eq_false rfl)⟩
              | refine ⟨fun h => absurd (of_decide_eq_true rfl) h, fun _ => ?_⟩
              | refine ⟨of_decide_eq_true rfl, ?_⟩
              | refine ⟨rfl, ?_⟩)
      try (conv => whnf)
      refine ⟨(q, _), rfl, rfl, trivial, ?_⟩
      try dsimp only
      rw [if_neg h]
      repeat (conv => whnf
              try dsimp only
              try simp (decide := true) only [zu_same, zu_ne1, zu_ne2, zuL_same, zuL_ne1, zuL_ne2, zrow_n1, zx0, zx1, zx2, zx3, zf_0_13, zf_0_14, zf_0_15, zf_1_3, zf_15_0, zf_16_0, zf_17_10, zf_86_3, zf_90_6, zf_90_7, zf_94_7, zf_100_6, zf_100_7, zf_118_0, zf_118_1, zf_118_2, zf_118_3, zg_119_0, zg_119_5, zg_119_9, zg_119_15, zg_119_19, zg_119_22, zg_119_1, zg_119_16, zg_120_0, zg_120_1, zg_120_2, zg_120_3, zg_121_0, zg_122_0, zg_124_0, zg_126_0, zg_127_0, zg_128_0, zg_129_0, zg_131_0, zg_131_1, zg_131_2, zg_131_3, Nat.reduceAdd, Nat.reduceMul, Int32.reduceAdd, Int32.reduceSub, Int32.reduceMul]
              first
              | refine ⟨vp_inb rfl, ?_⟩
              | refine ⟨fun h => absurd h (of_decide_eq_false rfl), fun _ => ?_⟩
              | refine ⟨fun _ => ?_, fun h => absurd (of_decide_eq_true rfl) h⟩
              | refine ⟨fun _ => ?_, fun h => absurd h (of_decide_eq_false rfl)⟩
              | refine ⟨fun h => absurd (of_decide_eq_true rfl) h, fun _ => ?_⟩
              | refine ⟨of_decide_eq_true rfl, ?_⟩
              | refine ⟨rfl, ?_⟩)
      try (conv => whnf)
      refine ⟨(_, 1), rfl, rfl, ⟨rfl, trivial⟩, ?_⟩
      try dsimp only
      repeat (conv => whnf
              try dsimp only
              try simp (decide := true) only [zu_same, zu_ne1, zu_ne2, zuL_same, zuL_ne1, zuL_ne2, zrow_n1, zx0, zx1, zx2, zx3, zf_0_13, zf_0_14, zf_0_15, zf_1_3, zf_15_0, zf_16_0, zf_17_10, zf_86_3, zf_90_6, zf_90_7, zf_94_7, zf_100_6, zf_100_7, zf_118_0, zf_118_1, zf_118_2, zf_118_3, zg_119_0, zg_119_5, zg_119_9, zg_119_15, zg_119_19, zg_119_22, zg_119_1, zg_119_16, zg_120_0, zg_120_1, zg_120_2, zg_120_3, zg_121_0, zg_122_0, zg_124_0, zg_126_0, zg_127_0, zg_128_0, zg_129_0, zg_131_0, zg_131_1, zg_131_2, zg_131_3, Nat.reduceAdd, Nat.reduceMul, Int32.reduceAdd, Int32.reduceSub, Int32.reduceMul]
              first
              | refine ⟨vp_inb rfl, ?_⟩
              | refine ⟨fun h => absurd h (of_decide_eq_false rfl), fun _ => ?_⟩
              | refine ⟨fun _ => ?_, fun h => absurd (of_decide_eq_true rfl) h⟩
              | refine ⟨fun _ => ?_, fun h => absurd h (of_decide_eq_false rfl)⟩
              | refine ⟨fun h => absurd (of_decide_eq_true rfl) h, fun _ => ?_⟩
              | refine ⟨of_decide_eq_true rfl, ?_⟩
              | refine ⟨rfl, ?_⟩)
      try (conv => whnf)
      exact hK _ _ ⟨rfl, rfl, rfl, rfl, rfl⟩
def spX8_amountOf : zSp := zDQ (X := Int32 × Int32 × zIn × zLo × Int64) (fun x => match x with | (q, w, s1, t1, v9) => [.ref 119, .int q, .int w]) (fun x => match x with | (q, w, s1, t1, v9) => (145, zSH, zRH, zmx s1, zmxL t1 v9)) (fun x => match x with | (q, w, s1, t1, v9) => True) (fun x r9 μ9 => match x with | (q, w, s1, t1, v9) => r9 = some (.int 0) ∧ zaft v9 1 μ9)
abbrev rmX8_amountOf : Room := ({ frames := 2, cells := 0, slots := 0, locals := 43 } : Room)
set_option maxRecDepth 100000 in
set_option maxHeartbeats 4000000 in
theorem ctX8_amountOf (l : Launch) (D : va_G) (cA : Nat → ClassId) : zCt false l D cA yX8_amountOf cX8_amountOf 4 (some .int) rmX8_amountOf spX8_amountOf := by
  refine zct_Q (zCX8_amountOf [(266, 1, 1, spX8_isPlace, rmX8_isPlace.cells, rmX8_isPlace.slots), (142, 0, 1, spX8_isVariable, rmX8_isVariable.cells, rmX8_isVariable.slots), (118, 0, 1, spX8_no, rmX8_no.cells, rmX8_no.slots)]) zpX8_amountOf [] (by decide +kernel) zkX8_amountOf (Or.inr (by decide +kernel)) trivial ⟨by decide +kernel, by decide +kernel⟩ (fun x ad => Nat.le_of_ble_eq_true rfl) ?_ ?_
  · intro p e s m args below meth c A H0 ad0 n0 Q F hml hNw hA hX
    exact ⟨zco_S hX hA F hml hNw (ctX8_isPlace l D cA) ⟨⟨zlX8_amountOf_266, zwX8_isPlace.1⟩, zwX8_isPlace.2⟩ zdX8_isPlace ⟨Nat.le_of_ble_eq_true rfl, Nat.le_of_ble_eq_true rfl⟩, zco_V hX hA F hml hNw (ctX8_isVariable l D cA) ⟨⟨zlX8_amountOf_142, zwX8_isVariable.1.1, zwX8_isVariable.1.2⟩, zwX8_isVariable.2⟩ zdX8_isVariable ⟨Nat.le_of_ble_eq_true rfl, Nat.le_of_ble_eq_true rfl⟩ (ci := 8) (by decide) rfl (by rintro av μ K ⟨x, rfl, rfl, -⟩; exact ⟨_, _, rfl, rfl⟩), zco_V hX hA F hml hNw (ctX8_no l D cA) ⟨⟨zlX8_amountOf_118, zwX8_no.1.1, zwX8_no.1.2⟩, zwX8_no.2⟩ zdX8_no ⟨Nat.le_of_ble_eq_true rfl, Nat.le_of_ble_eq_true rfl⟩ (ci := 8) (by decide) rfl (by rintro av μ K ⟨⟨μ0, x9⟩, rfl, rfl, h9, -⟩; exact ⟨_, _, rfl, congrArg Prod.fst h9.1⟩), trivial⟩
  · rintro ⟨q, w, s1, t1, v9⟩ Ret hP hK Gl hG
    try dsimp only at hP hK
    show Gl 0 (zent 4 [.ref 119, .int q, .int w]) [] (0, 0) ((145, zSH, zRH, zmx s1, zmxL t1 v9))
    refine hG 1000 _ _ _ _ _ ?_
    repeat (conv => whnf
            try dsimp only
            try simp (decide := true) only [zu_same, zu_ne1, zu_ne2, zuL_same, zuL_ne1, zuL_ne2, zrow_n1, zx0, zx1, zx2, zx3, zf_0_13, zf_0_14, zf_0_15, zf_1_3, zf_15_0, zf_16_0, zf_17_10, zf_86_3, zf_90_6, zf_90_7, zf_94_7, zf_100_6, zf_100_7, zf_118_0, zf_118_1, zf_118_2, zf_118_3, zg_119_0, zg_119_5, zg_119_9, zg_119_15, zg_119_19, zg_119_22, zg_119_1, zg_119_16, zg_120_0, zg_120_1, zg_120_2, zg_120_3, zg_121_0, zg_122_0, zg_124_0, zg_126_0, zg_127_0, zg_128_0, zg_129_0, zg_131_0, zg_131_1, zg_131_2, zg_131_3, Nat.reduceAdd, Nat.reduceMul, Int32.reduceAdd, Int32.reduceSub, Int32.reduceMul]
            first
            | refine ⟨vp_inb rfl, ?_⟩
            | refine ⟨fun h => absurd h (of_decide_eq_false rfl), fun _ => ?_⟩
            | refine ⟨fun _ => ?_, fun h => absurd (of_decide_eq_true rfl) h⟩
            | refine ⟨fun _ => ?_, fun h => absurd h (of_decide_eq_false rfl)⟩
            | refine ⟨fun h => absurd (of_decide_eq_true rfl) h, fun _ => ?_⟩
            | refine ⟨of_decide_eq_true rfl, ?_⟩
            | refine ⟨rfl, ?_⟩)
    try (conv => whnf)
    refine ⟨(q, _), rfl, rfl, trivial, ?_⟩
    try dsimp only
    by_cases h : 0 ≤ q ∧ q ≤ 3
    · rw [if_pos h]
      repeat (conv => whnf
              try dsimp only
              try simp (decide := true) only [zu_same, zu_ne1, zu_ne2, zuL_same, zuL_ne1, zuL_ne2, zrow_n1, zx0, zx1, zx2, zx3, zf_0_13, zf_0_14, zf_0_15, zf_1_3, zf_15_0, zf_16_0, zf_17_10, zf_86_3, zf_90_6, zf_90_7, zf_94_7, zf_100_6, zf_100_7, zf_118_0, zf_118_1, zf_118_2, zf_118_3, zg_119_0, zg_119_5, zg_119_9, zg_119_15, zg_119_19, zg_119_22, zg_119_1, zg_119_16, zg_120_0, zg_120_1, zg_120_2, zg_120_3, zg_121_0, zg_122_0, zg_124_0, zg_126_0, zg_127_0, zg_128_0, zg_129_0, zg_131_0, zg_131_1, zg_131_2, zg_131_3, Nat.reduceAdd, Nat.reduceMul, Int32.reduceAdd, Int32.reduceSub, Int32.reduceMul]
              first
              | refine ⟨vp_inb rfl, ?_⟩
              | refine ⟨fun h => absurd h (of_decide_eq_false rfl), fun _ => ?_⟩
              | refine ⟨fun _ => ?_, fun h => absurd (of_decide_eq_true rfl) h⟩
              | refine ⟨fun _ => ?_, fun h => absurd h (of_decide_eq_false rfl)⟩
              | refine ⟨fun h => absurd (of_decide_eq_true rfl) h, fun _ => ?_⟩
              | refine ⟨of_decide_eq_true rfl, ?_⟩
              | refine ⟨rfl, ?_⟩)
      try (conv => whnf)
      refine ⟨(zu (zmx s1) 119 0 0, zmxL t1 v9, w), rfl, rfl, rfl, ?_⟩
      try dsimp only
      repeat (conv => whnf
              try dsimp only
              try simp (decide := true) only [zu_same, zu_ne1, zu_ne2, zuL_same, zuL_ne1, zuL_ne2, zrow_n1, zx0, zx1, zx2, zx3, zf_0_13, zf_0_14, zf_0_15, zf_1_3, zf_15_0, zf_16_0, zf_17_10, zf_86_3, zf_90_6, zf_90_7, zf_94_7, zf_100_6, zf_100_7, zf_118_0, zf_118_1, zf_118_2, zf_118_3, zg_119_0, zg_119_5, zg_119_9, zg_119_15, zg_119_19, zg_119_22, zg_119_1, zg_119_16, zg_120_0, zg_120_1, zg_120_2, zg_120_3, zg_121_0, zg_122_0, zg_124_0, zg_126_0, zg_127_0, zg_128_0, zg_129_0, zg_131_0, zg_131_1, zg_131_2, zg_131_3, Nat.reduceAdd, Nat.reduceMul, Int32.reduceAdd, Int32.reduceSub, Int32.reduceMul]
              first
              | refine ⟨vp_inb rfl, ?_⟩
              | refine ⟨fun h => absurd h (of_decide_eq_false rfl), fun _ => ?_⟩
              | refine ⟨fun _ => ?_, fun h => absurd (of_decide_eq_true rfl) h⟩
              | refine ⟨fun _ => ?_, fun h => absurd h (of_decide_eq_false rfl)⟩
              | refine ⟨fun h => absurd (of_decide_eq_true rfl) h, fun _ => ?_⟩
              | refine ⟨of_decide_eq_true rfl, ?_⟩
              | refine ⟨rfl, ?_⟩)
      try (conv => whnf)
      refine ⟨(_, 1), rfl, rfl, ⟨rfl, trivial⟩, ?_⟩
      try dsimp only
      repeat (conv => whnf
              try dsimp only
              try simp (decide := true) only [zu_same, zu_ne1, zu_ne2, zuL_same, zuL_ne1, zuL_ne2, zrow_n1, zx0, zx1, zx2, zx3, zf_0_13, zf_0_14, zf_0_15, zf_1_3, zf_15_0, zf_16_0, zf_17_10, zf_86_3, zf_90_6, zf_90_7, zf_94_7, zf_100_6, zf_100_7, zf_118_0, zf_118_1, zf_118_2, zf_118_3, zg_119_0, zg_119_5, zg_119_9, zg_119_15, zg_119_19, zg_119_22, zg_119_1, zg_119_16, zg_120_0, zg_120_1, zg_120_2, zg_120_3, zg_121_0, zg_122_0, zg_124_0, zg_126_0, zg_127_0, zg_128_0, zg_129_0, zg_131_0, zg_131_1, zg_131_2, zg_131_3, Nat.reduceAdd, Nat.reduceMul, Int32.reduceAdd, Int32.reduceSub, Int32.reduceMul]
              first
              | refine ⟨vp_inb rfl, ?_⟩
              | refine ⟨fun h => absurd h (of_decide_eq_false rfl), fun _ => ?_⟩
              | refine ⟨fun _ => ?_, fun h => absurd (of_decide_eq_true rfl) h⟩
              | refine ⟨fun _ => ?_, fun h => absurd h (of_decide_eq_false rfl)⟩
              | refine ⟨fun h => absurd (of_decide_eq_true rfl) h, fun _ => ?_⟩
              | refine ⟨of_decide_eq_true rfl, ?_⟩
              | refine ⟨rfl, ?_⟩)
      try (conv => whnf)
      exact hK _ _ ⟨rfl, rfl, rfl, rfl, rfl⟩
    · rw [if_neg h]
      repeat (conv => whnf
              try dsimp only
              try simp (decide := true) only [zu_same, zu_ne1, zu_ne2, zuL_same, zuL_ne1, zuL_ne2, zrow_n1, zx0, zx1, zx2, zx3, zf_0_13, zf_0_14, zf_0_15, zf_1_3, zf_15_0, zf_16_0, zf_17_10, zf_86_3, zf_90_6, zf_90_7, zf_94_7, zf_100_6, zf_100_7, zf_118_0, zf_118_1, zf_118_2, zf_118_3, zg_119_0, zg_119_5, zg_119_9, zg_119_15, zg_119_19, zg_119_22, zg_119_1, zg_119_16, zg_120_0, zg_120_1, zg_120_2, zg_120_3, zg_121_0, zg_122_0, zg_124_0, zg_126_0, zg_127_0, zg_128_0, zg_129_0, zg_131_0, zg_131_1, zg_131_2, zg_131_3, Nat.reduceAdd, Nat.reduceMul, Int32.reduceAdd, Int32.reduceSub, Int32.reduceMul]
              first
              | refine ⟨vp_inb rfl, ?_⟩
              | refine ⟨fun h => absurd h (of_decide_eq_false rfl), fun _ => ?_⟩
              | refine ⟨fun _ => ?_, fun h => absurd (of_decide_eq_true rfl) h⟩
              | refine ⟨fun _ => ?_, fun h => absurd h (of_decide_eq_false rfl)⟩
              | refine ⟨fun h => absurd (of_decide_eq_true rfl) h, fun _ => ?_⟩
              | refine ⟨of_decide_eq_true rfl, ?_⟩
              | refine ⟨rfl, ?_⟩)
      try (conv => whnf)
      refine ⟨(_, 1), rfl, rfl, ⟨rfl, trivial⟩, ?_⟩
      try dsimp only
      repeat (conv => whnf
              try dsimp only
              try simp (decide := true) only [zu_same, zu_ne1, zu_ne2, zuL_same, zuL_ne1, zuL_ne2, zrow_n1, zx0, zx1, zx2, zx3, zf_0_13, zf_0_14, zf_0_15, zf_1_3, zf_15_0, zf_16_0, zf_17_10, zf_86_3, zf_90_6, zf_90_7, zf_94_7, zf_100_6, zf_100_7, zf_118_0, zf_118_1, zf_118_2, zf_118_3, zg_119_0, zg_119_5, zg_119_9, zg_119_15, zg_119_19, zg_119_22, zg_119_1, zg_119_16, zg_120_0, zg_120_1, zg_120_2, zg_120_3, zg_121_0, zg_122_0, zg_124_0, zg_126_0, zg_127_0, zg_128_0, zg_129_0, zg_131_0, zg_131_1, zg_131_2, zg_131_3, Nat.reduceAdd, Nat.reduceMul, Int32.reduceAdd, Int32.reduceSub, Int32.reduceMul]
              first
              | refine ⟨vp_inb rfl, ?_⟩
              | refine ⟨fun h => absurd h (of_decide_eq_false rfl), fun _ => ?_⟩
              | refine ⟨fun _ => ?_, fun h => absurd (of_decide_eq_true rfl) h⟩
              | refine ⟨fun _ => ?_, fun h => absurd h (of_decide_eq_false rfl)⟩
              | refine ⟨fun h => absurd (of_decide_eq_true rfl) h, fun _ => ?_⟩
              | refine ⟨of_decide_eq_true rfl, ?_⟩
              | refine ⟨rfl, ?_⟩)
      try (conv => whnf)
      exact hK _ _ ⟨rfl, rfl, rfl, rfl, rfl⟩

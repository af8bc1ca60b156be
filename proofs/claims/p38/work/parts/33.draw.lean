/-! ===== what is drawn ===== -/
theorem nn_and {v : Int32} : ¬ v &&& 2147483647 < 0 := fun h => by
  have h1 := Int32.lt_iff_toInt_lt.mp h
  have h2 : bt (v &&& 2147483647) 31 = false := by
    rw [bt_and, show bt 2147483647 31 = false from by decide, Bool.and_false]
  have h3 : (v &&& 2147483647).toBitVec.msb = false := by
    rw [BitVec.msb_eq_getLsbD_last]
    exact h2
  have h4 : (v &&& 2147483647).toInt = ((v &&& 2147483647).toBitVec.toNat : Int) := BitVec.toInt_eq_toNat_of_msb h3
  have h5 : (0 : Int32).toInt = 0 := rfl
  omega
def spL_below : zSp := zDQ (X := zM × Int32 × Nat) (fun x => match x with | (μ, v, k) => [.int v, .int (nI k)]) (fun x => match x with | (μ, v, k) => μ) (fun x => match x with | (μ, v, k) => 0 < k ∧ k < 2147483648) (fun x r9 μ9 => match x with | (μ, v, k) => (∃ y, y < k ∧ r9 = some (.int (nI y))) ∧ μ9 = μ)
abbrev rmL_below : Room := ({ frames := 0, cells := 0, slots := 0, locals := 0 } : Room)
set_option maxRecDepth 100000 in
set_option maxHeartbeats 4000000 in
theorem ctL_below (l : Launch) (D : va_G) (cA : Nat → ClassId) : zCt false l D cA yL_below cL_below 2 (some .int) rmL_below spL_below := by
  refine zct_Q (zCL_below []) zpL_below [] (by decide +kernel) zkL_below (Or.inr (by decide +kernel)) trivial ⟨by decide +kernel, by decide +kernel⟩ (fun x ad => Nat.le_of_ble_eq_true rfl) ?_ ?_
  · intro p e s m args below meth c A H0 ad0 n0 Q F hml hNw hA hX
    exact trivial
  · rintro ⟨μ, v, k⟩ Ret hP hK Gl hG
    try dsimp only at hP hK
    show Gl 0 (zent 2 [.int v, .int (nI k)]) [] (0, 0) (μ)
    obtain ⟨hk, hk2⟩ := hP
    obtain ⟨j, hj, ej⟩ := nI_of (nn_and (v := v))
    refine hG 40 _ _ _ _ _ ?_
    conv => whnf
    refine ⟨nI_ne0 hk hk2, ?_⟩
    conv => whnf
    refine hK _ _ ⟨⟨j % k, Nat.mod_lt _ hk, ?_⟩, rfl⟩
    rw [ej, pk_rem hj hk hk2]
def spX8_draw : zSp := zDQ (X := Nat × zSh × zRf × zIn × zLo × Nat × Nat) (fun x => match x with | (m, sh, rf, s, t, dr, k) => [.ref 0, .int (nI k)]) (fun x => match x with | (m, sh, rf, s, t, dr, k) => (m, sh, rf, s, t)) (fun x => match x with | (m, sh, rf, s, t, dr, k) => sh 0 = (8, 0) ∧ rf 0 1 = some zS ∧ (sh zS).1 = 999 ∧ s 0 2 = nI dr ∧ dr < 10000 ∧ 0 < k ∧ k < 2147483648) (fun x r9 μ9 => match x with | (m, sh, rf, s, t, dr, k) => (∃ y, y < k ∧ r9 = some (.int (nI y))) ∧ ∃ s1 : zIn, μ9 = (m, sh, rf, s1, t) ∧ s1 0 2 = nI (dr + 1) ∧ (∀ j, j ≠ 2 → s1 0 j = s 0 j) ∧ ∀ r, r ≠ 0 → s1 r = s r)
abbrev rmX8_draw : Room := ({ frames := 1, cells := 0, slots := 0, locals := 21 } : Room)
set_option maxRecDepth 100000 in
set_option maxHeartbeats 4000000 in
theorem ctX8_draw (l : Launch) (D : va_G) (cA : Nat → ClassId) : zCt true l D cA yX8_draw cX8_draw 3 (some .int) rmX8_draw spX8_draw := by
  refine zct_Q (zCX8_draw [(48, 1, 2, spL_cell, rmL_cell.cells, rmL_cell.slots), (54, 1, 2, spL_below, rmL_below.cells, rmL_below.slots)]) zpX8_draw [] (by decide +kernel) zkX8_draw (Or.inr (by decide +kernel)) trivial ⟨by decide +kernel, by decide +kernel⟩ (fun x ad => Nat.le_of_ble_eq_true rfl) ?_ ?_
  · intro p e s m args below meth c A H0 ad0 n0 Q F hml hNw hA hX
    exact ⟨zco_SN hX hA F hml hNw (ctL_cell l D cA) ⟨⟨zlX8_draw_48, zwL_cell.1⟩, zwL_cell.2⟩ zdL_cell ⟨Nat.le_of_ble_eq_true rfl, Nat.le_of_ble_eq_true rfl⟩, zco_SN hX hA F hml hNw (zct_X (ctL_below l D cA)) ⟨⟨zlX8_draw_54, zwL_below.1⟩, zwL_below.2⟩ zdL_below ⟨Nat.le_of_ble_eq_true rfl, Nat.le_of_ble_eq_true rfl⟩, trivial⟩
  · rintro ⟨m, sh, rf, s, t, dr, k⟩ Ret hP hK Gl hG
    try dsimp only at hP hK
    show Gl 0 (zent 3 [.ref 0, .int (nI k)]) [] (0, 0) ((m, sh, rf, s, t))
    obtain ⟨h0, h1, h999, hd, hd9, hk, hk2⟩ := hP
    have e1 : nI dr - nI dr / 24 * 24 = nI (dr % 24) := pk_rem (d := 24) (by omega) (by decide) (by decide)
    refine hG 100 _ _ _ _ _ ?_
    repeat (first
      | (conv => whnf
         try dsimp only
         try simp (decide := true) only [h0, h1, hd, zu_same, zu_ne1, zu_ne2, zu_row, zuL_same, zuL_ne1, zuL_ne2, zrow_n1, zx0, zx1, zx2, zx3, nI_1, Nat.reduceAdd, Nat.reduceMul, Int32.reduceAdd, Int32.reduceSub, Int32.reduceMul]
         first
         | refine ⟨vp_inb (by decide), ?_⟩
         | refine ⟨by with_reducible exact zi (by omega), ?_⟩
         | refine ⟨fun h => absurd h (by with_reducible exact nI_ge (by omega) (by omega)), fun _ => ?_⟩
         | refine ⟨fun _ => ?_, fun h => absurd (by with_reducible exact nI_le (by omega) (by omega)) h⟩
         | refine ⟨fun h => absurd h (by with_reducible exact nI_nlt (by omega) (by omega)), fun _ => ?_⟩
         | refine ⟨fun _ => ?_, fun h => absurd (by with_reducible exact nI_lt (by omega) (by omega)) h⟩
         | refine ⟨fun h => absurd h (by with_reducible exact nI_pos (by omega)), fun _ => ?_⟩
         | refine ⟨fun _ => ?_, fun h => absurd (by with_reducible exact nI_0le (by omega)) h⟩
         | refine ⟨fun h => absurd h (by decide), fun _ => ?_⟩
         | refine ⟨fun _ => ?_, fun h => absurd (by decide) h⟩
         | refine ⟨fun _ => ?_, fun h => absurd h (by decide)⟩
         | refine ⟨fun h => absurd (by decide) h, fun _ => ?_⟩
         | refine ⟨by decide, ?_⟩
         | refine ⟨rfl, ?_⟩)
      | (conv => whnf
         fail_if_success refine Exists.intro ?_ ?_
         simp only [h0, h1, hd]))
    try (conv => whnf)
    rw [e1]
    refine ⟨((m, sh, rf, s, t), dr % 24), rfl, rfl, ⟨by show dr % 24 < 1000; omega, h999⟩, ?_⟩
    try dsimp only [cond_true, cond_false]
    rintro _ _ ⟨⟨y, rfl⟩, rfl⟩
    repeat (first
      | (conv => whnf
         try dsimp only
         try simp (decide := true) only [h0, h1, hd, zu_same, zu_ne1, zu_ne2, zu_row, zuL_same, zuL_ne1, zuL_ne2, zrow_n1, zx0, zx1, zx2, zx3, nI_1, Nat.reduceAdd, Nat.reduceMul, Int32.reduceAdd, Int32.reduceSub, Int32.reduceMul]
         first
         | refine ⟨vp_inb (by decide), ?_⟩
         | refine ⟨by with_reducible exact zi (by omega), ?_⟩
         | refine ⟨fun h => absurd h (by with_reducible exact nI_ge (by omega) (by omega)), fun _ => ?_⟩
         | refine ⟨fun _ => ?_, fun h => absurd (by with_reducible exact nI_le (by omega) (by omega)) h⟩
         | refine ⟨fun h => absurd h (by with_reducible exact nI_nlt (by omega) (by omega)), fun _ => ?_⟩
         | refine ⟨fun _ => ?_, fun h => absurd (by with_reducible exact nI_lt (by omega) (by omega)) h⟩
         | refine ⟨fun h => absurd h (by with_reducible exact nI_pos (by omega)), fun _ => ?_⟩
         | refine ⟨fun _ => ?_, fun h => absurd (by with_reducible exact nI_0le (by omega)) h⟩
         | refine ⟨fun h => absurd h (by decide), fun _ => ?_⟩
         | refine ⟨fun _ => ?_, fun h => absurd (by decide) h⟩
         | refine ⟨fun _ => ?_, fun h => absurd h (by decide)⟩
         | refine ⟨fun h => absurd (by decide) h, fun _ => ?_⟩
         | refine ⟨by decide, ?_⟩
         | refine ⟨rfl, ?_⟩)
      | (conv => whnf
         fail_if_success refine Exists.intro ?_ ?_
         simp only [h0, h1, hd]))
    try (conv => whnf)
    refine ⟨((m, sh, rf, s, t), _, k), rfl, rfl, ⟨hk, hk2⟩, ?_⟩
    try dsimp only [cond_true, cond_false]
    rintro _ _ ⟨⟨y, hy, rfl⟩, rfl⟩
    repeat (first
      | (conv => whnf
         try dsimp only
         try simp (decide := true) only [h0, h1, hd, zu_same, zu_ne1, zu_ne2, zu_row, zuL_same, zuL_ne1, zuL_ne2, zrow_n1, zx0, zx1, zx2, zx3, nI_1, Nat.reduceAdd, Nat.reduceMul, Int32.reduceAdd, Int32.reduceSub, Int32.reduceMul]
         first
         | refine ⟨vp_inb (by decide), ?_⟩
         | refine ⟨by with_reducible exact zi (by omega), ?_⟩
         | refine ⟨fun h => absurd h (by with_reducible exact nI_ge (by omega) (by omega)), fun _ => ?_⟩
         | refine ⟨fun _ => ?_, fun h => absurd (by with_reducible exact nI_le (by omega) (by omega)) h⟩
         | refine ⟨fun h => absurd h (by with_reducible exact nI_nlt (by omega) (by omega)), fun _ => ?_⟩
         | refine ⟨fun _ => ?_, fun h => absurd (by with_reducible exact nI_lt (by omega) (by omega)) h⟩
         | refine ⟨fun h => absurd h (by with_reducible exact nI_pos (by omega)), fun _ => ?_⟩
         | refine ⟨fun _ => ?_, fun h => absurd (by with_reducible exact nI_0le (by omega)) h⟩
         | refine ⟨fun h => absurd h (by decide), fun _ => ?_⟩
         | refine ⟨fun _ => ?_, fun h => absurd (by decide) h⟩
         | refine ⟨fun _ => ?_, fun h => absurd h (by decide)⟩
         | refine ⟨fun h => absurd (by decide) h, fun _ => ?_⟩
         | refine ⟨by decide, ?_⟩
         | refine ⟨rfl, ?_⟩)
      | (conv => whnf
         fail_if_success refine Exists.intro ?_ ?_
         simp only [h0, h1, hd]))
    try (conv => whnf)
    refine hK _ _ ⟨⟨y, hy, rfl⟩, _, rfl, ?_, fun j hj => zu_ne2 hj, fun r hr => zu_row hr⟩
    rw [zu_same, nI_1]

/-! ===== the small methods ===== -/
def spX7_kept : zSp := zD (X := Int64 × zM) (fun x => match x with | (a, μ) => [.long a]) (fun x => match x with | (a, μ) => μ) (fun x => match x with | (a, μ) => True) (fun x => match x with | (a, μ) => some (.int (fKept a))) (fun x => match x with | (a, μ) => μ)
abbrev rmX7_kept : Room := ({ frames := 0, cells := 0, slots := 0, locals := 0 } : Room)
set_option maxRecDepth 100000 in
set_option maxHeartbeats 4000000 in
theorem ctX7_kept (l : Launch) (D : va_G) (cA : Nat → ClassId) : zCt false l D cA yX7_kept cX7_kept 2 (some .int) rmX7_kept spX7_kept := by
  refine zct_D (zCX7_kept []) zpX7_kept [] (by decide +kernel) zkX7_kept (Or.inr (by decide +kernel)) trivial ⟨by decide +kernel, by decide +kernel⟩ (fun x ad => Nat.le_of_ble_eq_true rfl) ?_ ?_
  · intro p e s m args below meth c A H0 ad0 n0 Q F hml hNw hA hX
    exact trivial
  · rintro ⟨a, μ⟩ Ret hP hK Gl hG
    try dsimp only at hP hK
    show Gl 0 (zent 2 [.long a]) [] (0, 0) (μ)
    refine hG 40 _ _ _ _ _ ?_
    conv => whnf
    refine ⟨fun h => ?_, fun h => ?_⟩
    · conv => whnf
      refine ⟨fun h2 => ?_, fun h2 => ?_⟩
      · conv => whnf
        have e : fKept a = a.toInt32 := by
          unfold fKept
          rw [if_neg (Int64.not_lt.mpr ((lg_cmp_le _ _).mp h)), if_neg (Int64.not_lt.mpr ((lg_cmp_ge _ _).mp h2))]
        rw [e] at hK
        exact hK
      · conv => whnf
        have e : fKept a = -1000000000 := by
          unfold fKept
          rw [if_neg (Int64.not_lt.mpr ((lg_cmp_le _ _).mp h)), if_pos (Int64.not_le.mp (fun q => h2 ((lg_cmp_ge _ _).mpr q)))]
        rw [e] at hK
        exact hK
    · conv => whnf
      have e : fKept a = 1000000000 := by
        unfold fKept
        rw [if_pos (Int64.not_le.mp (fun q => h ((lg_cmp_le _ _).mpr q)))]
      rw [e] at hK
      exact hK
def spX7_shown : zSp := zD (X := Int32 × zM) (fun x => match x with | (a, μ) => [.int a]) (fun x => match x with | (a, μ) => μ) (fun x => match x with | (a, μ) => True) (fun x => match x with | (a, μ) => some (.int (if a = -2000000000 then 0 else a))) (fun x => match x with | (a, μ) => μ)
abbrev rmX7_shown : Room := ({ frames := 0, cells := 0, slots := 0, locals := 0 } : Room)
set_option maxRecDepth 100000 in
set_option maxHeartbeats 4000000 in
theorem ctX7_shown (l : Launch) (D : va_G) (cA : Nat → ClassId) : zCt false l D cA yX7_shown cX7_shown 1 (some .int) rmX7_shown spX7_shown := by
  refine zct_D (zCX7_shown []) zpX7_shown [] (by decide +kernel) zkX7_shown (Or.inr (by decide +kernel)) trivial ⟨by decide +kernel, by decide +kernel⟩ (fun x ad => Nat.le_of_ble_eq_true rfl) ?_ ?_
  · intro p e s m args below meth c A H0 ad0 n0 Q F hml hNw hA hX
    exact trivial
  · rintro ⟨a, μ⟩ Ret hP hK Gl hG
    try dsimp only at hP hK
    show Gl 0 (zent 1 [.int a]) [] (0, 0) (μ)
    refine hG 40 _ _ _ _ _ ?_
    conv => whnf
    refine ⟨fun h => ?_, fun h => ?_⟩
    · conv => whnf
      rw [if_neg h] at hK
      exact hK
    · conv => whnf
      rw [if_pos h] at hK
      exact hK
def spX7_isIn : zSp := zD (X := Int32 × Int32 × zM) (fun x => match x with | (a, v, μ) => [.int a, .int v]) (fun x => match x with | (a, v, μ) => μ) (fun x => match x with | (a, v, μ) => True) (fun x => match x with | (a, v, μ) => some (.int (if (a >>> (v &&& 31)) &&& 1 = 0 then 0 else 1))) (fun x => match x with | (a, v, μ) => μ)
abbrev rmX7_isIn : Room := ({ frames := 0, cells := 0, slots := 0, locals := 0 } : Room)
set_option maxRecDepth 100000 in
set_option maxHeartbeats 4000000 in
theorem ctX7_isIn (l : Launch) (D : va_G) (cA : Nat → ClassId) : zCt false l D cA yX7_isIn cX7_isIn 2 (some .boolean) rmX7_isIn spX7_isIn := by
  refine zct_D (zCX7_isIn []) zpX7_isIn [] (by decide +kernel) zkX7_isIn (Or.inr (by decide +kernel)) trivial ⟨by decide +kernel, by decide +kernel⟩ (fun x ad => Nat.le_of_ble_eq_true rfl) ?_ ?_
  · intro p e s m args below meth c A H0 ad0 n0 Q F hml hNw hA hX
    exact trivial
  · rintro ⟨a, v, μ⟩ Ret hP hK Gl hG
    try dsimp only at hP hK
    show Gl 0 (zent 2 [.int a, .int v]) [] (0, 0) (μ)
    refine hG 40 _ _ _ _ _ ?_
    conv => whnf
    refine ⟨fun h => ?_, fun h => ?_⟩
    · conv => whnf
      rw [if_pos h] at hK
      exact ⟨rfl, hK⟩
    · conv => whnf
      rw [if_neg h] at hK
      exact ⟨rfl, hK⟩
def spX7_isPartIn : zSp := zD (X := Int64 × Int32 × zM) (fun x => match x with | (a, v, μ) => [.long a, .int v]) (fun x => match x with | (a, v, μ) => μ) (fun x => match x with | (a, v, μ) => True) (fun x => match x with | (a, v, μ) => some (.int (if (a >>> (v.toInt64 &&& 63)) &&& 1 = 0 then 0 else 1))) (fun x => match x with | (a, v, μ) => μ)
abbrev rmX7_isPartIn : Room := ({ frames := 0, cells := 0, slots := 0, locals := 0 } : Room)
set_option maxRecDepth 100000 in
set_option maxHeartbeats 4000000 in
theorem ctX7_isPartIn (l : Launch) (D : va_G) (cA : Nat → ClassId) : zCt false l D cA yX7_isPartIn cX7_isPartIn 3 (some .boolean) rmX7_isPartIn spX7_isPartIn := by
  refine zct_D (zCX7_isPartIn []) zpX7_isPartIn [] (by decide +kernel) zkX7_isPartIn (Or.inr (by decide +kernel)) trivial ⟨by decide +kernel, by decide +kernel⟩ (fun x ad => Nat.le_of_ble_eq_true rfl) ?_ ?_
  · intro p e s m args below meth c A H0 ad0 n0 Q F hml hNw hA hX
    exact trivial
  · rintro ⟨a, v, μ⟩ Ret hP hK Gl hG
    try dsimp only at hP hK
    show Gl 0 (zent 3 [.long a, .int v]) [] (0, 0) (μ)
    refine hG 40 _ _ _ _ _ ?_
    conv => whnf
    refine ⟨fun h => ?_, fun h => ?_⟩
    · conv => whnf
      rw [if_pos ((lg_cmp_eq _ _).mp h)] at hK
      exact ⟨rfl, hK⟩
    · conv => whnf
      rw [if_neg (fun q => h ((lg_cmp_eq _ _).mpr q))] at hK
      exact ⟨rfl, hK⟩
def spX7_isUnitExponent : zSp := zD (X := Int32 × zM) (fun x => match x with | (a, μ) => [.int a]) (fun x => match x with | (a, μ) => μ) (fun x => match x with | (a, μ) => True) (fun x => match x with | (a, μ) => some (.int (if -3 ≤ a ∧ a ≤ 3 then 1 else 0))) (fun x => match x with | (a, μ) => μ)
abbrev rmX7_isUnitExponent : Room := ({ frames := 0, cells := 0, slots := 0, locals := 0 } : Room)
set_option maxRecDepth 100000 in
set_option maxHeartbeats 4000000 in
theorem ctX7_isUnitExponent (l : Launch) (D : va_G) (cA : Nat → ClassId) : zCt false l D cA yX7_isUnitExponent cX7_isUnitExponent 1 (some .boolean) rmX7_isUnitExponent spX7_isUnitExponent := by
  refine zct_D (zCX7_isUnitExponent []) zpX7_isUnitExponent [] (by decide +kernel) zkX7_isUnitExponent (Or.inr (by decide +kernel)) trivial ⟨by decide +kernel, by decide +kernel⟩ (fun x ad => Nat.le_of_ble_eq_true rfl) ?_ ?_
  · intro p e s m args below meth c A H0 ad0 n0 Q F hml hNw hA hX
    exact trivial
  · rintro ⟨a, μ⟩ Ret hP hK Gl hG
    try dsimp only at hP hK
    show Gl 0 (zent 1 [.int a]) [] (0, 0) (μ)
    refine hG 40 _ _ _ _ _ ?_
    conv => whnf
    refine ⟨fun h => ?_, fun h => ?_⟩
    · conv => whnf
      rw [if_neg (fun q => Int32.not_le.mpr h q.1)] at hK
      exact ⟨rfl, hK⟩
    · conv => whnf
      refine ⟨fun h2 => ?_, fun h2 => ?_⟩
      · conv => whnf
        rw [if_neg (fun q => Int32.not_le.mpr h2 q.2)] at hK
        exact ⟨rfl, hK⟩
      · conv => whnf
        rw [if_pos ⟨Int32.not_lt.mp h, Int32.not_lt.mp h2⟩] at hK
        exact ⟨rfl, hK⟩
def spX6_isInput : zSp := zD (X := zIn × zLo × Int32) (fun x => match x with | (σ, τ, v) => [.ref 86, .int v]) (fun x => match x with | (σ, τ, v) => (119, zSH, zRH, σ, τ)) (fun x => match x with | (σ, τ, v) => vp_in v 16) (fun x => match x with | (σ, τ, v) => some (.int (if σ 88 v.toNatClampNeg < 0 then 1 else 0))) (fun x => match x with | (σ, τ, v) => (119, zSH, zRH, σ, τ))
abbrev rmX6_isInput : Room := ({ frames := 0, cells := 0, slots := 0, locals := 0 } : Room)
set_option maxRecDepth 100000 in
set_option maxHeartbeats 4000000 in
theorem ctX6_isInput (l : Launch) (D : va_G) (cA : Nat → ClassId) : zCt false l D cA yX6_isInput cX6_isInput 2 (some .boolean) rmX6_isInput spX6_isInput := by
  refine zct_D (zCX6_isInput []) zpX6_isInput [] (by decide +kernel) zkX6_isInput (Or.inr (by decide +kernel)) trivial ⟨by decide +kernel, by decide +kernel⟩ (fun x ad => Nat.le_of_ble_eq_true rfl) ?_ ?_
  · intro p e s m args below meth c A H0 ad0 n0 Q F hml hNw hA hX
    exact trivial
  · rintro ⟨σ, τ, v⟩ Ret hP hK Gl hG
    try dsimp only at hP hK
    show Gl 0 (zent 2 [.ref 86, .int v]) [] (0, 0) ((119, zSH, zRH, σ, τ))
    refine hG 40 _ _ _ _ _ ?_
    conv => whnf
    refine ⟨hP, ?_⟩
    conv => whnf
    refine ⟨fun h => ?_, fun h => ?_⟩
    · conv => whnf
      rw [if_neg (Int32.not_lt.mpr h)] at hK
      exact ⟨rfl, hK⟩
    · conv => whnf
      rw [if_pos (Int32.not_le.mp h)] at hK
      exact ⟨rfl, hK⟩
def spX6_has : zSp := zD (X := zIn × zLo × Int32) (fun x => match x with | (σ, τ, v) => [.ref 86, .int v]) (fun x => match x with | (σ, τ, v) => (119, zSH, zRH, σ, τ)) (fun x => match x with | (σ, τ, v) => True) (fun x => match x with | (σ, τ, v) => some (.int (if 0 ≤ v ∧ v < σ 86 3 then 1 else 0))) (fun x => match x with | (σ, τ, v) => (119, zSH, zRH, σ, τ))
abbrev rmX6_has : Room := ({ frames := 0, cells := 0, slots := 0, locals := 0 } : Room)
set_option maxRecDepth 100000 in
set_option maxHeartbeats 4000000 in
theorem ctX6_has (l : Launch) (D : va_G) (cA : Nat → ClassId) : zCt false l D cA yX6_has cX6_has 2 (some .boolean) rmX6_has spX6_has := by
  refine zct_D (zCX6_has []) zpX6_has [] (by decide +kernel) zkX6_has (Or.inr (by decide +kernel)) trivial ⟨by decide +kernel, by decide +kernel⟩ (fun x ad => Nat.le_of_ble_eq_true rfl) ?_ ?_
  · intro p e s m args below meth c A H0 ad0 n0 Q F hml hNw hA hX
    exact trivial
  · rintro ⟨σ, τ, v⟩ Ret hP hK Gl hG
    try dsimp only at hP hK
    show Gl 0 (zent 2 [.ref 86, .int v]) [] (0, 0) ((119, zSH, zRH, σ, τ))
    refine hG 40 _ _ _ _ _ ?_
    conv => whnf
    refine ⟨fun h => ?_, fun h => ?_⟩
    · conv => whnf
      rw [if_neg (fun q => Int32.not_le.mpr h q.1)] at hK
      exact ⟨rfl, hK⟩
    · conv => whnf
      refine ⟨fun h2 => ?_, fun h2 => ?_⟩
      · conv => whnf
        rw [if_neg (fun q => Int32.not_lt.mpr h2 q.2)] at hK
        exact ⟨rfl, hK⟩
      · conv => whnf
        rw [if_pos ⟨Int32.not_lt.mp h, Int32.not_le.mp h2⟩] at hK
        exact ⟨rfl, hK⟩
/-! Units, Parts: what is read -/
def fWo (σ : zIn) (n : Int32) (u : Int32) : Int32 := fKept (n.toInt64 * (σ 15 u.toNatClampNeg).toInt64 / (σ 16 u.toNatClampNeg).toInt64)
theorem zRH_ue : ∀ k, k < 12 → zRH 2 k = some (3 + k) := by decide +kernel
theorem zSH_ue : ∀ k, k < 12 → zSH (3 + k) = (100, 4) := by decide +kernel
theorem zRH_pe : ∀ k, k < 60 → zRH 22 k = some (23 + k) := by decide +kernel
theorem zSH_pe : ∀ k, k < 60 → zSH (23 + k) = (100, 4) := by decide +kernel
theorem zRH_cs : ∀ k, k < 4 → zRH 113 k = some (114 + k) := by decide +kernel
theorem zSH_cs : ∀ k, k < 4 → zSH (114 + k) = (100, 16) := by decide +kernel
theorem vp_lt {i : Int32} {n : Nat} (h : vp_in i n) : i.toNatClampNeg < n := Nat.not_le.mp fun q => h (Or.inr q)
def spX5_has : zSp := zD (X := zIn × zLo × Int32) (fun x => match x with | (σ, τ, v) => [.ref 1, .int v]) (fun x => match x with | (σ, τ, v) => (119, zSH, zRH, σ, τ)) (fun x => match x with | (σ, τ, v) => True) (fun x => match x with | (σ, τ, v) => some (.int (if 0 ≤ v ∧ v < σ 1 3 then 1 else 0))) (fun x => match x with | (σ, τ, v) => (119, zSH, zRH, σ, τ))
abbrev rmX5_has : Room := ({ frames := 0, cells := 0, slots := 0, locals := 0 } : Room)
set_option maxRecDepth 100000 in
set_option maxHeartbeats 4000000 in
theorem ctX5_has (l : Launch) (D : va_G) (cA : Nat → ClassId) : zCt false l D cA yX5_has cX5_has 2 (some .boolean) rmX5_has spX5_has := by
  refine zct_D (zCX5_has []) zpX5_has [] (by decide +kernel) zkX5_has (Or.inr (by decide +kernel)) trivial ⟨by decide +kernel, by decide +kernel⟩ (fun x ad => Nat.le_of_ble_eq_true rfl) ?_ ?_
  · intro p e s m args below meth c A H0 ad0 n0 Q F hml hNw hA hX
    exact trivial
  · rintro ⟨σ, τ, v⟩ Ret hP hK Gl hG
    try dsimp only at hP hK
    show Gl 0 (zent 2 [.ref 1, .int v]) [] (0, 0) ((119, zSH, zRH, σ, τ))
    refine hG 40 _ _ _ _ _ ?_
    conv => whnf
    refine ⟨fun h => ?_, fun h => ?_⟩
    · conv => whnf
      rw [if_neg (fun q => Int32.not_le.mpr h q.1)] at hK
      exact ⟨rfl, hK⟩
    · conv => whnf
      refine ⟨fun h2 => ?_, fun h2 => ?_⟩
      · conv => whnf
        rw [if_neg (fun q => Int32.not_lt.mpr h2 q.2)] at hK
        exact ⟨rfl, hK⟩
      · conv => whnf
        rw [if_pos ⟨Int32.not_lt.mp h, Int32.not_le.mp h2⟩] at hK
        exact ⟨rfl, hK⟩
def spX2_has : zSp := zD (X := zIn × zLo × Int32) (fun x => match x with | (σ, τ, v) => [.ref 17, .int v]) (fun x => match x with | (σ, τ, v) => (119, zSH, zRH, σ, τ)) (fun x => match x with | (σ, τ, v) => True) (fun x => match x with | (σ, τ, v) => some (.int (if 0 ≤ v ∧ v < σ 17 10 then 1 else 0))) (fun x => match x with | (σ, τ, v) => (119, zSH, zRH, σ, τ))
abbrev rmX2_has : Room := ({ frames := 0, cells := 0, slots := 0, locals := 0 } : Room)
set_option maxRecDepth 100000 in
set_option maxHeartbeats 4000000 in
theorem ctX2_has (l : Launch) (D : va_G) (cA : Nat → ClassId) : zCt false l D cA yX2_has cX2_has 2 (some .boolean) rmX2_has spX2_has := by
  refine zct_D (zCX2_has []) zpX2_has [] (by decide +kernel) zkX2_has (Or.inr (by decide +kernel)) trivial ⟨by decide +kernel, by decide +kernel⟩ (fun x ad => Nat.le_of_ble_eq_true rfl) ?_ ?_
  · intro p e s m args below meth c A H0 ad0 n0 Q F hml hNw hA hX
    exact trivial
  · rintro ⟨σ, τ, v⟩ Ret hP hK Gl hG
    try dsimp only at hP hK
    show Gl 0 (zent 2 [.ref 17, .int v]) [] (0, 0) ((119, zSH, zRH, σ, τ))
    refine hG 40 _ _ _ _ _ ?_
    conv => whnf
    refine ⟨fun h => ?_, fun h => ?_⟩
    · conv => whnf
      rw [if_neg (fun q => Int32.not_le.mpr h q.1)] at hK
      exact ⟨rfl, hK⟩
    · conv => whnf
      refine ⟨fun h2 => ?_, fun h2 => ?_⟩
      · conv => whnf
        rw [if_neg (fun q => Int32.not_lt.mpr h2 q.2)] at hK
        exact ⟨rfl, hK⟩
      · conv => whnf
        rw [if_pos ⟨Int32.not_lt.mp h, Int32.not_le.mp h2⟩] at hK
        exact ⟨rfl, hK⟩
def spX5_withoutUnit : zSp := zD (X := zIn × zLo × Int32 × Int32) (fun x => match x with | (σ, τ, n, u) => [.ref 1, .int n, .int u]) (fun x => match x with | (σ, τ, n, u) => (119, zSH, zRH, σ, τ)) (fun x => match x with | (σ, τ, n, u) => vp_in u 12 ∧ ¬ (σ 16 u.toNatClampNeg).toInt64 = 0) (fun x => match x with | (σ, τ, n, u) => some (.int (fWo σ n u))) (fun x => match x with | (σ, τ, n, u) => (119, zSH, zRH, σ, τ))
abbrev rmX5_withoutUnit : Room := ({ frames := 1, cells := 0, slots := 0, locals := 21 } : Room)
set_option maxRecDepth 100000 in
set_option maxHeartbeats 4000000 in
theorem ctX5_withoutUnit (l : Launch) (D : va_G) (cA : Nat → ClassId) : zCt false l D cA yX5_withoutUnit cX5_withoutUnit 3 (some .int) rmX5_withoutUnit spX5_withoutUnit := by
  refine zct_D (zCX5_withoutUnit [(27, 1, 1, spX7_kept, rmX7_kept.cells, rmX7_kept.slots)]) zpX5_withoutUnit [] (by decide +kernel) zkX5_withoutUnit (Or.inr (by decide +kernel)) trivial ⟨by decide +kernel, by decide +kernel⟩ (fun x ad => Nat.le_of_ble_eq_true rfl) ?_ ?_
  · intro p e s m args below meth c A H0 ad0 n0 Q F hml hNw hA hX
    exact ⟨zco_SN hX hA F hml hNw (ctX7_kept l D cA) ⟨⟨zlX5_withoutUnit_27, zwX7_kept.1⟩, zwX7_kept.2⟩ zdX7_kept ⟨Nat.le_of_ble_eq_true rfl, Nat.le_of_ble_eq_true rfl⟩, trivial⟩
  · rintro ⟨σ, τ, n, u⟩ Ret hP hK Gl hG
    try dsimp only at hP hK
    show Gl 0 (zent 3 [.ref 1, .int n, .int u]) [] (0, 0) ((119, zSH, zRH, σ, τ))
    refine hG 40 _ _ _ _ _ ?_
    conv => whnf
    refine ⟨hP.1, ?_⟩
    conv => whnf
    refine ⟨hP.1, ?_⟩
    conv => whnf
    refine ⟨hP.2, ?_⟩
    conv => whnf
    refine ⟨⟨Nat.le_of_ble_eq_true rfl, Nat.le_of_ble_eq_true rfl⟩, ?_⟩
    conv => whnf
    refine ⟨rfl, ⟨_, _⟩, rfl, rfl, trivial, ?_⟩
    dsimp only
    conv => whnf
    exact hK
def spX2_exponentOf : zSp := zD (X := zIn × zLo × Int32 × Int32) (fun x => match x with | (σ, τ, i, d) => [.ref 17, .int i, .int d]) (fun x => match x with | (σ, τ, i, d) => (119, zSH, zRH, σ, τ)) (fun x => match x with | (σ, τ, i, d) => vp_in i 60 ∧ vp_in d 4) (fun x => match x with | (σ, τ, i, d) => some (.int (if (τ 17 8 >>> (i.toInt64 &&& 63)) &&& 1 = 0 then 99 else σ (23 + i.toNatClampNeg) d.toNatClampNeg))) (fun x => match x with | (σ, τ, i, d) => (119, zSH, zRH, σ, τ))
abbrev rmX2_exponentOf : Room := ({ frames := 1, cells := 0, slots := 0, locals := 22 } : Room)
set_option maxRecDepth 100000 in
set_option maxHeartbeats 4000000 in
theorem ctX2_exponentOf (l : Launch) (D : va_G) (cA : Nat → ClassId) : zCt false l D cA yX2_exponentOf cX2_exponentOf 3 (some .int) rmX2_exponentOf spX2_exponentOf := by
  refine zct_D (zCX2_exponentOf [(53, 1, 2, spX7_isPartIn, rmX7_isPartIn.cells, rmX7_isPartIn.slots)]) zpX2_exponentOf [] (by decide +kernel) zkX2_exponentOf (Or.inr (by decide +kernel)) trivial ⟨by decide +kernel, by decide +kernel⟩ (fun x ad => Nat.le_of_ble_eq_true rfl) ?_ ?_
  · intro p e s m args below meth c A H0 ad0 n0 Q F hml hNw hA hX
    exact ⟨zco_SN hX hA F hml hNw (ctX7_isPartIn l D cA) ⟨⟨zlX2_exponentOf_53, zwX7_isPartIn.1⟩, zwX7_isPartIn.2⟩ zdX7_isPartIn ⟨Nat.le_of_ble_eq_true rfl, Nat.le_of_ble_eq_true rfl⟩, trivial⟩
  · rintro ⟨σ, τ, i, d⟩ Ret hP hK Gl hG
    try dsimp only at hP hK
    show Gl 0 (zent 3 [.ref 17, .int i, .int d]) [] (0, 0) ((119, zSH, zRH, σ, τ))
    refine hG 40 _ _ _ _ _ ?_
    conv => whnf
    refine ⟨⟨Nat.le_of_ble_eq_true rfl, Nat.le_of_ble_eq_true rfl⟩, ?_⟩
    conv => whnf
    refine ⟨rfl, ⟨_, _, _⟩, rfl, rfl, trivial, ?_⟩
    dsimp only
    conv => whnf
    refine ⟨fun h => ?_, fun h => ?_⟩
    · conv => whnf
      by_cases e : (τ 17 8 >>> (i.toInt64 &&& 63)) &&& 1 = 0
      · rw [if_pos e] at hK
        exact hK
      · rw [if_neg e] at h
        cases h
    · conv => whnf
      refine ⟨hP.1, ?_⟩
      dsimp only
      rw [zRH_pe _ (vp_lt hP.1)]
      conv => whnf
      dsimp only
      rw [zSH_pe _ (vp_lt hP.1)]
      conv => whnf
      refine ⟨hP.2, ?_⟩
      conv => whnf
      by_cases e : (τ 17 8 >>> (i.toInt64 &&& 63)) &&& 1 = 0
      · rw [if_pos e] at h
        exact absurd rfl h
      · rw [if_neg e] at hK
        exact hK

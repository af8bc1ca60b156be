/-! ===== the refusals ===== -/
def spX7_needVariable : zSp := zD (X := zIn × zLo × Int32) (fun x => match x with | (σ, τ, v) => [.ref 0, .int v]) (fun x => match x with | (σ, τ, v) => (145, zSH, zRH, σ, τ)) (fun x => match x with | (σ, τ, v) => True) (fun x => match x with | (σ, τ, v) => (if 0 ≤ v ∧ v < σ 86 3 then none else some (.float 0))) (fun x => match x with | (σ, τ, v) => (145, zSH, zRH, σ, τ))
abbrev rmX7_needVariable : Room := ({ frames := 6, cells := 1, slots := 6, locals := 81 } : Room)
set_option maxRecDepth 100000 in
set_option maxHeartbeats 4000000 in
theorem ctX7_needVariable (l : Launch) (hlt : l.stackTraces = false) (D : va_G) (cA : Nat → ClassId) : zCtX false l D cA yX7_needVariable cX7_needVariable 2 (none) rmX7_needVariable spX7_needVariable := by
  refine zct_DX (zCX7_needVariable [(309, 0, 1, spX6_has, rmX6_has.cells, rmX6_has.slots)]) zpX7_needVariable [] (by decide +kernel) zkX7_needVariable (Or.inr (by decide +kernel)) trivial ⟨by decide +kernel, by decide +kernel⟩ hlt ⟨by decide, by decide⟩ (fun x ad => Nat.le_of_ble_eq_true rfl) ?_ ?_
  · intro p e s m args below meth c A H0 ad0 n0 Q F hml hNw hA hX
    exact ⟨zco_V hX hA F hml hNw (ctX6_has l D cA) ⟨⟨zlX7_needVariable_309, zwX6_has.1.1, zwX6_has.1.2⟩, zwX6_has.2⟩ zdX6_has ⟨Nat.le_of_ble_eq_true rfl, Nat.le_of_ble_eq_true rfl⟩ (ci := 6) (by decide) rfl (by rintro av μ K ⟨x, rfl, rfl, -⟩; exact ⟨_, _, rfl, rfl⟩), trivial⟩
  · rintro ⟨σ, τ, v⟩ Ret hP hK Gl hG
    try dsimp only at hP hK
    show Gl 0 (zent 2 [.ref 0, .int v]) [] (0, 0) ((145, zSH, zRH, σ, τ))
    refine hG 40 _ _ _ _ _ ?_
    conv => whnf
    refine ⟨⟨Nat.le_of_ble_eq_true rfl, Nat.le_of_ble_eq_true rfl⟩, ?_⟩
    conv => whnf
    refine ⟨rfl, (σ, τ, v), rfl, rfl, trivial, ?_⟩
    dsimp only
    conv => whnf
    refine ⟨fun h => ?_, fun h => ?_⟩
    · conv => whnf
      split at hK
      · exact hK
      · rename_i hc; exact absurd (if_neg hc) h
    · conv => whnf
      split at hK
      · rename_i hc; rw [if_pos hc] at h; exact absurd h (by decide)
      · exact ⟨⟨by decide, by decide⟩, hK⟩
def spX7_needUnit : zSp := zD (X := zIn × zLo × Int32) (fun x => match x with | (σ, τ, v) => [.ref 0, .int v]) (fun x => match x with | (σ, τ, v) => (145, zSH, zRH, σ, τ)) (fun x => match x with | (σ, τ, v) => True) (fun x => match x with | (σ, τ, v) => (if 0 ≤ v ∧ v < σ 1 3 then none else some (.float 0))) (fun x => match x with | (σ, τ, v) => (145, zSH, zRH, σ, τ))
abbrev rmX7_needUnit : Room := ({ frames := 6, cells := 1, slots := 6, locals := 81 } : Room)
set_option maxRecDepth 100000 in
set_option maxHeartbeats 4000000 in
theorem ctX7_needUnit (l : Launch) (hlt : l.stackTraces = false) (D : va_G) (cA : Nat → ClassId) : zCtX false l D cA yX7_needUnit cX7_needUnit 2 (none) rmX7_needUnit spX7_needUnit := by
  refine zct_DX (zCX7_needUnit [(306, 0, 1, spX5_has, rmX5_has.cells, rmX5_has.slots)]) zpX7_needUnit [] (by decide +kernel) zkX7_needUnit (Or.inr (by decide +kernel)) trivial ⟨by decide +kernel, by decide +kernel⟩ hlt ⟨by decide, by decide⟩ (fun x ad => Nat.le_of_ble_eq_true rfl) ?_ ?_
  · intro p e s m args below meth c A H0 ad0 n0 Q F hml hNw hA hX
    exact ⟨zco_V hX hA F hml hNw (ctX5_has l D cA) ⟨⟨zlX7_needUnit_306, zwX5_has.1.1, zwX5_has.1.2⟩, zwX5_has.2⟩ zdX5_has ⟨Nat.le_of_ble_eq_true rfl, Nat.le_of_ble_eq_true rfl⟩ (ci := 5) (by decide) rfl (by rintro av μ K ⟨x, rfl, rfl, -⟩; exact ⟨_, _, rfl, rfl⟩), trivial⟩
  · rintro ⟨σ, τ, v⟩ Ret hP hK Gl hG
    try dsimp only at hP hK
    show Gl 0 (zent 2 [.ref 0, .int v]) [] (0, 0) ((145, zSH, zRH, σ, τ))
    refine hG 40 _ _ _ _ _ ?_
    conv => whnf
    refine ⟨⟨Nat.le_of_ble_eq_true rfl, Nat.le_of_ble_eq_true rfl⟩, ?_⟩
    conv => whnf
    refine ⟨rfl, (σ, τ, v), rfl, rfl, trivial, ?_⟩
    dsimp only
    conv => whnf
    refine ⟨fun h => ?_, fun h => ?_⟩
    · conv => whnf
      split at hK
      · exact hK
      · rename_i hc; exact absurd (if_neg hc) h
    · conv => whnf
      split at hK
      · rename_i hc; rw [if_pos hc] at h; exact absurd h (by decide)
      · exact ⟨⟨by decide, by decide⟩, hK⟩
def spX7_needPart : zSp := zD (X := zIn × zLo × Int32) (fun x => match x with | (σ, τ, v) => [.ref 0, .int v]) (fun x => match x with | (σ, τ, v) => (145, zSH, zRH, σ, τ)) (fun x => match x with | (σ, τ, v) => True) (fun x => match x with | (σ, τ, v) => (if 0 ≤ v ∧ v < σ 17 10 then none else some (.float 0))) (fun x => match x with | (σ, τ, v) => (145, zSH, zRH, σ, τ))
abbrev rmX7_needPart : Room := ({ frames := 6, cells := 1, slots := 6, locals := 81 } : Room)
set_option maxRecDepth 100000 in
set_option maxHeartbeats 4000000 in
theorem ctX7_needPart (l : Launch) (hlt : l.stackTraces = false) (D : va_G) (cA : Nat → ClassId) : zCtX false l D cA yX7_needPart cX7_needPart 2 (none) rmX7_needPart spX7_needPart := by
  refine zct_DX (zCX7_needPart [(310, 0, 1, spX2_has, rmX2_has.cells, rmX2_has.slots)]) zpX7_needPart [] (by decide +kernel) zkX7_needPart (Or.inr (by decide +kernel)) trivial ⟨by decide +kernel, by decide +kernel⟩ hlt ⟨by decide, by decide⟩ (fun x ad => Nat.le_of_ble_eq_true rfl) ?_ ?_
  · intro p e s m args below meth c A H0 ad0 n0 Q F hml hNw hA hX
    exact ⟨zco_V hX hA F hml hNw (ctX2_has l D cA) ⟨⟨zlX7_needPart_310, zwX2_has.1.1, zwX2_has.1.2⟩, zwX2_has.2⟩ zdX2_has ⟨Nat.le_of_ble_eq_true rfl, Nat.le_of_ble_eq_true rfl⟩ (ci := 2) (by decide) rfl (by rintro av μ K ⟨x, rfl, rfl, -⟩; exact ⟨_, _, rfl, rfl⟩), trivial⟩
  · rintro ⟨σ, τ, v⟩ Ret hP hK Gl hG
    try dsimp only at hP hK
    show Gl 0 (zent 2 [.ref 0, .int v]) [] (0, 0) ((145, zSH, zRH, σ, τ))
    refine hG 40 _ _ _ _ _ ?_
    conv => whnf
    refine ⟨⟨Nat.le_of_ble_eq_true rfl, Nat.le_of_ble_eq_true rfl⟩, ?_⟩
    conv => whnf
    refine ⟨rfl, (σ, τ, v), rfl, rfl, trivial, ?_⟩
    dsimp only
    conv => whnf
    refine ⟨fun h => ?_, fun h => ?_⟩
    · conv => whnf
      split at hK
      · exact hK
      · rename_i hc; exact absurd (if_neg hc) h
    · conv => whnf
      split at hK
      · rename_i hc; rw [if_pos hc] at h; exact absurd h (by decide)
      · exact ⟨⟨by decide, by decide⟩, hK⟩
def spX7_needInput : zSp := zD (X := zIn × zLo × Int32) (fun x => match x with | (σ, τ, v) => [.ref 0, .int v]) (fun x => match x with | (σ, τ, v) => (145, zSH, zRH, σ, τ)) (fun x => match x with | (σ, τ, v) => vp_in v 16) (fun x => match x with | (σ, τ, v) => (if σ 88 v.toNatClampNeg < 0 then none else some (.float 2))) (fun x => match x with | (σ, τ, v) => (145, zSH, zRH, σ, τ))
abbrev rmX7_needInput : Room := ({ frames := 6, cells := 1, slots := 6, locals := 81 } : Room)
set_option maxRecDepth 100000 in
set_option maxHeartbeats 4000000 in
theorem ctX7_needInput (l : Launch) (hlt : l.stackTraces = false) (D : va_G) (cA : Nat → ClassId) : zCtX false l D cA yX7_needInput cX7_needInput 2 (none) rmX7_needInput spX7_needInput := by
  refine zct_DX (zCX7_needInput [(244, 0, 1, spX6_isInput, rmX6_isInput.cells, rmX6_isInput.slots)]) zpX7_needInput [] (by decide +kernel) zkX7_needInput (Or.inr (by decide +kernel)) trivial ⟨by decide +kernel, by decide +kernel⟩ hlt ⟨by decide, by decide⟩ (fun x ad => Nat.le_of_ble_eq_true rfl) ?_ ?_
  · intro p e s m args below meth c A H0 ad0 n0 Q F hml hNw hA hX
    exact ⟨zco_V hX hA F hml hNw (ctX6_isInput l D cA) ⟨⟨zlX7_needInput_244, zwX6_isInput.1.1, zwX6_isInput.1.2⟩, zwX6_isInput.2⟩ zdX6_isInput ⟨Nat.le_of_ble_eq_true rfl, Nat.le_of_ble_eq_true rfl⟩ (ci := 6) (by decide) rfl (by rintro av μ K ⟨x, rfl, rfl, -⟩; exact ⟨_, _, rfl, rfl⟩), trivial⟩
  · rintro ⟨σ, τ, v⟩ Ret hP hK Gl hG
    try dsimp only at hP hK
    show Gl 0 (zent 2 [.ref 0, .int v]) [] (0, 0) ((145, zSH, zRH, σ, τ))
    refine hG 40 _ _ _ _ _ ?_
    conv => whnf
    refine ⟨⟨Nat.le_of_ble_eq_true rfl, Nat.le_of_ble_eq_true rfl⟩, ?_⟩
    conv => whnf
    refine ⟨rfl, (σ, τ, v), rfl, rfl, hP, ?_⟩
    dsimp only
    conv => whnf
    refine ⟨fun h => ?_, fun h => ?_⟩
    · conv => whnf
      split at hK
      · exact hK
      · rename_i hc; exact absurd (if_neg hc) h
    · conv => whnf
      split at hK
      · rename_i hc; rw [if_pos hc] at h; exact absurd h (by decide)
      · exact ⟨⟨by decide, by decide⟩, hK⟩
def spX7_needPlace : zSp := zD (X := zIn × zLo × Int32) (fun x => match x with | (σ, τ, v) => [.ref 0, .int v]) (fun x => match x with | (σ, τ, v) => (145, zSH, zRH, σ, τ)) (fun x => match x with | (σ, τ, v) => True) (fun x => match x with | (σ, τ, v) => (if 0 ≤ v ∧ v < 4 then none else some (.float 0))) (fun x => match x with | (σ, τ, v) => (145, zSH, zRH, σ, τ))
abbrev rmX7_needPlace : Room := ({ frames := 6, cells := 1, slots := 6, locals := 81 } : Room)
set_option maxRecDepth 100000 in
set_option maxHeartbeats 4000000 in
theorem ctX7_needPlace (l : Launch) (hlt : l.stackTraces = false) (D : va_G) (cA : Nat → ClassId) : zCtX false l D cA yX7_needPlace cX7_needPlace 2 (none) rmX7_needPlace spX7_needPlace := by
  refine zct_DX (zCX7_needPlace []) zpX7_needPlace [] (by decide +kernel) zkX7_needPlace (Or.inr (by decide +kernel)) trivial ⟨by decide +kernel, by decide +kernel⟩ hlt ⟨by decide, by decide⟩ (fun x ad => Nat.le_of_ble_eq_true rfl) ?_ ?_
  · intro p e s m args below meth c A H0 ad0 n0 Q F hml hNw hA hX
    exact trivial
  · rintro ⟨σ, τ, v⟩ Ret hP hK Gl hG
    try dsimp only at hP hK
    show Gl 0 (zent 2 [.ref 0, .int v]) [] (0, 0) ((145, zSH, zRH, σ, τ))
    refine hG 40 _ _ _ _ _ ?_
    conv => whnf
    refine ⟨fun h => ?_, fun h => ?_⟩
    · conv => whnf
      rw [if_neg (fun q => Int32.not_le.mpr h q.1)] at hK
      exact ⟨⟨by decide, by decide⟩, hK⟩
    · conv => whnf
      refine ⟨fun h2 => ?_, fun h2 => ?_⟩
      · conv => whnf
        rw [if_pos ⟨Int32.not_lt.mp h, h2⟩] at hK
        exact hK
      · conv => whnf
        rw [if_neg (fun q => h2 q.2)] at hK
        exact ⟨⟨by decide, by decide⟩, hK⟩
def spX7_needAmount : zSp := zD (X := zIn × zLo × Int32) (fun x => match x with | (σ, τ, v) => [.ref 0, .int v]) (fun x => match x with | (σ, τ, v) => (145, zSH, zRH, σ, τ)) (fun x => match x with | (σ, τ, v) => True) (fun x => match x with | (σ, τ, v) => (if -1000000000 ≤ v ∧ v ≤ 1000000000 then none else some (.float 1))) (fun x => match x with | (σ, τ, v) => (145, zSH, zRH, σ, τ))
abbrev rmX7_needAmount : Room := ({ frames := 6, cells := 1, slots := 6, locals := 81 } : Room)
set_option maxRecDepth 100000 in
set_option maxHeartbeats 4000000 in
theorem ctX7_needAmount (l : Launch) (hlt : l.stackTraces = false) (D : va_G) (cA : Nat → ClassId) : zCtX false l D cA yX7_needAmount cX7_needAmount 2 (none) rmX7_needAmount spX7_needAmount := by
  refine zct_DX (zCX7_needAmount []) zpX7_needAmount [] (by decide +kernel) zkX7_needAmount (Or.inr (by decide +kernel)) trivial ⟨by decide +kernel, by decide +kernel⟩ hlt ⟨by decide, by decide⟩ (fun x ad => Nat.le_of_ble_eq_true rfl) ?_ ?_
  · intro p e s m args below meth c A H0 ad0 n0 Q F hml hNw hA hX
    exact trivial
  · rintro ⟨σ, τ, v⟩ Ret hP hK Gl hG
    try dsimp only at hP hK
    show Gl 0 (zent 2 [.ref 0, .int v]) [] (0, 0) ((145, zSH, zRH, σ, τ))
    refine hG 40 _ _ _ _ _ ?_
    conv => whnf
    refine ⟨fun h => ?_, fun h => ?_⟩
    · conv => whnf
      rw [if_neg (fun q => Int32.not_le.mpr h q.1)] at hK
      exact ⟨⟨by decide, by decide⟩, hK⟩
    · conv => whnf
      refine ⟨fun h2 => ?_, fun h2 => ?_⟩
      · conv => whnf
        rw [if_pos ⟨Int32.not_lt.mp h, h2⟩] at hK
        exact hK
      · conv => whnf
        rw [if_neg (fun q => h2 q.2)] at hK
        exact ⟨⟨by decide, by decide⟩, hK⟩
def spX7_needCase : zSp := zD (X := zIn × zLo × Int32) (fun x => match x with | (σ, τ, v) => [.ref 0, .int v]) (fun x => match x with | (σ, τ, v) => (145, zSH, zRH, σ, τ)) (fun x => match x with | (σ, τ, v) => vp_in v 4) (fun x => match x with | (σ, τ, v) => (if 0 ≤ σ 118 v.toNatClampNeg then none else some (.float 2))) (fun x => match x with | (σ, τ, v) => (145, zSH, zRH, σ, τ))
abbrev rmX7_needCase : Room := ({ frames := 6, cells := 1, slots := 6, locals := 81 } : Room)
set_option maxRecDepth 100000 in
set_option maxHeartbeats 4000000 in
theorem ctX7_needCase (l : Launch) (hlt : l.stackTraces = false) (D : va_G) (cA : Nat → ClassId) : zCtX false l D cA yX7_needCase cX7_needCase 2 (none) rmX7_needCase spX7_needCase := by
  refine zct_DX (zCX7_needCase []) zpX7_needCase [] (by decide +kernel) zkX7_needCase (Or.inr (by decide +kernel)) trivial ⟨by decide +kernel, by decide +kernel⟩ hlt ⟨by decide, by decide⟩ (fun x ad => Nat.le_of_ble_eq_true rfl) ?_ ?_
  · intro p e s m args below meth c A H0 ad0 n0 Q F hml hNw hA hX
    exact trivial
  · rintro ⟨σ, τ, v⟩ Ret hP hK Gl hG
    try dsimp only at hP hK
    show Gl 0 (zent 2 [.ref 0, .int v]) [] (0, 0) ((145, zSH, zRH, σ, τ))
    refine hG 40 _ _ _ _ _ ?_
    conv => whnf
    refine ⟨hP, ?_⟩
    conv => whnf
    refine ⟨fun h => ?_, fun h => ?_⟩
    · conv => whnf
      rw [if_pos h] at hK
      exact hK
    · conv => whnf
      rw [if_neg h] at hK
      exact ⟨⟨by decide, by decide⟩, hK⟩
def spX7_needRoomForPart : zSp := zD (X := zIn × zLo) (fun x => match x with | (σ, τ) => [.ref 0]) (fun x => match x with | (σ, τ) => (145, zSH, zRH, σ, τ)) (fun x => match x with | (σ, τ) => True) (fun x => match x with | (σ, τ) => (if σ 17 10 < 60 then none else some (.float 2))) (fun x => match x with | (σ, τ) => (145, zSH, zRH, σ, τ))
abbrev rmX7_needRoomForPart : Room := ({ frames := 6, cells := 1, slots := 6, locals := 81 } : Room)
set_option maxRecDepth 100000 in
set_option maxHeartbeats 4000000 in
theorem ctX7_needRoomForPart (l : Launch) (hlt : l.stackTraces = false) (D : va_G) (cA : Nat → ClassId) : zCtX false l D cA yX7_needRoomForPart cX7_needRoomForPart 1 (none) rmX7_needRoomForPart spX7_needRoomForPart := by
  refine zct_DX (zCX7_needRoomForPart []) zpX7_needRoomForPart [] (by decide +kernel) zkX7_needRoomForPart (Or.inr (by decide +kernel)) trivial ⟨by decide +kernel, by decide +kernel⟩ hlt ⟨by decide, by decide⟩ (fun x ad => Nat.le_of_ble_eq_true rfl) ?_ ?_
  · intro p e s m args below meth c A H0 ad0 n0 Q F hml hNw hA hX
    exact trivial
  · rintro ⟨σ, τ⟩ Ret hP hK Gl hG
    try dsimp only at hP hK
    show Gl 0 (zent 1 [.ref 0]) [] (0, 0) ((145, zSH, zRH, σ, τ))
    refine hG 40 _ _ _ _ _ ?_
    conv => whnf
    refine ⟨fun h => ?_, fun h => ?_⟩
    · conv => whnf
      rw [if_pos h] at hK
      exact hK
    · conv => whnf
      rw [if_neg h] at hK
      exact ⟨⟨by decide, by decide⟩, hK⟩

/-! ===== a fresh object ===== -/
theorem zno {v : Int32} : ¬ (0 ≤ v ∧ v < 0) := fun q => absurd (Int32.lt_of_le_of_lt q.1 q.2) (by decide)
theorem zin4 {q : Int32} (h : 0 ≤ q ∧ q < 4) : vp_in q 4 := vp_in_iff.mpr ⟨Int32.le_iff_toInt_le.mp h.1, Int32.lt_iff_toInt_lt.mp h.2⟩
theorem zcs4 {q : Int32} (h : 0 ≤ q ∧ q < 4) : ¬ 0 ≤ zs0 118 q.toNatClampNeg := by
  obtain ⟨j, hj, rfl⟩ := vp_in_of (zin4 h) (by decide)
  rcases (show j = 0 ∨ j = 1 ∨ j = 2 ∨ j = 3 by omega) with rfl | rfl | rfl | rfl <;> decide
theorem znoV {v : Int32} : ¬ (0 ≤ v ∧ v < zs0 86 3) := zno
theorem znoP {v : Int32} : ¬ (0 ≤ v ∧ v < zs0 17 10) := zno
def spX7_of : zSp := zD (X := Int32) (fun x => match x with | (v) => [.ref 0, .int v]) (fun x => match x with | (v) => (145, zSH, zRH, zs0, zt0)) (fun x => match x with | (v) => True) (fun x => match x with | (v) => some (.float 0)) (fun x => match x with | (v) => (145, zSH, zRH, zs0, zt0))
abbrev rmX7_of : Room := ({ frames := 7, cells := 1, slots := 6, locals := 102 } : Room)
set_option maxRecDepth 100000 in
set_option maxHeartbeats 4000000 in
theorem ctX7_of (l : Launch) (hlt : l.stackTraces = false) (D : va_G) (cA : Nat → ClassId) : zCtX false l D cA yX7_of cX7_of 3 (some .int) rmX7_of spX7_of := by
  refine zct_DX (zCX7_of [(132, 0, 1, spX7_needVariable, rmX7_needVariable.cells, rmX7_needVariable.slots)]) zpX7_of [] (by decide +kernel) zkX7_of (Or.inr (by decide +kernel)) trivial ⟨by decide +kernel, by decide +kernel⟩ hlt ⟨by decide, by decide⟩ (fun x ad => Nat.le_of_ble_eq_true rfl) ?_ ?_
  · intro p e s m args below meth c A H0 ad0 n0 Q F hml hNw hA hX
    exact ⟨zco_VX hX hA F hml hNw (ctX7_needVariable l hlt D cA) ⟨⟨zlX7_of_132, zwX7_needVariable.1.1, zwX7_needVariable.1.2⟩, zwX7_needVariable.2⟩ zdX7_needVariable ⟨Nat.le_of_ble_eq_true rfl, Nat.le_of_ble_eq_true rfl⟩ (ci := 7) (by decide) rfl (by rintro av μ K ⟨x, rfl, rfl, -⟩; exact ⟨_, _, rfl, rfl⟩), trivial⟩
  · rintro v Ret hP hK Gl hG
    try dsimp only at hP hK
    show Gl 0 (zent 3 [.ref 0, .int v]) [] (0, 0) ((145, zSH, zRH, zs0, zt0))
    refine hG 40 _ _ _ _ _ ?_
    conv => whnf
    refine ⟨⟨Nat.le_of_ble_eq_true rfl, Nat.le_of_ble_eq_true rfl⟩, ?_⟩
    conv => whnf
    refine ⟨rfl, (zs0, zt0, v), rfl, rfl, trivial, ?_⟩
    dsimp only
    conv => whnf
    rw [if_neg znoV]
    conv => whnf
    exact hK
def spX7_define : zSp := zD (X := Int32 × Int32) (fun x => match x with | (v, p) => [.ref 0, .int v, .int p]) (fun x => match x with | (v, p) => (145, zSH, zRH, zs0, zt0)) (fun x => match x with | (v, p) => True) (fun x => match x with | (v, p) => some (.float 0)) (fun x => match x with | (v, p) => (145, zSH, zRH, zs0, zt0))
abbrev rmX7_define : Room := ({ frames := 7, cells := 1, slots := 6, locals := 102 } : Room)
set_option maxRecDepth 100000 in
set_option maxHeartbeats 4000000 in
theorem ctX7_define (l : Launch) (hlt : l.stackTraces = false) (D : va_G) (cA : Nat → ClassId) : zCtX false l D cA yX7_define cX7_define 4 (some .int) rmX7_define spX7_define := by
  refine zct_DX (zCX7_define [(132, 0, 1, spX7_needVariable, rmX7_needVariable.cells, rmX7_needVariable.slots)]) zpX7_define [] (by decide +kernel) zkX7_define (Or.inr (by decide +kernel)) trivial ⟨by decide +kernel, by decide +kernel⟩ hlt ⟨by decide, by decide⟩ (fun x ad => Nat.le_of_ble_eq_true rfl) ?_ ?_
  · intro p e s m args below meth c A H0 ad0 n0 Q F hml hNw hA hX
    exact ⟨zco_VX hX hA F hml hNw (ctX7_needVariable l hlt D cA) ⟨⟨zlX7_define_132, zwX7_needVariable.1.1, zwX7_needVariable.1.2⟩, zwX7_needVariable.2⟩ zdX7_needVariable ⟨Nat.le_of_ble_eq_true rfl, Nat.le_of_ble_eq_true rfl⟩ (ci := 7) (by decide) rfl (by rintro av μ K ⟨x, rfl, rfl, -⟩; exact ⟨_, _, rfl, rfl⟩), trivial⟩
  · rintro ⟨v, p⟩ Ret hP hK Gl hG
    try dsimp only at hP hK
    show Gl 0 (zent 4 [.ref 0, .int v, .int p]) [] (0, 0) ((145, zSH, zRH, zs0, zt0))
    refine hG 40 _ _ _ _ _ ?_
    conv => whnf
    refine ⟨⟨Nat.le_of_ble_eq_true rfl, Nat.le_of_ble_eq_true rfl⟩, ?_⟩
    conv => whnf
    refine ⟨rfl, (zs0, zt0, v), rfl, rfl, trivial, ?_⟩
    dsimp only
    conv => whnf
    rw [if_neg znoV]
    conv => whnf
    exact hK
def spX7_set : zSp := zD (X := Int32 × Int32) (fun x => match x with | (v, n) => [.ref 0, .int v, .int n]) (fun x => match x with | (v, n) => (145, zSH, zRH, zs0, zt0)) (fun x => match x with | (v, n) => True) (fun x => match x with | (v, n) => some (.float 0)) (fun x => match x with | (v, n) => (145, zSH, zRH, zs0, zt0))
abbrev rmX7_set : Room := ({ frames := 7, cells := 1, slots := 6, locals := 102 } : Room)
set_option maxRecDepth 100000 in
set_option maxHeartbeats 4000000 in
theorem ctX7_set (l : Launch) (hlt : l.stackTraces = false) (D : va_G) (cA : Nat → ClassId) : zCtX false l D cA yX7_set cX7_set 3 (some .int) rmX7_set spX7_set := by
  refine zct_DX (zCX7_set [(132, 0, 1, spX7_needVariable, rmX7_needVariable.cells, rmX7_needVariable.slots)]) zpX7_set [] (by decide +kernel) zkX7_set (Or.inr (by decide +kernel)) trivial ⟨by decide +kernel, by decide +kernel⟩ hlt ⟨by decide, by decide⟩ (fun x ad => Nat.le_of_ble_eq_true rfl) ?_ ?_
  · intro p e s m args below meth c A H0 ad0 n0 Q F hml hNw hA hX
    exact ⟨zco_VX hX hA F hml hNw (ctX7_needVariable l hlt D cA) ⟨⟨zlX7_set_132, zwX7_needVariable.1.1, zwX7_needVariable.1.2⟩, zwX7_needVariable.2⟩ zdX7_needVariable ⟨Nat.le_of_ble_eq_true rfl, Nat.le_of_ble_eq_true rfl⟩ (ci := 7) (by decide) rfl (by rintro av μ K ⟨x, rfl, rfl, -⟩; exact ⟨_, _, rfl, rfl⟩), trivial⟩
  · rintro ⟨v, n⟩ Ret hP hK Gl hG
    try dsimp only at hP hK
    show Gl 0 (zent 3 [.ref 0, .int v, .int n]) [] (0, 0) ((145, zSH, zRH, zs0, zt0))
    refine hG 40 _ _ _ _ _ ?_
    conv => whnf
    refine ⟨⟨Nat.le_of_ble_eq_true rfl, Nat.le_of_ble_eq_true rfl⟩, ?_⟩
    conv => whnf
    refine ⟨rfl, (zs0, zt0, v), rfl, rfl, trivial, ?_⟩
    dsimp only
    conv => whnf
    rw [if_neg znoV]
    conv => whnf
    exact hK
def spX7_leansOn : zSp := zD (X := Int32) (fun x => match x with | (v) => [.ref 0, .int v]) (fun x => match x with | (v) => (145, zSH, zRH, zs0, zt0)) (fun x => match x with | (v) => True) (fun x => match x with | (v) => some (.float 0)) (fun x => match x with | (v) => (145, zSH, zRH, zs0, zt0))
abbrev rmX7_leansOn : Room := ({ frames := 7, cells := 1, slots := 6, locals := 102 } : Room)
set_option maxRecDepth 100000 in
set_option maxHeartbeats 4000000 in
theorem ctX7_leansOn (l : Launch) (hlt : l.stackTraces = false) (D : va_G) (cA : Nat → ClassId) : zCtX false l D cA yX7_leansOn cX7_leansOn 2 (some .int) rmX7_leansOn spX7_leansOn := by
  refine zct_DX (zCX7_leansOn [(132, 0, 1, spX7_needVariable, rmX7_needVariable.cells, rmX7_needVariable.slots)]) zpX7_leansOn [] (by decide +kernel) zkX7_leansOn (Or.inr (by decide +kernel)) trivial ⟨by decide +kernel, by decide +kernel⟩ hlt ⟨by decide, by decide⟩ (fun x ad => Nat.le_of_ble_eq_true rfl) ?_ ?_
  · intro p e s m args below meth c A H0 ad0 n0 Q F hml hNw hA hX
    exact ⟨zco_VX hX hA F hml hNw (ctX7_needVariable l hlt D cA) ⟨⟨zlX7_leansOn_132, zwX7_needVariable.1.1, zwX7_needVariable.1.2⟩, zwX7_needVariable.2⟩ zdX7_needVariable ⟨Nat.le_of_ble_eq_true rfl, Nat.le_of_ble_eq_true rfl⟩ (ci := 7) (by decide) rfl (by rintro av μ K ⟨x, rfl, rfl, -⟩; exact ⟨_, _, rfl, rfl⟩), trivial⟩
  · rintro v Ret hP hK Gl hG
    try dsimp only at hP hK
    show Gl 0 (zent 2 [.ref 0, .int v]) [] (0, 0) ((145, zSH, zRH, zs0, zt0))
    refine hG 40 _ _ _ _ _ ?_
    conv => whnf
    refine ⟨⟨Nat.le_of_ble_eq_true rfl, Nat.le_of_ble_eq_true rfl⟩, ?_⟩
    conv => whnf
    refine ⟨rfl, (zs0, zt0, v), rfl, rfl, trivial, ?_⟩
    dsimp only
    conv => whnf
    rw [if_neg znoV]
    conv => whnf
    exact hK
def spX7_amount : zSp := zD (X := Int32) (fun x => match x with | (v) => [.ref 0, .int v]) (fun x => match x with | (v) => (145, zSH, zRH, zs0, zt0)) (fun x => match x with | (v) => True) (fun x => match x with | (v) => some (.float 0)) (fun x => match x with | (v) => (145, zSH, zRH, zs0, zt0))
abbrev rmX7_amount : Room := ({ frames := 7, cells := 1, slots := 6, locals := 102 } : Room)
set_option maxRecDepth 100000 in
set_option maxHeartbeats 4000000 in
theorem ctX7_amount (l : Launch) (hlt : l.stackTraces = false) (D : va_G) (cA : Nat → ClassId) : zCtX false l D cA yX7_amount cX7_amount 2 (some .int) rmX7_amount spX7_amount := by
  refine zct_DX (zCX7_amount [(132, 0, 1, spX7_needVariable, rmX7_needVariable.cells, rmX7_needVariable.slots)]) zpX7_amount [] (by decide +kernel) zkX7_amount (Or.inr (by decide +kernel)) trivial ⟨by decide +kernel, by decide +kernel⟩ hlt ⟨by decide, by decide⟩ (fun x ad => Nat.le_of_ble_eq_true rfl) ?_ ?_
  · intro p e s m args below meth c A H0 ad0 n0 Q F hml hNw hA hX
    exact ⟨zco_VX hX hA F hml hNw (ctX7_needVariable l hlt D cA) ⟨⟨zlX7_amount_132, zwX7_needVariable.1.1, zwX7_needVariable.1.2⟩, zwX7_needVariable.2⟩ zdX7_needVariable ⟨Nat.le_of_ble_eq_true rfl, Nat.le_of_ble_eq_true rfl⟩ (ci := 7) (by decide) rfl (by rintro av μ K ⟨x, rfl, rfl, -⟩; exact ⟨_, _, rfl, rfl⟩), trivial⟩
  · rintro v Ret hP hK Gl hG
    try dsimp only at hP hK
    show Gl 0 (zent 2 [.ref 0, .int v]) [] (0, 0) ((145, zSH, zRH, zs0, zt0))
    refine hG 40 _ _ _ _ _ ?_
    conv => whnf
    refine ⟨⟨Nat.le_of_ble_eq_true rfl, Nat.le_of_ble_eq_true rfl⟩, ?_⟩
    conv => whnf
    refine ⟨rfl, (zs0, zt0, v), rfl, rfl, trivial, ?_⟩
    dsimp only
    conv => whnf
    rw [if_neg znoV]
    conv => whnf
    exact hK
def spX7_amountIn : zSp := zD (X := Int32 × Int32) (fun x => match x with | (v, u) => [.ref 0, .int v, .int u]) (fun x => match x with | (v, u) => (145, zSH, zRH, zs0, zt0)) (fun x => match x with | (v, u) => True) (fun x => match x with | (v, u) => some (.float 0)) (fun x => match x with | (v, u) => (145, zSH, zRH, zs0, zt0))
abbrev rmX7_amountIn : Room := ({ frames := 7, cells := 1, slots := 6, locals := 102 } : Room)
set_option maxRecDepth 100000 in
set_option maxHeartbeats 4000000 in
theorem ctX7_amountIn (l : Launch) (hlt : l.stackTraces = false) (D : va_G) (cA : Nat → ClassId) : zCtX false l D cA yX7_amountIn cX7_amountIn 3 (some .int) rmX7_amountIn spX7_amountIn := by
  refine zct_DX (zCX7_amountIn [(132, 0, 1, spX7_needVariable, rmX7_needVariable.cells, rmX7_needVariable.slots)]) zpX7_amountIn [] (by decide +kernel) zkX7_amountIn (Or.inr (by decide +kernel)) trivial ⟨by decide +kernel, by decide +kernel⟩ hlt ⟨by decide, by decide⟩ (fun x ad => Nat.le_of_ble_eq_true rfl) ?_ ?_
  · intro p e s m args below meth c A H0 ad0 n0 Q F hml hNw hA hX
    exact ⟨zco_VX hX hA F hml hNw (ctX7_needVariable l hlt D cA) ⟨⟨zlX7_amountIn_132, zwX7_needVariable.1.1, zwX7_needVariable.1.2⟩, zwX7_needVariable.2⟩ zdX7_needVariable ⟨Nat.le_of_ble_eq_true rfl, Nat.le_of_ble_eq_true rfl⟩ (ci := 7) (by decide) rfl (by rintro av μ K ⟨x, rfl, rfl, -⟩; exact ⟨_, _, rfl, rfl⟩), trivial⟩
  · rintro ⟨v, u⟩ Ret hP hK Gl hG
    try dsimp only at hP hK
    show Gl 0 (zent 3 [.ref 0, .int v, .int u]) [] (0, 0) ((145, zSH, zRH, zs0, zt0))
    refine hG 40 _ _ _ _ _ ?_
    conv => whnf
    refine ⟨⟨Nat.le_of_ble_eq_true rfl, Nat.le_of_ble_eq_true rfl⟩, ?_⟩
    conv => whnf
    refine ⟨rfl, (zs0, zt0, v), rfl, rfl, trivial, ?_⟩
    dsimp only
    conv => whnf
    rw [if_neg znoV]
    conv => whnf
    exact hK
def spX7_isBroken : zSp := zD (X := Int32) (fun x => match x with | (v) => [.ref 0, .int v]) (fun x => match x with | (v) => (145, zSH, zRH, zs0, zt0)) (fun x => match x with | (v) => True) (fun x => match x with | (v) => some (.float 0)) (fun x => match x with | (v) => (145, zSH, zRH, zs0, zt0))
abbrev rmX7_isBroken : Room := ({ frames := 7, cells := 1, slots := 6, locals := 102 } : Room)
set_option maxRecDepth 100000 in
set_option maxHeartbeats 4000000 in
theorem ctX7_isBroken (l : Launch) (hlt : l.stackTraces = false) (D : va_G) (cA : Nat → ClassId) : zCtX false l D cA yX7_isBroken cX7_isBroken 2 (some .boolean) rmX7_isBroken spX7_isBroken := by
  refine zct_DX (zCX7_isBroken [(132, 0, 1, spX7_needVariable, rmX7_needVariable.cells, rmX7_needVariable.slots)]) zpX7_isBroken [] (by decide +kernel) zkX7_isBroken (Or.inr (by decide +kernel)) trivial ⟨by decide +kernel, by decide +kernel⟩ hlt ⟨by decide, by decide⟩ (fun x ad => Nat.le_of_ble_eq_true rfl) ?_ ?_
  · intro p e s m args below meth c A H0 ad0 n0 Q F hml hNw hA hX
    exact ⟨zco_VX hX hA F hml hNw (ctX7_needVariable l hlt D cA) ⟨⟨zlX7_isBroken_132, zwX7_needVariable.1.1, zwX7_needVariable.1.2⟩, zwX7_needVariable.2⟩ zdX7_needVariable ⟨Nat.le_of_ble_eq_true rfl, Nat.le_of_ble_eq_true rfl⟩ (ci := 7) (by decide) rfl (by rintro av μ K ⟨x, rfl, rfl, -⟩; exact ⟨_, _, rfl, rfl⟩), trivial⟩
  · rintro v Ret hP hK Gl hG
    try dsimp only at hP hK
    show Gl 0 (zent 2 [.ref 0, .int v]) [] (0, 0) ((145, zSH, zRH, zs0, zt0))
    refine hG 40 _ _ _ _ _ ?_
    conv => whnf
    refine ⟨⟨Nat.le_of_ble_eq_true rfl, Nat.le_of_ble_eq_true rfl⟩, ?_⟩
    conv => whnf
    refine ⟨rfl, (zs0, zt0, v), rfl, rfl, trivial, ?_⟩
    dsimp only
    conv => whnf
    rw [if_neg znoV]
    conv => whnf
    exact hK
def spX7_seek : zSp := zD (X := Int32 × Int32 × Int32 × Int32 × Int32) (fun x => match x with | (i, v, g, a, b) => [.ref 0, .int i, .int v, .int g, .int a, .int b]) (fun x => match x with | (i, v, g, a, b) => (145, zSH, zRH, zs0, zt0)) (fun x => match x with | (i, v, g, a, b) => True) (fun x => match x with | (i, v, g, a, b) => some (.float 0)) (fun x => match x with | (i, v, g, a, b) => (145, zSH, zRH, zs0, zt0))
abbrev rmX7_seek : Room := ({ frames := 7, cells := 1, slots := 6, locals := 102 } : Room)
set_option maxRecDepth 100000 in
set_option maxHeartbeats 4000000 in
theorem ctX7_seek (l : Launch) (hlt : l.stackTraces = false) (D : va_G) (cA : Nat → ClassId) : zCtX false l D cA yX7_seek cX7_seek 11 (some .int) rmX7_seek spX7_seek := by
  refine zct_DX (zCX7_seek [(132, 0, 1, spX7_needVariable, rmX7_needVariable.cells, rmX7_needVariable.slots)]) zpX7_seek [] (by decide +kernel) zkX7_seek (Or.inr (by decide +kernel)) trivial ⟨by decide +kernel, by decide +kernel⟩ hlt ⟨by decide, by decide⟩ (fun x ad => Nat.le_of_ble_eq_true rfl) ?_ ?_
  · intro p e s m args below meth c A H0 ad0 n0 Q F hml hNw hA hX
    exact ⟨zco_VX hX hA F hml hNw (ctX7_needVariable l hlt D cA) ⟨⟨zlX7_seek_132, zwX7_needVariable.1.1, zwX7_needVariable.1.2⟩, zwX7_needVariable.2⟩ zdX7_needVariable ⟨Nat.le_of_ble_eq_true rfl, Nat.le_of_ble_eq_true rfl⟩ (ci := 7) (by decide) rfl (by rintro av μ K ⟨x, rfl, rfl, -⟩; exact ⟨_, _, rfl, rfl⟩), trivial⟩
  · rintro ⟨i, v, g, a, b⟩ Ret hP hK Gl hG
    try dsimp only at hP hK
    show Gl 0 (zent 11 [.ref 0, .int i, .int v, .int g, .int a, .int b]) [] (0, 0) ((145, zSH, zRH, zs0, zt0))
    refine hG 40 _ _ _ _ _ ?_
    conv => whnf
    refine ⟨⟨Nat.le_of_ble_eq_true rfl, Nat.le_of_ble_eq_true rfl⟩, ?_⟩
    conv => whnf
    refine ⟨rfl, (zs0, zt0, i), rfl, rfl, trivial, ?_⟩
    dsimp only
    conv => whnf
    rw [if_neg znoV]
    conv => whnf
    exact hK
def spX7_amountWith : zSp := zD (X := Int32 × Int32 × Int32) (fun x => match x with | (i, v, n) => [.ref 0, .int i, .int v, .int n]) (fun x => match x with | (i, v, n) => (145, zSH, zRH, zs0, zt0)) (fun x => match x with | (i, v, n) => True) (fun x => match x with | (i, v, n) => some (.float 0)) (fun x => match x with | (i, v, n) => (145, zSH, zRH, zs0, zt0))
abbrev rmX7_amountWith : Room := ({ frames := 7, cells := 1, slots := 6, locals := 102 } : Room)
set_option maxRecDepth 100000 in
set_option maxHeartbeats 4000000 in
theorem ctX7_amountWith (l : Launch) (hlt : l.stackTraces = false) (D : va_G) (cA : Nat → ClassId) : zCtX false l D cA yX7_amountWith cX7_amountWith 4 (some .int) rmX7_amountWith spX7_amountWith := by
  refine zct_DX (zCX7_amountWith [(132, 0, 1, spX7_needVariable, rmX7_needVariable.cells, rmX7_needVariable.slots)]) zpX7_amountWith [] (by decide +kernel) zkX7_amountWith (Or.inr (by decide +kernel)) trivial ⟨by decide +kernel, by decide +kernel⟩ hlt ⟨by decide, by decide⟩ (fun x ad => Nat.le_of_ble_eq_true rfl) ?_ ?_
  · intro p e s m args below meth c A H0 ad0 n0 Q F hml hNw hA hX
    exact ⟨zco_VX hX hA F hml hNw (ctX7_needVariable l hlt D cA) ⟨⟨zlX7_amountWith_132, zwX7_needVariable.1.1, zwX7_needVariable.1.2⟩, zwX7_needVariable.2⟩ zdX7_needVariable ⟨Nat.le_of_ble_eq_true rfl, Nat.le_of_ble_eq_true rfl⟩ (ci := 7) (by decide) rfl (by rintro av μ K ⟨x, rfl, rfl, -⟩; exact ⟨_, _, rfl, rfl⟩), trivial⟩
  · rintro ⟨i, v, n⟩ Ret hP hK Gl hG
    try dsimp only at hP hK
    show Gl 0 (zent 4 [.ref 0, .int i, .int v, .int n]) [] (0, 0) ((145, zSH, zRH, zs0, zt0))
    refine hG 40 _ _ _ _ _ ?_
    conv => whnf
    refine ⟨⟨Nat.le_of_ble_eq_true rfl, Nat.le_of_ble_eq_true rfl⟩, ?_⟩
    conv => whnf
    refine ⟨rfl, (zs0, zt0, i), rfl, rfl, trivial, ?_⟩
    dsimp only
    conv => whnf
    rw [if_neg znoV]
    conv => whnf
    exact hK
def spX7_slope : zSp := zD (X := Int32 × Int32 × Int32) (fun x => match x with | (i, v, n) => [.ref 0, .int i, .int v, .int n]) (fun x => match x with | (i, v, n) => (145, zSH, zRH, zs0, zt0)) (fun x => match x with | (i, v, n) => True) (fun x => match x with | (i, v, n) => some (.float 0)) (fun x => match x with | (i, v, n) => (145, zSH, zRH, zs0, zt0))
abbrev rmX7_slope : Room := ({ frames := 7, cells := 1, slots := 6, locals := 102 } : Room)
set_option maxRecDepth 100000 in
set_option maxHeartbeats 4000000 in
theorem ctX7_slope (l : Launch) (hlt : l.stackTraces = false) (D : va_G) (cA : Nat → ClassId) : zCtX false l D cA yX7_slope cX7_slope 8 (some .double) rmX7_slope spX7_slope := by
  refine zct_DX (zCX7_slope [(132, 0, 1, spX7_needVariable, rmX7_needVariable.cells, rmX7_needVariable.slots)]) zpX7_slope [] (by decide +kernel) zkX7_slope (Or.inr (by decide +kernel)) trivial ⟨by decide +kernel, by decide +kernel⟩ hlt ⟨by decide, by decide⟩ (fun x ad => Nat.le_of_ble_eq_true rfl) ?_ ?_
  · intro p e s m args below meth c A H0 ad0 n0 Q F hml hNw hA hX
    exact ⟨zco_VX hX hA F hml hNw (ctX7_needVariable l hlt D cA) ⟨⟨zlX7_slope_132, zwX7_needVariable.1.1, zwX7_needVariable.1.2⟩, zwX7_needVariable.2⟩ zdX7_needVariable ⟨Nat.le_of_ble_eq_true rfl, Nat.le_of_ble_eq_true rfl⟩ (ci := 7) (by decide) rfl (by rintro av μ K ⟨x, rfl, rfl, -⟩; exact ⟨_, _, rfl, rfl⟩), trivial⟩
  · rintro ⟨i, v, n⟩ Ret hP hK Gl hG
    try dsimp only at hP hK
    show Gl 0 (zent 8 [.ref 0, .int i, .int v, .int n]) [] (0, 0) ((145, zSH, zRH, zs0, zt0))
    refine hG 40 _ _ _ _ _ ?_
    conv => whnf
    refine ⟨⟨Nat.le_of_ble_eq_true rfl, Nat.le_of_ble_eq_true rfl⟩, ?_⟩
    conv => whnf
    refine ⟨rfl, (zs0, zt0, i), rfl, rfl, trivial, ?_⟩
    dsimp only
    conv => whnf
    rw [if_neg znoV]
    conv => whnf
    exact hK
def spX7_movedBy : zSp := zD (X := Int32) (fun x => match x with | (v) => [.ref 0, .int v]) (fun x => match x with | (v) => (145, zSH, zRH, zs0, zt0)) (fun x => match x with | (v) => True) (fun x => match x with | (v) => some (.float 0)) (fun x => match x with | (v) => (145, zSH, zRH, zs0, zt0))
abbrev rmX7_movedBy : Room := ({ frames := 7, cells := 1, slots := 6, locals := 102 } : Room)
set_option maxRecDepth 100000 in
set_option maxHeartbeats 4000000 in
theorem ctX7_movedBy (l : Launch) (hlt : l.stackTraces = false) (D : va_G) (cA : Nat → ClassId) : zCtX false l D cA yX7_movedBy cX7_movedBy 2 (some .int) rmX7_movedBy spX7_movedBy := by
  refine zct_DX (zCX7_movedBy [(132, 0, 1, spX7_needVariable, rmX7_needVariable.cells, rmX7_needVariable.slots)]) zpX7_movedBy [] (by decide +kernel) zkX7_movedBy (Or.inr (by decide +kernel)) trivial ⟨by decide +kernel, by decide +kernel⟩ hlt ⟨by decide, by decide⟩ (fun x ad => Nat.le_of_ble_eq_true rfl) ?_ ?_
  · intro p e s m args below meth c A H0 ad0 n0 Q F hml hNw hA hX
    exact ⟨zco_VX hX hA F hml hNw (ctX7_needVariable l hlt D cA) ⟨⟨zlX7_movedBy_132, zwX7_needVariable.1.1, zwX7_needVariable.1.2⟩, zwX7_needVariable.2⟩ zdX7_needVariable ⟨Nat.le_of_ble_eq_true rfl, Nat.le_of_ble_eq_true rfl⟩ (ci := 7) (by decide) rfl (by rintro av μ K ⟨x, rfl, rfl, -⟩; exact ⟨_, _, rfl, rfl⟩), trivial⟩
  · rintro v Ret hP hK Gl hG
    try dsimp only at hP hK
    show Gl 0 (zent 2 [.ref 0, .int v]) [] (0, 0) ((145, zSH, zRH, zs0, zt0))
    refine hG 40 _ _ _ _ _ ?_
    conv => whnf
    refine ⟨⟨Nat.le_of_ble_eq_true rfl, Nat.le_of_ble_eq_true rfl⟩, ?_⟩
    conv => whnf
    refine ⟨rfl, (zs0, zt0, v), rfl, rfl, trivial, ?_⟩
    dsimp only
    conv => whnf
    rw [if_neg znoV]
    conv => whnf
    exact hK
def spX7_best : zSp := zD (X := Int32 × Int32 × Int32 × Int32 × Int32) (fun x => match x with | (i, v, a, b, n) => [.ref 0, .int i, .int v, .int a, .int b, .int n]) (fun x => match x with | (i, v, a, b, n) => (145, zSH, zRH, zs0, zt0)) (fun x => match x with | (i, v, a, b, n) => True) (fun x => match x with | (i, v, a, b, n) => some (.float 0)) (fun x => match x with | (i, v, a, b, n) => (145, zSH, zRH, zs0, zt0))
abbrev rmX7_best : Room := ({ frames := 7, cells := 1, slots := 6, locals := 102 } : Room)
set_option maxRecDepth 100000 in
set_option maxHeartbeats 4000000 in
theorem ctX7_best (l : Launch) (hlt : l.stackTraces = false) (D : va_G) (cA : Nat → ClassId) : zCtX false l D cA yX7_best cX7_best 10 (some .int) rmX7_best spX7_best := by
  refine zct_DX (zCX7_best [(132, 0, 1, spX7_needVariable, rmX7_needVariable.cells, rmX7_needVariable.slots)]) zpX7_best [] (by decide +kernel) zkX7_best (Or.inr (by decide +kernel)) trivial ⟨by decide +kernel, by decide +kernel⟩ hlt ⟨by decide, by decide⟩ (fun x ad => Nat.le_of_ble_eq_true rfl) ?_ ?_
  · intro p e s m args below meth c A H0 ad0 n0 Q F hml hNw hA hX
    exact ⟨zco_VX hX hA F hml hNw (ctX7_needVariable l hlt D cA) ⟨⟨zlX7_best_132, zwX7_needVariable.1.1, zwX7_needVariable.1.2⟩, zwX7_needVariable.2⟩ zdX7_needVariable ⟨Nat.le_of_ble_eq_true rfl, Nat.le_of_ble_eq_true rfl⟩ (ci := 7) (by decide) rfl (by rintro av μ K ⟨x, rfl, rfl, -⟩; exact ⟨_, _, rfl, rfl⟩), trivial⟩
  · rintro ⟨i, v, a, b, n⟩ Ret hP hK Gl hG
    try dsimp only at hP hK
    show Gl 0 (zent 10 [.ref 0, .int i, .int v, .int a, .int b, .int n]) [] (0, 0) ((145, zSH, zRH, zs0, zt0))
    refine hG 40 _ _ _ _ _ ?_
    conv => whnf
    refine ⟨⟨Nat.le_of_ble_eq_true rfl, Nat.le_of_ble_eq_true rfl⟩, ?_⟩
    conv => whnf
    refine ⟨rfl, (zs0, zt0, i), rfl, rfl, trivial, ?_⟩
    dsimp only
    conv => whnf
    rw [if_neg znoV]
    conv => whnf
    exact hK
def spX7_faultsWith : zSp := zD (X := Int32 × Int32) (fun x => match x with | (v, p) => [.ref 0, .int v, .int p]) (fun x => match x with | (v, p) => (145, zSH, zRH, zs0, zt0)) (fun x => match x with | (v, p) => True) (fun x => match x with | (v, p) => some (.float 0)) (fun x => match x with | (v, p) => (145, zSH, zRH, zs0, zt0))
abbrev rmX7_faultsWith : Room := ({ frames := 7, cells := 1, slots := 6, locals := 102 } : Room)
set_option maxRecDepth 100000 in
set_option maxHeartbeats 4000000 in
theorem ctX7_faultsWith (l : Launch) (hlt : l.stackTraces = false) (D : va_G) (cA : Nat → ClassId) : zCtX false l D cA yX7_faultsWith cX7_faultsWith 4 (some .int) rmX7_faultsWith spX7_faultsWith := by
  refine zct_DX (zCX7_faultsWith [(132, 0, 1, spX7_needVariable, rmX7_needVariable.cells, rmX7_needVariable.slots)]) zpX7_faultsWith [] (by decide +kernel) zkX7_faultsWith (Or.inr (by decide +kernel)) trivial ⟨by decide +kernel, by decide +kernel⟩ hlt ⟨by decide, by decide⟩ (fun x ad => Nat.le_of_ble_eq_true rfl) ?_ ?_
  · intro p e s m args below meth c A H0 ad0 n0 Q F hml hNw hA hX
    exact ⟨zco_VX hX hA F hml hNw (ctX7_needVariable l hlt D cA) ⟨⟨zlX7_faultsWith_132, zwX7_needVariable.1.1, zwX7_needVariable.1.2⟩, zwX7_needVariable.2⟩ zdX7_needVariable ⟨Nat.le_of_ble_eq_true rfl, Nat.le_of_ble_eq_true rfl⟩ (ci := 7) (by decide) rfl (by rintro av μ K ⟨x, rfl, rfl, -⟩; exact ⟨_, _, rfl, rfl⟩), trivial⟩
  · rintro ⟨v, p⟩ Ret hP hK Gl hG
    try dsimp only at hP hK
    show Gl 0 (zent 4 [.ref 0, .int v, .int p]) [] (0, 0) ((145, zSH, zRH, zs0, zt0))
    refine hG 40 _ _ _ _ _ ?_
    conv => whnf
    refine ⟨⟨Nat.le_of_ble_eq_true rfl, Nat.le_of_ble_eq_true rfl⟩, ?_⟩
    conv => whnf
    refine ⟨rfl, (zs0, zt0, v), rfl, rfl, trivial, ?_⟩
    dsimp only
    conv => whnf
    rw [if_neg znoV]
    conv => whnf
    exact hK
def spX7_join : zSp := zD (X := Int32 × Int32 × Int32) (fun x => match x with | (k, a, b) => [.ref 0, .int k, .int a, .int b]) (fun x => match x with | (k, a, b) => (145, zSH, zRH, zs0, zt0)) (fun x => match x with | (k, a, b) => True) (fun x => match x with | (k, a, b) => some (.float 0)) (fun x => match x with | (k, a, b) => (145, zSH, zRH, zs0, zt0))
abbrev rmX7_join : Room := ({ frames := 7, cells := 1, slots := 6, locals := 102 } : Room)
set_option maxRecDepth 100000 in
set_option maxHeartbeats 4000000 in
theorem ctX7_join (l : Launch) (hlt : l.stackTraces = false) (D : va_G) (cA : Nat → ClassId) : zCtX false l D cA yX7_join cX7_join 4 (some .int) rmX7_join spX7_join := by
  refine zct_DX (zCX7_join [(138, 0, 1, spX7_needPart, rmX7_needPart.cells, rmX7_needPart.slots)]) zpX7_join [] (by decide +kernel) zkX7_join (Or.inr (by decide +kernel)) trivial ⟨by decide +kernel, by decide +kernel⟩ hlt ⟨by decide, by decide⟩ (fun x ad => Nat.le_of_ble_eq_true rfl) ?_ ?_
  · intro p e s m args below meth c A H0 ad0 n0 Q F hml hNw hA hX
    exact ⟨zco_VX hX hA F hml hNw (ctX7_needPart l hlt D cA) ⟨⟨zlX7_join_138, zwX7_needPart.1.1, zwX7_needPart.1.2⟩, zwX7_needPart.2⟩ zdX7_needPart ⟨Nat.le_of_ble_eq_true rfl, Nat.le_of_ble_eq_true rfl⟩ (ci := 7) (by decide) rfl (by rintro av μ K ⟨x, rfl, rfl, -⟩; exact ⟨_, _, rfl, rfl⟩), trivial⟩
  · rintro ⟨k, a, b⟩ Ret hP hK Gl hG
    try dsimp only at hP hK
    show Gl 0 (zent 4 [.ref 0, .int k, .int a, .int b]) [] (0, 0) ((145, zSH, zRH, zs0, zt0))
    refine hG 40 _ _ _ _ _ ?_
    conv => whnf
    refine ⟨⟨Nat.le_of_ble_eq_true rfl, Nat.le_of_ble_eq_true rfl⟩, ?_⟩
    conv => whnf
    refine ⟨rfl, (zs0, zt0, a), rfl, rfl, trivial, ?_⟩
    dsimp only
    conv => whnf
    rw [if_neg znoP]
    conv => whnf
    exact hK
def spX7_when : zSp := zD (X := Int32 × Int32 × Int32) (fun x => match x with | (a, b, c) => [.ref 0, .int a, .int b, .int c]) (fun x => match x with | (a, b, c) => (145, zSH, zRH, zs0, zt0)) (fun x => match x with | (a, b, c) => True) (fun x => match x with | (a, b, c) => some (.float 0)) (fun x => match x with | (a, b, c) => (145, zSH, zRH, zs0, zt0))
abbrev rmX7_when : Room := ({ frames := 7, cells := 1, slots := 6, locals := 102 } : Room)
set_option maxRecDepth 100000 in
set_option maxHeartbeats 4000000 in
theorem ctX7_when (l : Launch) (hlt : l.stackTraces = false) (D : va_G) (cA : Nat → ClassId) : zCtX false l D cA yX7_when cX7_when 4 (some .int) rmX7_when spX7_when := by
  refine zct_DX (zCX7_when [(138, 0, 1, spX7_needPart, rmX7_needPart.cells, rmX7_needPart.slots)]) zpX7_when [] (by decide +kernel) zkX7_when (Or.inr (by decide +kernel)) trivial ⟨by decide +kernel, by decide +kernel⟩ hlt ⟨by decide, by decide⟩ (fun x ad => Nat.le_of_ble_eq_true rfl) ?_ ?_
  · intro p e s m args below meth c A H0 ad0 n0 Q F hml hNw hA hX
    exact ⟨zco_VX hX hA F hml hNw (ctX7_needPart l hlt D cA) ⟨⟨zlX7_when_138, zwX7_needPart.1.1, zwX7_needPart.1.2⟩, zwX7_needPart.2⟩ zdX7_needPart ⟨Nat.le_of_ble_eq_true rfl, Nat.le_of_ble_eq_true rfl⟩ (ci := 7) (by decide) rfl (by rintro av μ K ⟨x, rfl, rfl, -⟩; exact ⟨_, _, rfl, rfl⟩), trivial⟩
  · rintro ⟨a, b, c⟩ Ret hP hK Gl hG
    try dsimp only at hP hK
    show Gl 0 (zent 4 [.ref 0, .int a, .int b, .int c]) [] (0, 0) ((145, zSH, zRH, zs0, zt0))
    refine hG 40 _ _ _ _ _ ?_
    conv => whnf
    refine ⟨⟨Nat.le_of_ble_eq_true rfl, Nat.le_of_ble_eq_true rfl⟩, ?_⟩
    conv => whnf
    refine ⟨rfl, (zs0, zt0, a), rfl, rfl, trivial, ?_⟩
    dsimp only
    conv => whnf
    rw [if_neg znoP]
    conv => whnf
    exact hK
def spX7_root : zSp := zD (X := Int32) (fun x => match x with | (a) => [.ref 0, .int a]) (fun x => match x with | (a) => (145, zSH, zRH, zs0, zt0)) (fun x => match x with | (a) => True) (fun x => match x with | (a) => some (.float 0)) (fun x => match x with | (a) => (145, zSH, zRH, zs0, zt0))
abbrev rmX7_root : Room := ({ frames := 7, cells := 1, slots := 6, locals := 102 } : Room)
set_option maxRecDepth 100000 in
set_option maxHeartbeats 4000000 in
theorem ctX7_root (l : Launch) (hlt : l.stackTraces = false) (D : va_G) (cA : Nat → ClassId) : zCtX false l D cA yX7_root cX7_root 2 (some .int) rmX7_root spX7_root := by
  refine zct_DX (zCX7_root [(138, 0, 1, spX7_needPart, rmX7_needPart.cells, rmX7_needPart.slots)]) zpX7_root [] (by decide +kernel) zkX7_root (Or.inr (by decide +kernel)) trivial ⟨by decide +kernel, by decide +kernel⟩ hlt ⟨by decide, by decide⟩ (fun x ad => Nat.le_of_ble_eq_true rfl) ?_ ?_
  · intro p e s m args below meth c A H0 ad0 n0 Q F hml hNw hA hX
    exact ⟨zco_VX hX hA F hml hNw (ctX7_needPart l hlt D cA) ⟨⟨zlX7_root_138, zwX7_needPart.1.1, zwX7_needPart.1.2⟩, zwX7_needPart.2⟩ zdX7_needPart ⟨Nat.le_of_ble_eq_true rfl, Nat.le_of_ble_eq_true rfl⟩ (ci := 7) (by decide) rfl (by rintro av μ K ⟨x, rfl, rfl, -⟩; exact ⟨_, _, rfl, rfl⟩), trivial⟩
  · rintro a Ret hP hK Gl hG
    try dsimp only at hP hK
    show Gl 0 (zent 2 [.ref 0, .int a]) [] (0, 0) ((145, zSH, zRH, zs0, zt0))
    refine hG 40 _ _ _ _ _ ?_
    conv => whnf
    refine ⟨⟨Nat.le_of_ble_eq_true rfl, Nat.le_of_ble_eq_true rfl⟩, ?_⟩
    conv => whnf
    refine ⟨rfl, (zs0, zt0, a), rfl, rfl, trivial, ?_⟩
    dsimp only
    conv => whnf
    rw [if_neg znoP]
    conv => whnf
    exact hK
def spX7_exponent : zSp := zD (X := Int32 × Int32) (fun x => match x with | (p, d) => [.ref 0, .int p, .int d]) (fun x => match x with | (p, d) => (145, zSH, zRH, zs0, zt0)) (fun x => match x with | (p, d) => True) (fun x => match x with | (p, d) => some (.float 0)) (fun x => match x with | (p, d) => (145, zSH, zRH, zs0, zt0))
abbrev rmX7_exponent : Room := ({ frames := 7, cells := 1, slots := 6, locals := 102 } : Room)
set_option maxRecDepth 100000 in
set_option maxHeartbeats 4000000 in
theorem ctX7_exponent (l : Launch) (hlt : l.stackTraces = false) (D : va_G) (cA : Nat → ClassId) : zCtX false l D cA yX7_exponent cX7_exponent 3 (some .int) rmX7_exponent spX7_exponent := by
  refine zct_DX (zCX7_exponent [(138, 0, 1, spX7_needPart, rmX7_needPart.cells, rmX7_needPart.slots)]) zpX7_exponent [] (by decide +kernel) zkX7_exponent (Or.inr (by decide +kernel)) trivial ⟨by decide +kernel, by decide +kernel⟩ hlt ⟨by decide, by decide⟩ (fun x ad => Nat.le_of_ble_eq_true rfl) ?_ ?_
  · intro p e s m args below meth c A H0 ad0 n0 Q F hml hNw hA hX
    exact ⟨zco_VX hX hA F hml hNw (ctX7_needPart l hlt D cA) ⟨⟨zlX7_exponent_138, zwX7_needPart.1.1, zwX7_needPart.1.2⟩, zwX7_needPart.2⟩ zdX7_needPart ⟨Nat.le_of_ble_eq_true rfl, Nat.le_of_ble_eq_true rfl⟩ (ci := 7) (by decide) rfl (by rintro av μ K ⟨x, rfl, rfl, -⟩; exact ⟨_, _, rfl, rfl⟩), trivial⟩
  · rintro ⟨p, d⟩ Ret hP hK Gl hG
    try dsimp only at hP hK
    show Gl 0 (zent 3 [.ref 0, .int p, .int d]) [] (0, 0) ((145, zSH, zRH, zs0, zt0))
    refine hG 40 _ _ _ _ _ ?_
    conv => whnf
    refine ⟨⟨Nat.le_of_ble_eq_true rfl, Nat.le_of_ble_eq_true rfl⟩, ?_⟩
    conv => whnf
    refine ⟨rfl, (zs0, zt0, p), rfl, rfl, trivial, ?_⟩
    dsimp only
    conv => whnf
    rw [if_neg znoP]
    conv => whnf
    exact hK
def spX7_worth : zSp := zD (X := Int32) (fun x => match x with | (p) => [.ref 0, .int p]) (fun x => match x with | (p) => (145, zSH, zRH, zs0, zt0)) (fun x => match x with | (p) => True) (fun x => match x with | (p) => some (.float 0)) (fun x => match x with | (p) => (145, zSH, zRH, zs0, zt0))
abbrev rmX7_worth : Room := ({ frames := 7, cells := 1, slots := 6, locals := 102 } : Room)
set_option maxRecDepth 100000 in
set_option maxHeartbeats 4000000 in
theorem ctX7_worth (l : Launch) (hlt : l.stackTraces = false) (D : va_G) (cA : Nat → ClassId) : zCtX false l D cA yX7_worth cX7_worth 2 (some .int) rmX7_worth spX7_worth := by
  refine zct_DX (zCX7_worth [(138, 0, 1, spX7_needPart, rmX7_needPart.cells, rmX7_needPart.slots)]) zpX7_worth [] (by decide +kernel) zkX7_worth (Or.inr (by decide +kernel)) trivial ⟨by decide +kernel, by decide +kernel⟩ hlt ⟨by decide, by decide⟩ (fun x ad => Nat.le_of_ble_eq_true rfl) ?_ ?_
  · intro p e s m args below meth c A H0 ad0 n0 Q F hml hNw hA hX
    exact ⟨zco_VX hX hA F hml hNw (ctX7_needPart l hlt D cA) ⟨⟨zlX7_worth_138, zwX7_needPart.1.1, zwX7_needPart.1.2⟩, zwX7_needPart.2⟩ zdX7_needPart ⟨Nat.le_of_ble_eq_true rfl, Nat.le_of_ble_eq_true rfl⟩ (ci := 7) (by decide) rfl (by rintro av μ K ⟨x, rfl, rfl, -⟩; exact ⟨_, _, rfl, rfl⟩), trivial⟩
  · rintro p Ret hP hK Gl hG
    try dsimp only at hP hK
    show Gl 0 (zent 2 [.ref 0, .int p]) [] (0, 0) ((145, zSH, zRH, zs0, zt0))
    refine hG 40 _ _ _ _ _ ?_
    conv => whnf
    refine ⟨⟨Nat.le_of_ble_eq_true rfl, Nat.le_of_ble_eq_true rfl⟩, ?_⟩
    conv => whnf
    refine ⟨rfl, (zs0, zt0, p), rfl, rfl, trivial, ?_⟩
    dsimp only
    conv => whnf
    rw [if_neg znoP]
    conv => whnf
    exact hK
def spX7_units : zSp := zD (X := Unit) (fun x => match x with | () => [.ref 0]) (fun x => match x with | () => (145, zSH, zRH, zs0, zt0)) (fun x => match x with | () => True) (fun x => match x with | () => some (.int 1)) (fun x => match x with | () => (145, zSH, zRH, zs0, zt0))
abbrev rmX7_units : Room := ({ frames := 0, cells := 0, slots := 0, locals := 0 } : Room)
set_option maxRecDepth 100000 in
set_option maxHeartbeats 4000000 in
theorem ctX7_units (l : Launch) (D : va_G) (cA : Nat → ClassId) : zCt false l D cA yX7_units cX7_units 1 (some .int) rmX7_units spX7_units := by
  refine zct_D (zCX7_units []) zpX7_units [] (by decide +kernel) zkX7_units (Or.inr (by decide +kernel)) trivial ⟨by decide +kernel, by decide +kernel⟩ (fun x ad => Nat.le_of_ble_eq_true rfl) ?_ ?_
  · intro p e s m args below meth c A H0 ad0 n0 Q F hml hNw hA hX
    exact trivial
  · rintro ⟨⟩ Ret hP hK Gl hG
    try dsimp only at hP hK
    show Gl 0 (zent 1 [.ref 0]) [] (0, 0) ((145, zSH, zRH, zs0, zt0))
    refine hG 40 _ _ _ _ _ ?_
    conv => whnf
    exact hK
def spX7_variables : zSp := zD (X := Unit) (fun x => match x with | () => [.ref 0]) (fun x => match x with | () => (145, zSH, zRH, zs0, zt0)) (fun x => match x with | () => True) (fun x => match x with | () => some (.int 0)) (fun x => match x with | () => (145, zSH, zRH, zs0, zt0))
abbrev rmX7_variables : Room := ({ frames := 0, cells := 0, slots := 0, locals := 0 } : Room)
set_option maxRecDepth 100000 in
set_option maxHeartbeats 4000000 in
theorem ctX7_variables (l : Launch) (D : va_G) (cA : Nat → ClassId) : zCt false l D cA yX7_variables cX7_variables 1 (some .int) rmX7_variables spX7_variables := by
  refine zct_D (zCX7_variables []) zpX7_variables [] (by decide +kernel) zkX7_variables (Or.inr (by decide +kernel)) trivial ⟨by decide +kernel, by decide +kernel⟩ (fun x ad => Nat.le_of_ble_eq_true rfl) ?_ ?_
  · intro p e s m args below meth c A H0 ad0 n0 Q F hml hNw hA hX
    exact trivial
  · rintro ⟨⟩ Ret hP hK Gl hG
    try dsimp only at hP hK
    show Gl 0 (zent 1 [.ref 0]) [] (0, 0) ((145, zSH, zRH, zs0, zt0))
    refine hG 40 _ _ _ _ _ ?_
    conv => whnf
    exact hK
def spX7_parts : zSp := zD (X := Unit) (fun x => match x with | () => [.ref 0]) (fun x => match x with | () => (145, zSH, zRH, zs0, zt0)) (fun x => match x with | () => True) (fun x => match x with | () => some (.int 0)) (fun x => match x with | () => (145, zSH, zRH, zs0, zt0))
abbrev rmX7_parts : Room := ({ frames := 0, cells := 0, slots := 0, locals := 0 } : Room)
set_option maxRecDepth 100000 in
set_option maxHeartbeats 4000000 in
theorem ctX7_parts (l : Launch) (D : va_G) (cA : Nat → ClassId) : zCt false l D cA yX7_parts cX7_parts 1 (some .int) rmX7_parts spX7_parts := by
  refine zct_D (zCX7_parts []) zpX7_parts [] (by decide +kernel) zkX7_parts (Or.inr (by decide +kernel)) trivial ⟨by decide +kernel, by decide +kernel⟩ (fun x ad => Nat.le_of_ble_eq_true rfl) ?_ ?_
  · intro p e s m args below meth c A H0 ad0 n0 Q F hml hNw hA hX
    exact trivial
  · rintro ⟨⟩ Ret hP hK Gl hG
    try dsimp only at hP hK
    show Gl 0 (zent 1 [.ref 0]) [] (0, 0) ((145, zSH, zRH, zs0, zt0))
    refine hG 40 _ _ _ _ _ ?_
    conv => whnf
    exact hK
def spX7_forgetAmounts : zSp := zD (X := zIn × zLo) (fun x => match x with | (σ, τ) => [.ref 0]) (fun x => match x with | (σ, τ) => (145, zSH, zRH, σ, τ)) (fun x => match x with | (σ, τ) => True) (fun x => match x with | (σ, τ) => none) (fun x => match x with | (σ, τ) => (145, zSH, zRH, zu (zu σ 0 14 0) 0 15 0, τ))
abbrev rmX7_forgetAmounts : Room := ({ frames := 0, cells := 0, slots := 0, locals := 0 } : Room)
set_option maxRecDepth 100000 in
set_option maxHeartbeats 4000000 in
theorem ctX7_forgetAmounts (l : Launch) (D : va_G) (cA : Nat → ClassId) : zCt false l D cA yX7_forgetAmounts cX7_forgetAmounts 1 (none) rmX7_forgetAmounts spX7_forgetAmounts := by
  refine zct_D (zCX7_forgetAmounts []) zpX7_forgetAmounts [] (by decide +kernel) zkX7_forgetAmounts (Or.inr (by decide +kernel)) trivial ⟨by decide +kernel, by decide +kernel⟩ (fun x ad => Nat.le_of_ble_eq_true rfl) ?_ ?_
  · intro p e s m args below meth c A H0 ad0 n0 Q F hml hNw hA hX
    exact trivial
  · rintro ⟨σ, τ⟩ Ret hP hK Gl hG
    try dsimp only at hP hK
    show Gl 0 (zent 1 [.ref 0]) [] (0, 0) ((145, zSH, zRH, σ, τ))
    refine hG 40 _ _ _ _ _ ?_
    conv => whnf
    refine ⟨by decide, ?_⟩
    conv => whnf
    refine ⟨by decide, ?_⟩
    conv => whnf
    exact hK
def spX7_amountOf : zSp := zD (X := Int32 × Int32) (fun x => match x with | (q, v) => [.ref 0, .int q, .int v]) (fun x => match x with | (q, v) => (145, zSH, zRH, zs0, zt0)) (fun x => match x with | (q, v) => True) (fun x => match x with | (q, v) => some (.float 0)) (fun x => match x with | (q, v) => (145, zSH, zRH, zs0, zt0))
abbrev rmX7_amountOf : Room := ({ frames := 7, cells := 2, slots := 12, locals := 102 } : Room)
set_option maxRecDepth 100000 in
set_option maxHeartbeats 4000000 in
theorem ctX7_amountOf (l : Launch) (hlt : l.stackTraces = false) (D : va_G) (cA : Nat → ClassId) : zCtX false l D cA yX7_amountOf cX7_amountOf 3 (some .int) rmX7_amountOf spX7_amountOf := by
  refine zct_DX (zCX7_amountOf [(232, 0, 1, spX7_needPlace, rmX7_needPlace.cells, rmX7_needPlace.slots), (132, 0, 1, spX7_needVariable, rmX7_needVariable.cells, rmX7_needVariable.slots)]) zpX7_amountOf [] (by decide +kernel) zkX7_amountOf (Or.inr (by decide +kernel)) trivial ⟨by decide +kernel, by decide +kernel⟩ hlt ⟨by decide, by decide⟩ (fun x ad => Nat.le_of_ble_eq_true rfl) ?_ ?_
  · intro p e s m args below meth c A H0 ad0 n0 Q F hml hNw hA hX
    exact ⟨zco_VX hX hA F hml hNw (ctX7_needPlace l hlt D cA) ⟨⟨zlX7_amountOf_232, zwX7_needPlace.1.1, zwX7_needPlace.1.2⟩, zwX7_needPlace.2⟩ zdX7_needPlace ⟨Nat.le_of_ble_eq_true rfl, Nat.le_of_ble_eq_true rfl⟩ (ci := 7) (by decide) rfl (by rintro av μ K ⟨x, rfl, rfl, -⟩; exact ⟨_, _, rfl, rfl⟩), zco_VX hX hA F hml hNw (ctX7_needVariable l hlt D cA) ⟨⟨zlX7_amountOf_132, zwX7_needVariable.1.1, zwX7_needVariable.1.2⟩, zwX7_needVariable.2⟩ zdX7_needVariable ⟨Nat.le_of_ble_eq_true rfl, Nat.le_of_ble_eq_true rfl⟩ (ci := 7) (by decide) rfl (by rintro av μ K ⟨x, rfl, rfl, -⟩; exact ⟨_, _, rfl, rfl⟩), trivial⟩
  · rintro ⟨q, v⟩ Ret hP hK Gl hG
    try dsimp only at hP hK
    show Gl 0 (zent 3 [.ref 0, .int q, .int v]) [] (0, 0) ((145, zSH, zRH, zs0, zt0))
    refine hG 40 _ _ _ _ _ ?_
    conv => whnf
    refine ⟨⟨Nat.le_of_ble_eq_true rfl, Nat.le_of_ble_eq_true rfl⟩, ?_⟩
    conv => whnf
    refine ⟨rfl, (zs0, zt0, q), rfl, rfl, trivial, ?_⟩
    dsimp only
    conv => whnf
    by_cases hc : 0 ≤ q ∧ q < 4
    · rw [if_pos hc]
      conv => whnf
      conv => whnf
      refine ⟨⟨Nat.le_of_ble_eq_true rfl, Nat.le_of_ble_eq_true rfl⟩, ?_⟩
      conv => whnf
      refine ⟨rfl, (zs0, zt0, v), rfl, rfl, trivial, ?_⟩
      dsimp only
      conv => whnf
      rw [if_neg znoV]
      conv => whnf
      exact hK
    · rw [if_neg hc]
      conv => whnf
      exact hK
def spX7_load : zSp := zD (X := Int32) (fun x => match x with | q => [.ref 0, .int q]) (fun x => match x with | q => (145, zSH, zRH, zs0, zt0)) (fun x => match x with | q => True) (fun x => match x with | q => (if 0 ≤ q ∧ q < 4 then some (.float 2) else some (.float 0))) (fun x => match x with | q => (145, zSH, zRH, zs0, zt0))
abbrev rmX7_load : Room := ({ frames := 7, cells := 2, slots := 12, locals := 102 } : Room)
set_option maxRecDepth 100000 in
set_option maxHeartbeats 4000000 in
theorem ctX7_load (l : Launch) (hlt : l.stackTraces = false) (D : va_G) (cA : Nat → ClassId) : zCtX false l D cA yX7_load cX7_load 4 (some .int) rmX7_load spX7_load := by
  refine zct_DX (zCX7_load [(232, 0, 1, spX7_needPlace, rmX7_needPlace.cells, rmX7_needPlace.slots), (241, 0, 1, spX7_needCase, rmX7_needCase.cells, rmX7_needCase.slots)]) zpX7_load [] (by decide +kernel) zkX7_load (Or.inr (by decide +kernel)) trivial ⟨by decide +kernel, by decide +kernel⟩ hlt ⟨by decide, by decide⟩ (fun x ad => Nat.le_of_ble_eq_true rfl) ?_ ?_
  · intro p e s m args below meth c A H0 ad0 n0 Q F hml hNw hA hX
    exact ⟨zco_VX hX hA F hml hNw (ctX7_needPlace l hlt D cA) ⟨⟨zlX7_load_232, zwX7_needPlace.1.1, zwX7_needPlace.1.2⟩, zwX7_needPlace.2⟩ zdX7_needPlace ⟨Nat.le_of_ble_eq_true rfl, Nat.le_of_ble_eq_true rfl⟩ (ci := 7) (by decide) rfl (by rintro av μ K ⟨x, rfl, rfl, -⟩; exact ⟨_, _, rfl, rfl⟩), zco_VX hX hA F hml hNw (ctX7_needCase l hlt D cA) ⟨⟨zlX7_load_241, zwX7_needCase.1.1, zwX7_needCase.1.2⟩, zwX7_needCase.2⟩ zdX7_needCase ⟨Nat.le_of_ble_eq_true rfl, Nat.le_of_ble_eq_true rfl⟩ (ci := 7) (by decide) rfl (by rintro av μ K ⟨x, rfl, rfl, -⟩; exact ⟨_, _, rfl, rfl⟩), trivial⟩
  · rintro q Ret hP hK Gl hG
    try dsimp only at hP hK
    show Gl 0 (zent 4 [.ref 0, .int q]) [] (0, 0) ((145, zSH, zRH, zs0, zt0))
    refine hG 40 _ _ _ _ _ ?_
    conv => whnf
    refine ⟨⟨Nat.le_of_ble_eq_true rfl, Nat.le_of_ble_eq_true rfl⟩, ?_⟩
    conv => whnf
    refine ⟨rfl, (zs0, zt0, q), rfl, rfl, trivial, ?_⟩
    dsimp only
    conv => whnf
    by_cases hc : 0 ≤ q ∧ q < 4
    · rw [if_pos hc]
      conv => whnf
      conv => whnf
      refine ⟨⟨Nat.le_of_ble_eq_true rfl, Nat.le_of_ble_eq_true rfl⟩, ?_⟩
      conv => whnf
      refine ⟨rfl, (zs0, zt0, q), rfl, rfl, zin4 hc, ?_⟩
      dsimp only
      conv => whnf
      rw [if_neg (zcs4 hc)]
      conv => whnf
      rw [if_pos hc] at hK
      exact hK
    · rw [if_neg hc]
      conv => whnf
      rw [if_neg hc] at hK
      exact hK

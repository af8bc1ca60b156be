/-! ===== the cells of a new Waterline ===== -/
def zs0t : List (Nat × List (Nat × Int32)) := [(1, [(3, 1)]), (15, [(0, 1)]), (16, [(0, 1)]), (100, [(7, 100)]), (118, [(0, -1), (1, -1), (2, -1), (3, -1)])]
def zs0 (r : Nat) : Nat → Int32 := match zlk zs0t r with
  | some l => fun j => match zlk l j with
    | some x => x
    | none => 0
  | none => fun _ => 0
def zt0 : zLo := fun _ _ => 0
/-! ===== the constructors ===== -/
def zAll : Nat → (Nat → Prop) → Prop
  | 0, _ => True
  | n + 1, P => zAll n P ∧ P n
theorem zAll_of : ∀ (n : Nat) (P : Nat → Prop), zAll n P → ∀ k, k < n → P k
  | 0, _, _, k, hk => absurd hk (Nat.not_lt_zero k)
  | n + 1, P, h, k, hk => by
    by_cases e : k = n
    · rw [e]
      exact h.2
    · exact zAll_of n P h.1 k (by omega)
theorem zfe {α : Type} {f g : Nat → α} (n : Nat) (h1 : ∀ j, j < n → f j = g j) (h2 : ∀ j, f (j + n) = g (j + n)) : f = g := by
  funext j
  by_cases e : j < n
  · exact h1 j e
  · have := h2 (j - n)
    rwa [Nat.sub_add_cancel (Nat.le_of_not_lt e)] at this
def zQ0 : zRf := fun r => match Nat.beq r 0 with
  | true => fun _ => none
  | false => zRH r
def zQ1 : zRf := zuR zQ0 0 0 (some 1)
def zQ2 : zRf := zuR zQ1 0 1 (some 17)
def zQ3 : zRf := zuR zQ2 0 2 (some 86)
def zQ4 : zRf := zuR zQ3 0 3 (some 90)
def zQ5 : zRf := zuR zQ4 0 4 (some 94)
def zQ6 : zRf := zuR zQ5 0 5 (some 100)
def zQ7 : zRf := zuR zQ6 0 6 (some 102)
def zQ8 : zRf := zuR zQ7 0 7 (some 106)
def spX5_init : zSp := zD (X := Unit) (fun x => match x with | () => [.ref 1]) (fun x => match x with | () => znew ((1, zSH, zQ0, zs0, zt0) : zM) (5, 0)) (fun x => match x with | () => True) (fun x => match x with | () => none) (fun x => match x with | () => ((17, zSH, zQ0, zs0, zt0) : zM))
abbrev rmX5_init : Room := ({ frames := 1, cells := 20, slots := 100, locals := 26 } : Room)
set_option maxRecDepth 100000 in
set_option maxHeartbeats 4000000 in
theorem ctX5_init (l : Launch) (D : va_G) (cA : Nat → ClassId) : zCt false l D cA yX5_init cX5_init 1 (none) rmX5_init spX5_init := by
  refine zct_DE (zCX5_init [(3, 2, 0, spObj, 0, 0)]) zpX5_init [50] (by decide +kernel) zkX5_init (Or.inl rfl) trivial ⟨by decide +kernel, by decide +kernel⟩ (fun x ad => Nat.le_of_ble_eq_true rfl) ?_ ?_
  · intro p e s m args below meth c A H0 ad0 n0 Q F hml hNw hA hX
    exact ⟨zco_obj F hml ⟨zlX5_init_3, zlib_obj⟩ ⟨Nat.le_of_ble_eq_true rfl, Nat.le_of_ble_eq_true rfl⟩, trivial⟩
  · rintro ⟨⟩ Ret hP hK Gl hG hE
    try dsimp only at hP hK
    show Gl 0 (zent 1 [.ref 1]) [] (0, 0) (znew ((1, zSH, zQ0, zs0, zt0) : zM) (5, 0))
    refine hG 400 _ _ _ _ _ ?_
    repeat (conv => whnf
            try dsimp only
            try simp (decide := true) only [zu_same, zu_ne1, zu_ne2, zu_row, zuL_same, zuL_ne1, zuL_ne2, zrow_n1, zx0, zx1, zx2, zx3, nI_1, Nat.reduceAdd, Nat.reduceMul, Int32.reduceAdd, Int32.reduceSub, Int32.reduceMul]
            first
            | refine ⟨vp_inb rfl, ?_⟩
            | refine ⟨fun h => absurd h (of_decide_eq_false rfl), fun _ => ?_⟩
            | refine ⟨fun _ => ?_, fun h => absurd (of_decide_eq_true rfl) h⟩
            | refine ⟨fun _ => ?_, fun h => absurd h (of_decide_eq_false rfl)⟩
            | refine ⟨fun h => absurd (of_decide_eq_true rfl) h, fun _ => ?_⟩
            | refine ⟨of_decide_eq_true rfl, ?_⟩
            | refine ⟨rfl, ?_⟩)
    try (conv => whnf)
    refine ⟨_, rfl, ?_⟩
    repeat (conv => whnf
            try dsimp only
            try simp (decide := true) only [zu_same, zu_ne1, zu_ne2, zu_row, zuL_same, zuL_ne1, zuL_ne2, zrow_n1, zx0, zx1, zx2, zx3, nI_1, Nat.reduceAdd, Nat.reduceMul, Int32.reduceAdd, Int32.reduceSub, Int32.reduceMul]
            first
            | refine ⟨vp_inb rfl, ?_⟩
            | refine ⟨fun h => absurd h (of_decide_eq_false rfl), fun _ => ?_⟩
            | refine ⟨fun _ => ?_, fun h => absurd (of_decide_eq_true rfl) h⟩
            | refine ⟨fun _ => ?_, fun h => absurd h (of_decide_eq_false rfl)⟩
            | refine ⟨fun h => absurd (of_decide_eq_true rfl) h, fun _ => ?_⟩
            | refine ⟨of_decide_eq_true rfl, ?_⟩
            | refine ⟨rfl, ?_⟩)
    try (conv => whnf)
    refine hE _ _ _ _ _ ((17, zSH, zQ0, zs0, zt0) : zM) ⟨rfl, zAll_of 17 _ ?_, rfl⟩ ?_
    · skip
      repeat (first
            | exact True.intro
            | refine And.intro ?_ (by first
                | exact ⟨rfl, rfl, rfl, rfl⟩
                | exact ⟨rfl, by first | rfl | exact zfe 64 (by decide +kernel) (fun _ => rfl), by first | rfl | exact zfe 64 (by decide +kernel) (fun _ => rfl), rfl⟩))
    refine hG 5 _ _ _ _ _ ?_
    repeat (conv => whnf
            try dsimp only
            try simp (decide := true) only [zu_same, zu_ne1, zu_ne2, zu_row, zuL_same, zuL_ne1, zuL_ne2, zrow_n1, zx0, zx1, zx2, zx3, nI_1, Nat.reduceAdd, Nat.reduceMul, Int32.reduceAdd, Int32.reduceSub, Int32.reduceMul]
            first
            | refine ⟨vp_inb rfl, ?_⟩
            | refine ⟨fun h => absurd h (of_decide_eq_false rfl), fun _ => ?_⟩
            | refine ⟨fun _ => ?_, fun h => absurd (of_decide_eq_true rfl) h⟩
            | refine ⟨fun _ => ?_, fun h => absurd h (of_decide_eq_false rfl)⟩
            | refine ⟨fun h => absurd (of_decide_eq_true rfl) h, fun _ => ?_⟩
            | refine ⟨of_decide_eq_true rfl, ?_⟩
            | refine ⟨rfl, ?_⟩)
    try (conv => whnf)
    exact hK
def spX2_init : zSp := zD (X := Unit) (fun x => match x with | () => [.ref 17]) (fun x => match x with | () => znew ((17, zSH, zQ1, zs0, zt0) : zM) (2, 0)) (fun x => match x with | () => True) (fun x => match x with | () => none) (fun x => match x with | () => ((86, zSH, zQ1, zs0, zt0) : zM))
abbrev rmX2_init : Room := ({ frames := 1, cells := 70, slots := 800, locals := 26 } : Room)
set_option maxRecDepth 100000 in
set_option maxHeartbeats 4000000 in
theorem ctX2_init (l : Launch) (D : va_G) (cA : Nat → ClassId) : zCt false l D cA yX2_init cX2_init 1 (none) rmX2_init spX2_init := by
  refine zct_DE (zCX2_init [(3, 2, 0, spObj, 0, 0)]) zpX2_init [71] (by decide +kernel) zkX2_init (Or.inl rfl) trivial ⟨by decide +kernel, by decide +kernel⟩ (fun x ad => Nat.le_of_ble_eq_true rfl) ?_ ?_
  · intro p e s m args below meth c A H0 ad0 n0 Q F hml hNw hA hX
    exact ⟨zco_obj F hml ⟨zlX2_init_3, zlib_obj⟩ ⟨Nat.le_of_ble_eq_true rfl, Nat.le_of_ble_eq_true rfl⟩, trivial⟩
  · rintro ⟨⟩ Ret hP hK Gl hG hE
    try dsimp only at hP hK
    show Gl 0 (zent 1 [.ref 17]) [] (0, 0) (znew ((17, zSH, zQ1, zs0, zt0) : zM) (2, 0))
    refine hG 400 _ _ _ _ _ ?_
    repeat (conv => whnf
            try dsimp only
            try simp (decide := true) only [zu_same, zu_ne1, zu_ne2, zu_row, zuL_same, zuL_ne1, zuL_ne2, zrow_n1, zx0, zx1, zx2, zx3, nI_1, Nat.reduceAdd, Nat.reduceMul, Int32.reduceAdd, Int32.reduceSub, Int32.reduceMul]
            first
            | refine ⟨vp_inb rfl, ?_⟩
            | refine ⟨fun h => absurd h (of_decide_eq_false rfl), fun _ => ?_⟩
            | refine ⟨fun _ => ?_, fun h => absurd (of_decide_eq_true rfl) h⟩
            | refine ⟨fun _ => ?_, fun h => absurd h (of_decide_eq_false rfl)⟩
            | refine ⟨fun h => absurd (of_decide_eq_true rfl) h, fun _ => ?_⟩
            | refine ⟨of_decide_eq_true rfl, ?_⟩
            | refine ⟨rfl, ?_⟩)
    try (conv => whnf)
    refine ⟨_, rfl, ?_⟩
    repeat (conv => whnf
            try dsimp only
            try simp (decide := true) only [zu_same, zu_ne1, zu_ne2, zu_row, zuL_same, zuL_ne1, zuL_ne2, zrow_n1, zx0, zx1, zx2, zx3, nI_1, Nat.reduceAdd, Nat.reduceMul, Int32.reduceAdd, Int32.reduceSub, Int32.reduceMul]
            first
            | refine ⟨vp_inb rfl, ?_⟩
            | refine ⟨fun h => absurd h (of_decide_eq_false rfl), fun _ => ?_⟩
            | refine ⟨fun _ => ?_, fun h => absurd (of_decide_eq_true rfl) h⟩
            | refine ⟨fun _ => ?_, fun h => absurd h (of_decide_eq_false rfl)⟩
            | refine ⟨fun h => absurd (of_decide_eq_true rfl) h, fun _ => ?_⟩
            | refine ⟨of_decide_eq_true rfl, ?_⟩
            | refine ⟨rfl, ?_⟩)
    try (conv => whnf)
    refine hE _ _ _ _ _ ((86, zSH, zQ1, zs0, zt0) : zM) ⟨rfl, zAll_of 86 _ ?_, rfl⟩ ?_
    · skip
      repeat (first
            | exact True.intro
            | refine And.intro ?_ (by first
                | exact ⟨rfl, rfl, rfl, rfl⟩
                | exact ⟨rfl, by first | rfl | exact zfe 64 (by decide +kernel) (fun _ => rfl), by first | rfl | exact zfe 64 (by decide +kernel) (fun _ => rfl), rfl⟩))
    refine hG 5 _ _ _ _ _ ?_
    repeat (conv => whnf
            try dsimp only
            try simp (decide := true) only [zu_same, zu_ne1, zu_ne2, zu_row, zuL_same, zuL_ne1, zuL_ne2, zrow_n1, zx0, zx1, zx2, zx3, nI_1, Nat.reduceAdd, Nat.reduceMul, Int32.reduceAdd, Int32.reduceSub, Int32.reduceMul]
            first
            | refine ⟨vp_inb rfl, ?_⟩
            | refine ⟨fun h => absurd h (of_decide_eq_false rfl), fun _ => ?_⟩
            | refine ⟨fun _ => ?_, fun h => absurd (of_decide_eq_true rfl) h⟩
            | refine ⟨fun _ => ?_, fun h => absurd h (of_decide_eq_false rfl)⟩
            | refine ⟨fun h => absurd (of_decide_eq_true rfl) h, fun _ => ?_⟩
            | refine ⟨of_decide_eq_true rfl, ?_⟩
            | refine ⟨rfl, ?_⟩)
    try (conv => whnf)
    exact hK
def spX6_init : zSp := zD (X := Unit) (fun x => match x with | () => [.ref 86]) (fun x => match x with | () => znew ((86, zSH, zQ2, zs0, zt0) : zM) (6, 0)) (fun x => match x with | () => True) (fun x => match x with | () => none) (fun x => match x with | () => ((90, zSH, zQ2, zs0, zt0) : zM))
abbrev rmX6_init : Room := ({ frames := 1, cells := 5, slots := 60, locals := 26 } : Room)
set_option maxRecDepth 100000 in
set_option maxHeartbeats 4000000 in
theorem ctX6_init (l : Launch) (D : va_G) (cA : Nat → ClassId) : zCt false l D cA yX6_init cX6_init 1 (none) rmX6_init spX6_init := by
  refine zct_DE (zCX6_init [(3, 2, 0, spObj, 0, 0)]) zpX6_init [28] (by decide +kernel) zkX6_init (Or.inl rfl) trivial ⟨by decide +kernel, by decide +kernel⟩ (fun x ad => Nat.le_of_ble_eq_true rfl) ?_ ?_
  · intro p e s m args below meth c A H0 ad0 n0 Q F hml hNw hA hX
    exact ⟨zco_obj F hml ⟨zlX6_init_3, zlib_obj⟩ ⟨Nat.le_of_ble_eq_true rfl, Nat.le_of_ble_eq_true rfl⟩, trivial⟩
  · rintro ⟨⟩ Ret hP hK Gl hG hE
    try dsimp only at hP hK
    show Gl 0 (zent 1 [.ref 86]) [] (0, 0) (znew ((86, zSH, zQ2, zs0, zt0) : zM) (6, 0))
    refine hG 400 _ _ _ _ _ ?_
    repeat (conv => whnf
            try dsimp only
            try simp (decide := true) only [zu_same, zu_ne1, zu_ne2, zu_row, zuL_same, zuL_ne1, zuL_ne2, zrow_n1, zx0, zx1, zx2, zx3, nI_1, Nat.reduceAdd, Nat.reduceMul, Int32.reduceAdd, Int32.reduceSub, Int32.reduceMul]
            first
            | refine ⟨vp_inb rfl, ?_⟩
            | refine ⟨fun h => absurd h (of_decide_eq_false rfl), fun _ => ?_⟩
            | refine ⟨fun _ => ?_, fun h => absurd (of_decide_eq_true rfl) h⟩
            | refine ⟨fun _ => ?_, fun h => absurd h (of_decide_eq_false rfl)⟩
            | refine ⟨fun h => absurd (of_decide_eq_true rfl) h, fun _ => ?_⟩
            | refine ⟨of_decide_eq_true rfl, ?_⟩
            | refine ⟨rfl, ?_⟩)
    try (conv => whnf)
    refine ⟨_, rfl, ?_⟩
    repeat (conv => whnf
            try dsimp only
            try simp (decide := true) only [zu_same, zu_ne1, zu_ne2, zu_row, zuL_same, zuL_ne1, zuL_ne2, zrow_n1, zx0, zx1, zx2, zx3, nI_1, Nat.reduceAdd, Nat.reduceMul, Int32.reduceAdd, Int32.reduceSub, Int32.reduceMul]
            first
            | refine ⟨vp_inb rfl, ?_⟩
            | refine ⟨fun h => absurd h (of_decide_eq_false rfl), fun _ => ?_⟩
            | refine ⟨fun _ => ?_, fun h => absurd (of_decide_eq_true rfl) h⟩
            | refine ⟨fun _ => ?_, fun h => absurd h (of_decide_eq_false rfl)⟩
            | refine ⟨fun h => absurd (of_decide_eq_true rfl) h, fun _ => ?_⟩
            | refine ⟨of_decide_eq_true rfl, ?_⟩
            | refine ⟨rfl, ?_⟩)
    try (conv => whnf)
    refine hE _ _ _ _ _ ((90, zSH, zQ2, zs0, zt0) : zM) ⟨rfl, zAll_of 90 _ ?_, rfl⟩ ?_
    · skip
      repeat (first
            | exact True.intro
            | refine And.intro ?_ (by first
                | exact ⟨rfl, rfl, rfl, rfl⟩
                | exact ⟨rfl, by first | rfl | exact zfe 64 (by decide +kernel) (fun _ => rfl), by first | rfl | exact zfe 64 (by decide +kernel) (fun _ => rfl), rfl⟩))
    refine hG 5 _ _ _ _ _ ?_
    repeat (conv => whnf
            try dsimp only
            try simp (decide := true) only [zu_same, zu_ne1, zu_ne2, zu_row, zuL_same, zuL_ne1, zuL_ne2, zrow_n1, zx0, zx1, zx2, zx3, nI_1, Nat.reduceAdd, Nat.reduceMul, Int32.reduceAdd, Int32.reduceSub, Int32.reduceMul]
            first
            | refine ⟨vp_inb rfl, ?_⟩
            | refine ⟨fun h => absurd h (of_decide_eq_false rfl), fun _ => ?_⟩
            | refine ⟨fun _ => ?_, fun h => absurd (of_decide_eq_true rfl) h⟩
            | refine ⟨fun _ => ?_, fun h => absurd h (of_decide_eq_false rfl)⟩
            | refine ⟨fun h => absurd (of_decide_eq_true rfl) h, fun _ => ?_⟩
            | refine ⟨of_decide_eq_true rfl, ?_⟩
            | refine ⟨rfl, ?_⟩)
    try (conv => whnf)
    exact hK
def spX0_init : zSp := zD (X := Unit) (fun x => match x with | () => [.ref 90, .ref 1, .ref 17, .ref 86]) (fun x => match x with | () => znew ((90, zSH, zQ3, zs0, zt0) : zM) (0, 0)) (fun x => match x with | () => True) (fun x => match x with | () => none) (fun x => match x with | () => ((94, zSH, zQ3, zs0, zt0) : zM))
abbrev rmX0_init : Room := ({ frames := 1, cells := 5, slots := 3000, locals := 26 } : Room)
set_option maxRecDepth 100000 in
set_option maxHeartbeats 4000000 in
theorem ctX0_init (l : Launch) (D : va_G) (cA : Nat → ClassId) : zCt false l D cA yX0_init cX0_init 4 (none) rmX0_init spX0_init := by
  refine zct_DE (zCX0_init [(3, 2, 0, spObj, 0, 0)]) zpX0_init [46] (by decide +kernel) zkX0_init (Or.inl rfl) trivial ⟨by decide +kernel, by decide +kernel⟩ (fun x ad => Nat.le_of_ble_eq_true rfl) ?_ ?_
  · intro p e s m args below meth c A H0 ad0 n0 Q F hml hNw hA hX
    exact ⟨zco_obj F hml ⟨zlX0_init_3, zlib_obj⟩ ⟨Nat.le_of_ble_eq_true rfl, Nat.le_of_ble_eq_true rfl⟩, trivial⟩
  · rintro ⟨⟩ Ret hP hK Gl hG hE
    try dsimp only at hP hK
    show Gl 0 (zent 4 [.ref 90, .ref 1, .ref 17, .ref 86]) [] (0, 0) (znew ((90, zSH, zQ3, zs0, zt0) : zM) (0, 0))
    refine hG 400 _ _ _ _ _ ?_
    repeat (conv => whnf
            try dsimp only
            try simp (decide := true) only [zu_same, zu_ne1, zu_ne2, zu_row, zuL_same, zuL_ne1, zuL_ne2, zrow_n1, zx0, zx1, zx2, zx3, nI_1, Nat.reduceAdd, Nat.reduceMul, Int32.reduceAdd, Int32.reduceSub, Int32.reduceMul]
            first
            | refine ⟨vp_inb rfl, ?_⟩
            | refine ⟨fun h => absurd h (of_decide_eq_false rfl), fun _ => ?_⟩
            | refine ⟨fun _ => ?_, fun h => absurd (of_decide_eq_true rfl) h⟩
            | refine ⟨fun _ => ?_, fun h => absurd h (of_decide_eq_false rfl)⟩
            | refine ⟨fun h => absurd (of_decide_eq_true rfl) h, fun _ => ?_⟩
            | refine ⟨of_decide_eq_true rfl, ?_⟩
            | refine ⟨rfl, ?_⟩)
    try (conv => whnf)
    refine ⟨_, rfl, ?_⟩
    repeat (conv => whnf
            try dsimp only
            try simp (decide := true) only [zu_same, zu_ne1, zu_ne2, zu_row, zuL_same, zuL_ne1, zuL_ne2, zrow_n1, zx0, zx1, zx2, zx3, nI_1, Nat.reduceAdd, Nat.reduceMul, Int32.reduceAdd, Int32.reduceSub, Int32.reduceMul]
            first
            | refine ⟨vp_inb rfl, ?_⟩
            | refine ⟨fun h => absurd h (of_decide_eq_false rfl), fun _ => ?_⟩
            | refine ⟨fun _ => ?_, fun h => absurd (of_decide_eq_true rfl) h⟩
            | refine ⟨fun _ => ?_, fun h => absurd h (of_decide_eq_false rfl)⟩
            | refine ⟨fun h => absurd (of_decide_eq_true rfl) h, fun _ => ?_⟩
            | refine ⟨of_decide_eq_true rfl, ?_⟩
            | refine ⟨rfl, ?_⟩)
    try (conv => whnf)
    refine hE _ _ _ _ _ ((94, zSH, zQ3, zs0, zt0) : zM) ⟨rfl, zAll_of 94 _ ?_, rfl⟩ ?_
    · skip
      repeat (first
            | exact True.intro
            | refine And.intro ?_ (by first
                | exact ⟨rfl, rfl, rfl, rfl⟩
                | exact ⟨rfl, by first | rfl | exact zfe 64 (by decide +kernel) (fun _ => rfl), by first | rfl | exact zfe 64 (by decide +kernel) (fun _ => rfl), rfl⟩))
    refine hG 5 _ _ _ _ _ ?_
    repeat (conv => whnf
            try dsimp only
            try simp (decide := true) only [zu_same, zu_ne1, zu_ne2, zu_row, zuL_same, zuL_ne1, zuL_ne2, zrow_n1, zx0, zx1, zx2, zx3, nI_1, Nat.reduceAdd, Nat.reduceMul, Int32.reduceAdd, Int32.reduceSub, Int32.reduceMul]
            first
            | refine ⟨vp_inb rfl, ?_⟩
            | refine ⟨fun h => absurd h (of_decide_eq_false rfl), fun _ => ?_⟩
            | refine ⟨fun _ => ?_, fun h => absurd (of_decide_eq_true rfl) h⟩
            | refine ⟨fun _ => ?_, fun h => absurd h (of_decide_eq_false rfl)⟩
            | refine ⟨fun h => absurd (of_decide_eq_true rfl) h, fun _ => ?_⟩
            | refine ⟨of_decide_eq_true rfl, ?_⟩
            | refine ⟨rfl, ?_⟩)
    try (conv => whnf)
    exact hK
def spX1_init : zSp := zD (X := Unit) (fun x => match x with | () => [.ref 94, .ref 17, .ref 86]) (fun x => match x with | () => znew ((94, zSH, zQ4, zs0, zt0) : zM) (1, 0)) (fun x => match x with | () => True) (fun x => match x with | () => none) (fun x => match x with | () => ((100, zSH, zQ4, zs0, zt0) : zM))
abbrev rmX1_init : Room := ({ frames := 1, cells := 6, slots := 100, locals := 26 } : Room)
set_option maxRecDepth 100000 in
set_option maxHeartbeats 4000000 in
theorem ctX1_init (l : Launch) (D : va_G) (cA : Nat → ClassId) : zCt false l D cA yX1_init cX1_init 3 (none) rmX1_init spX1_init := by
  refine zct_DE (zCX1_init [(3, 2, 0, spObj, 0, 0)]) zpX1_init [54] (by decide +kernel) zkX1_init (Or.inl rfl) trivial ⟨by decide +kernel, by decide +kernel⟩ (fun x ad => Nat.le_of_ble_eq_true rfl) ?_ ?_
  · intro p e s m args below meth c A H0 ad0 n0 Q F hml hNw hA hX
    exact ⟨zco_obj F hml ⟨zlX1_init_3, zlib_obj⟩ ⟨Nat.le_of_ble_eq_true rfl, Nat.le_of_ble_eq_true rfl⟩, trivial⟩
  · rintro ⟨⟩ Ret hP hK Gl hG hE
    try dsimp only at hP hK
    show Gl 0 (zent 3 [.ref 94, .ref 17, .ref 86]) [] (0, 0) (znew ((94, zSH, zQ4, zs0, zt0) : zM) (1, 0))
    refine hG 400 _ _ _ _ _ ?_
    repeat (conv => whnf
            try dsimp only
            try simp (decide := true) only [zu_same, zu_ne1, zu_ne2, zu_row, zuL_same, zuL_ne1, zuL_ne2, zrow_n1, zx0, zx1, zx2, zx3, nI_1, Nat.reduceAdd, Nat.reduceMul, Int32.reduceAdd, Int32.reduceSub, Int32.reduceMul]
            first
            | refine ⟨vp_inb rfl, ?_⟩
            | refine ⟨fun h => absurd h (of_decide_eq_false rfl), fun _ => ?_⟩
            | refine ⟨fun _ => ?_, fun h => absurd (of_decide_eq_true rfl) h⟩
            | refine ⟨fun _ => ?_, fun h => absurd h (of_decide_eq_false rfl)⟩
            | refine ⟨fun h => absurd (of_decide_eq_true rfl) h, fun _ => ?_⟩
            | refine ⟨of_decide_eq_true rfl, ?_⟩
            | refine ⟨rfl, ?_⟩)
    try (conv => whnf)
    refine ⟨_, rfl, ?_⟩
    repeat (conv => whnf
            try dsimp only
            try simp (decide := true) only [zu_same, zu_ne1, zu_ne2, zu_row, zuL_same, zuL_ne1, zuL_ne2, zrow_n1, zx0, zx1, zx2, zx3, nI_1, Nat.reduceAdd, Nat.reduceMul, Int32.reduceAdd, Int32.reduceSub, Int32.reduceMul]
            first
            | refine ⟨vp_inb rfl, ?_⟩
            | refine ⟨fun h => absurd h (of_decide_eq_false rfl), fun _ => ?_⟩
            | refine ⟨fun _ => ?_, fun h => absurd (of_decide_eq_true rfl) h⟩
            | refine ⟨fun _ => ?_, fun h => absurd h (of_decide_eq_false rfl)⟩
            | refine ⟨fun h => absurd (of_decide_eq_true rfl) h, fun _ => ?_⟩
            | refine ⟨of_decide_eq_true rfl, ?_⟩
            | refine ⟨rfl, ?_⟩)
    try (conv => whnf)
    refine hE _ _ _ _ _ ((100, zSH, zQ4, zs0, zt0) : zM) ⟨rfl, zAll_of 100 _ ?_, rfl⟩ ?_
    · skip
      repeat (first
            | exact True.intro
            | refine And.intro ?_ (by first
                | exact ⟨rfl, rfl, rfl, rfl⟩
                | exact ⟨rfl, by first | rfl | exact zfe 64 (by decide +kernel) (fun _ => rfl), by first | rfl | exact zfe 64 (by decide +kernel) (fun _ => rfl), rfl⟩))
    refine hG 5 _ _ _ _ _ ?_
    repeat (conv => whnf
            try dsimp only
            try simp (decide := true) only [zu_same, zu_ne1, zu_ne2, zu_row, zuL_same, zuL_ne1, zuL_ne2, zrow_n1, zx0, zx1, zx2, zx3, nI_1, Nat.reduceAdd, Nat.reduceMul, Int32.reduceAdd, Int32.reduceSub, Int32.reduceMul]
            first
            | refine ⟨vp_inb rfl, ?_⟩
            | refine ⟨fun h => absurd h (of_decide_eq_false rfl), fun _ => ?_⟩
            | refine ⟨fun _ => ?_, fun h => absurd (of_decide_eq_true rfl) h⟩
            | refine ⟨fun _ => ?_, fun h => absurd h (of_decide_eq_false rfl)⟩
            | refine ⟨fun h => absurd (of_decide_eq_true rfl) h, fun _ => ?_⟩
            | refine ⟨of_decide_eq_true rfl, ?_⟩
            | refine ⟨rfl, ?_⟩)
    try (conv => whnf)
    exact hK
def spX4_init : zSp := zD (X := Unit) (fun x => match x with | () => [.ref 100, .ref 1, .ref 17, .ref 86, .ref 90, .ref 94]) (fun x => match x with | () => znew ((100, zSH, zQ5, zs0, zt0) : zM) (4, 0)) (fun x => match x with | () => True) (fun x => match x with | () => none) (fun x => match x with | () => ((102, zSH, zQ5, zs0, zt0) : zM))
abbrev rmX4_init : Room := ({ frames := 1, cells := 2, slots := 80, locals := 26 } : Room)
set_option maxRecDepth 100000 in
set_option maxHeartbeats 4000000 in
theorem ctX4_init (l : Launch) (D : va_G) (cA : Nat → ClassId) : zCt false l D cA yX4_init cX4_init 6 (none) rmX4_init spX4_init := by
  refine zct_DE (zCX4_init [(3, 2, 0, spObj, 0, 0)]) zpX4_init [45] (by decide +kernel) zkX4_init (Or.inl rfl) trivial ⟨by decide +kernel, by decide +kernel⟩ (fun x ad => Nat.le_of_ble_eq_true rfl) ?_ ?_
  · intro p e s m args below meth c A H0 ad0 n0 Q F hml hNw hA hX
    exact ⟨zco_obj F hml ⟨zlX4_init_3, zlib_obj⟩ ⟨Nat.le_of_ble_eq_true rfl, Nat.le_of_ble_eq_true rfl⟩, trivial⟩
  · rintro ⟨⟩ Ret hP hK Gl hG hE
    try dsimp only at hP hK
    show Gl 0 (zent 6 [.ref 100, .ref 1, .ref 17, .ref 86, .ref 90, .ref 94]) [] (0, 0) (znew ((100, zSH, zQ5, zs0, zt0) : zM) (4, 0))
    refine hG 400 _ _ _ _ _ ?_
    repeat (conv => whnf
            try dsimp only
            try simp (decide := true) only [zu_same, zu_ne1, zu_ne2, zu_row, zuL_same, zuL_ne1, zuL_ne2, zrow_n1, zx0, zx1, zx2, zx3, nI_1, Nat.reduceAdd, Nat.reduceMul, Int32.reduceAdd, Int32.reduceSub, Int32.reduceMul]
            first
            | refine ⟨vp_inb rfl, ?_⟩
            | refine ⟨fun h => absurd h (of_decide_eq_false rfl), fun _ => ?_⟩
            | refine ⟨fun _ => ?_, fun h => absurd (of_decide_eq_true rfl) h⟩
            | refine ⟨fun _ => ?_, fun h => absurd h (of_decide_eq_false rfl)⟩
            | refine ⟨fun h => absurd (of_decide_eq_true rfl) h, fun _ => ?_⟩
            | refine ⟨of_decide_eq_true rfl, ?_⟩
            | refine ⟨rfl, ?_⟩)
    try (conv => whnf)
    refine ⟨_, rfl, ?_⟩
    repeat (conv => whnf
            try dsimp only
            try simp (decide := true) only [zu_same, zu_ne1, zu_ne2, zu_row, zuL_same, zuL_ne1, zuL_ne2, zrow_n1, zx0, zx1, zx2, zx3, nI_1, Nat.reduceAdd, Nat.reduceMul, Int32.reduceAdd, Int32.reduceSub, Int32.reduceMul]
            first
            | refine ⟨vp_inb rfl, ?_⟩
            | refine ⟨fun h => absurd h (of_decide_eq_false rfl), fun _ => ?_⟩
            | refine ⟨fun _ => ?_, fun h => absurd (of_decide_eq_true rfl) h⟩
            | refine ⟨fun _ => ?_, fun h => absurd h (of_decide_eq_false rfl)⟩
            | refine ⟨fun h => absurd (of_decide_eq_true rfl) h, fun _ => ?_⟩
            | refine ⟨of_decide_eq_true rfl, ?_⟩
            | refine ⟨rfl, ?_⟩)
    try (conv => whnf)
    refine hE _ _ _ _ _ ((102, zSH, zQ5, zs0, zt0) : zM) ⟨rfl, zAll_of 102 _ ?_, rfl⟩ ?_
    · skip
      repeat (first
            | exact True.intro
            | refine And.intro ?_ (by first
                | exact ⟨rfl, rfl, rfl, rfl⟩
                | exact ⟨rfl, by first | rfl | exact zfe 64 (by decide +kernel) (fun _ => rfl), by first | rfl | exact zfe 64 (by decide +kernel) (fun _ => rfl), rfl⟩))
    refine hG 5 _ _ _ _ _ ?_
    repeat (conv => whnf
            try dsimp only
            try simp (decide := true) only [zu_same, zu_ne1, zu_ne2, zu_row, zuL_same, zuL_ne1, zuL_ne2, zrow_n1, zx0, zx1, zx2, zx3, nI_1, Nat.reduceAdd, Nat.reduceMul, Int32.reduceAdd, Int32.reduceSub, Int32.reduceMul]
            first
            | refine ⟨vp_inb rfl, ?_⟩
            | refine ⟨fun h => absurd h (of_decide_eq_false rfl), fun _ => ?_⟩
            | refine ⟨fun _ => ?_, fun h => absurd (of_decide_eq_true rfl) h⟩
            | refine ⟨fun _ => ?_, fun h => absurd h (of_decide_eq_false rfl)⟩
            | refine ⟨fun h => absurd (of_decide_eq_true rfl) h, fun _ => ?_⟩
            | refine ⟨of_decide_eq_true rfl, ?_⟩
            | refine ⟨rfl, ?_⟩)
    try (conv => whnf)
    exact hK
def spX3_init : zSp := zD (X := Bool) (fun x => match x with | b => [.ref (cond b 102 106)]) (fun x => match x with | b => (cond b (znew ((102, zSH, zQ6, zs0, zt0) : zM) (3, 0)) (znew ((106, zSH, zQ7, zs0, zt0) : zM) (3, 0)))) (fun x => match x with | b => True) (fun x => match x with | b => none) (fun x => match x with | b => (cond b ((106, zSH, zQ6, zs0, zt0) : zM) ((110, zSH, zQ7, zs0, zt0) : zM)))
abbrev rmX3_init : Room := ({ frames := 1, cells := 4, slots := 80, locals := 26 } : Room)
set_option maxRecDepth 100000 in
set_option maxHeartbeats 4000000 in
theorem ctX3_init (l : Launch) (D : va_G) (cA : Nat → ClassId) : zCt false l D cA yX3_init cX3_init 1 (none) rmX3_init spX3_init := by
  refine zct_DE (zCX3_init [(3, 2, 0, spObj, 0, 0)]) zpX3_init [28] (by decide +kernel) zkX3_init (Or.inl rfl) trivial ⟨by decide +kernel, by decide +kernel⟩ (fun x ad => Nat.le_of_ble_eq_true rfl) ?_ ?_
  · intro p e s m args below meth c A H0 ad0 n0 Q F hml hNw hA hX
    exact ⟨zco_obj F hml ⟨zlX3_init_3, zlib_obj⟩ ⟨Nat.le_of_ble_eq_true rfl, Nat.le_of_ble_eq_true rfl⟩, trivial⟩
  · rintro b Ret hP hK Gl hG hE
    try dsimp only at hP hK
    show Gl 0 (zent 1 [.ref (cond b 102 106)]) [] (0, 0) ((cond b (znew ((102, zSH, zQ6, zs0, zt0) : zM) (3, 0)) (znew ((106, zSH, zQ7, zs0, zt0) : zM) (3, 0))))
    cases b
    all_goals
      refine hG 400 _ _ _ _ _ ?_
      repeat (conv => whnf
              try dsimp only
              try simp (decide := true) only [zu_same, zu_ne1, zu_ne2, zu_row, zuL_same, zuL_ne1, zuL_ne2, zrow_n1, zx0, zx1, zx2, zx3, nI_1, Nat.reduceAdd, Nat.reduceMul, Int32.reduceAdd, Int32.reduceSub, Int32.reduceMul]
              first
              | refine ⟨vp_inb rfl, ?_⟩
              | refine ⟨fun h => absurd h (of_decide_eq_false rfl), fun _ => ?_⟩
              | refine ⟨fun _ => ?_, fun h => absurd (of_decide_eq_true rfl) h⟩
              | refine ⟨fun _ => ?_, fun h => absurd h (of_decide_eq_false rfl)⟩
              | refine ⟨fun h => absurd (of_decide_eq_true rfl) h, fun _ => ?_⟩
              | refine ⟨of_decide_eq_true rfl, ?_⟩
              | refine ⟨rfl, ?_⟩)
      try (conv => whnf)
      refine ⟨_, rfl, ?_⟩
      repeat (conv => whnf
              try dsimp only
              try simp (decide := true) only [zu_same, zu_ne1, zu_ne2, zu_row, zuL_same, zuL_ne1, zuL_ne2, zrow_n1, zx0, zx1, zx2, zx3, nI_1, Nat.reduceAdd, Nat.reduceMul, Int32.reduceAdd, Int32.reduceSub, Int32.reduceMul]
              first
              | refine ⟨vp_inb rfl, ?_⟩
              | refine ⟨fun h => absurd h (of_decide_eq_false rfl), fun _ => ?_⟩
              | refine ⟨fun _ => ?_, fun h => absurd (of_decide_eq_true rfl) h⟩
              | refine ⟨fun _ => ?_, fun h => absurd h (of_decide_eq_false rfl)⟩
              | refine ⟨fun h => absurd (of_decide_eq_true rfl) h, fun _ => ?_⟩
              | refine ⟨of_decide_eq_true rfl, ?_⟩
              | refine ⟨rfl, ?_⟩)
      try (conv => whnf)
    · skip
      refine hE _ _ _ _ _ ((110, zSH, zQ7, zs0, zt0) : zM) ⟨rfl, zAll_of 110 _ ?_, rfl⟩ ?_
      · skip
        repeat (first
              | exact True.intro
              | refine And.intro ?_ (by first
                  | exact ⟨rfl, rfl, rfl, rfl⟩
                  | exact ⟨rfl, by first | rfl | exact zfe 64 (by decide +kernel) (fun _ => rfl), by first | rfl | exact zfe 64 (by decide +kernel) (fun _ => rfl), rfl⟩))
      refine hG 5 _ _ _ _ _ ?_
      repeat (conv => whnf
              try dsimp only
              try simp (decide := true) only [zu_same, zu_ne1, zu_ne2, zu_row, zuL_same, zuL_ne1, zuL_ne2, zrow_n1, zx0, zx1, zx2, zx3, nI_1, Nat.reduceAdd, Nat.reduceMul, Int32.reduceAdd, Int32.reduceSub, Int32.reduceMul]
              first
              | refine ⟨vp_inb rfl, ?_⟩
              | refine ⟨fun h => absurd h (of_decide_eq_false rfl), fun _ => ?_⟩
              | refine ⟨fun _ => ?_, fun h => absurd (of_decide_eq_true rfl) h⟩
              | refine ⟨fun _ => ?_, fun h => absurd h (of_decide_eq_false rfl)⟩
              | refine ⟨fun h => absurd (of_decide_eq_true rfl) h, fun _ => ?_⟩
              | refine ⟨of_decide_eq_true rfl, ?_⟩
              | refine ⟨rfl, ?_⟩)
      try (conv => whnf)
      exact hK
    · skip
      refine hE _ _ _ _ _ ((106, zSH, zQ6, zs0, zt0) : zM) ⟨rfl, zAll_of 106 _ ?_, rfl⟩ ?_
      · skip
        repeat (first
              | exact True.intro
              | refine And.intro ?_ (by first
                  | exact ⟨rfl, rfl, rfl, rfl⟩
                  | exact ⟨rfl, by first | rfl | exact zfe 64 (by decide +kernel) (fun _ => rfl), by first | rfl | exact zfe 64 (by decide +kernel) (fun _ => rfl), rfl⟩))
      refine hG 5 _ _ _ _ _ ?_
      repeat (conv => whnf
              try dsimp only
              try simp (decide := true) only [zu_same, zu_ne1, zu_ne2, zu_row, zuL_same, zuL_ne1, zuL_ne2, zrow_n1, zx0, zx1, zx2, zx3, nI_1, Nat.reduceAdd, Nat.reduceMul, Int32.reduceAdd, Int32.reduceSub, Int32.reduceMul]
              first
              | refine ⟨vp_inb rfl, ?_⟩
              | refine ⟨fun h => absurd h (of_decide_eq_false rfl), fun _ => ?_⟩
              | refine ⟨fun _ => ?_, fun h => absurd (of_decide_eq_true rfl) h⟩
              | refine ⟨fun _ => ?_, fun h => absurd h (of_decide_eq_false rfl)⟩
              | refine ⟨fun h => absurd (of_decide_eq_true rfl) h, fun _ => ?_⟩
              | refine ⟨of_decide_eq_true rfl, ?_⟩
              | refine ⟨rfl, ?_⟩)
      try (conv => whnf)
      exact hK
def spX7_init : zSp := zD (X := Unit) (fun x => match x with | () => [.ref 0]) (fun x => match x with | () => ((1, zSH, zQ0, zs0, zt0) : zM)) (fun x => match x with | () => True) (fun x => match x with | () => none) (fun x => match x with | () => ((119, zSH, zRH, zs0, zt0) : zM))
abbrev rmX7_init : Room := ({ frames := 2, cells := 200, slots := 6000, locals := 51 } : Room)
set_option maxRecDepth 100000 in
set_option maxHeartbeats 4000000 in
theorem ctX7_init (l : Launch) (D : va_G) (cA : Nat → ClassId) : zCt false l D cA yX7_init cX7_init 2 (none) rmX7_init spX7_init := by
  refine zct_DE (zCX7_init [(1, 2, 0, spObj, 0, 0), (9, 2, 0, spX5_init, rmX5_init.cells, rmX5_init.slots), (18, 2, 0, spX2_init, rmX2_init.cells, rmX2_init.slots), (25, 2, 0, spX6_init, rmX6_init.cells, rmX6_init.slots), (32, 2, 3, spX0_init, rmX0_init.cells, rmX0_init.slots), (41, 2, 2, spX1_init, rmX1_init.cells, rmX1_init.slots), (50, 2, 5, spX4_init, rmX4_init.cells, rmX4_init.slots), (59, 2, 0, spX3_init, rmX3_init.cells, rmX3_init.slots)]) zpX7_init [194] (by decide +kernel) zkX7_init (Or.inl rfl) trivial ⟨by decide +kernel, by decide +kernel⟩ (fun x ad => Nat.le_of_ble_eq_true rfl) ?_ ?_
  · intro p e s m args below meth c A H0 ad0 n0 Q F hml hNw hA hX
    exact ⟨zco_obj F hml ⟨zlX7_init_1, zlib_obj⟩ ⟨Nat.le_of_ble_eq_true rfl, Nat.le_of_ble_eq_true rfl⟩, zco_I hX hA F hml hNw (ctX5_init l D cA) ⟨⟨zlX7_init_9, zwX5_init.1.1, zwX5_init.1.2⟩, zwX5_init.2⟩ zdX5_init ⟨Nat.le_of_ble_eq_true rfl, Nat.le_of_ble_eq_true rfl⟩ (by rintro av μ K ⟨x, rfl, rfl, -⟩; exact ⟨_, _, rfl⟩), zco_IN hX hA F hml hNw (ctX2_init l D cA) ⟨⟨zlX7_init_18, zwX2_init.1.1, zwX2_init.1.2⟩, zwX2_init.2⟩ zdX2_init ⟨Nat.le_of_ble_eq_true rfl, Nat.le_of_ble_eq_true rfl⟩ (by rintro av μ K ⟨x, rfl, rfl, -⟩; exact ⟨_, _, rfl⟩), zco_IN hX hA F hml hNw (ctX6_init l D cA) ⟨⟨zlX7_init_25, zwX6_init.1.1, zwX6_init.1.2⟩, zwX6_init.2⟩ zdX6_init ⟨Nat.le_of_ble_eq_true rfl, Nat.le_of_ble_eq_true rfl⟩ (by rintro av μ K ⟨x, rfl, rfl, -⟩; exact ⟨_, _, rfl⟩), zco_I hX hA F hml hNw (ctX0_init l D cA) ⟨⟨zlX7_init_32, zwX0_init.1.1, zwX0_init.1.2⟩, zwX0_init.2⟩ zdX0_init ⟨Nat.le_of_ble_eq_true rfl, Nat.le_of_ble_eq_true rfl⟩ (by rintro av μ K ⟨x, rfl, rfl, -⟩; exact ⟨_, _, rfl⟩), zco_I hX hA F hml hNw (ctX1_init l D cA) ⟨⟨zlX7_init_41, zwX1_init.1.1, zwX1_init.1.2⟩, zwX1_init.2⟩ zdX1_init ⟨Nat.le_of_ble_eq_true rfl, Nat.le_of_ble_eq_true rfl⟩ (by rintro av μ K ⟨x, rfl, rfl, -⟩; exact ⟨_, _, rfl⟩), zco_I hX hA F hml hNw (ctX4_init l D cA) ⟨⟨zlX7_init_50, zwX4_init.1.1, zwX4_init.1.2⟩, zwX4_init.2⟩ zdX4_init ⟨Nat.le_of_ble_eq_true rfl, Nat.le_of_ble_eq_true rfl⟩ (by rintro av μ K ⟨x, rfl, rfl, -⟩; exact ⟨_, _, rfl⟩), zco_IN hX hA F hml hNw (ctX3_init l D cA) ⟨⟨zlX7_init_59, zwX3_init.1.1, zwX3_init.1.2⟩, zwX3_init.2⟩ zdX3_init ⟨Nat.le_of_ble_eq_true rfl, Nat.le_of_ble_eq_true rfl⟩ (by rintro av μ K ⟨x, rfl, rfl, -⟩; exact ⟨_, _, rfl⟩), trivial⟩
  · rintro ⟨⟩ Ret hP hK Gl hG hE
    try dsimp only at hP hK
    show Gl 0 (zent 2 [.ref 0]) [] (0, 0) (((1, zSH, zQ0, zs0, zt0) : zM))
    refine hG 400 _ _ _ _ _ ?_
    repeat (conv => whnf
            try dsimp only
            try simp (decide := true) only [zu_same, zu_ne1, zu_ne2, zu_row, zuL_same, zuL_ne1, zuL_ne2, zrow_n1, zx0, zx1, zx2, zx3, nI_1, Nat.reduceAdd, Nat.reduceMul, Int32.reduceAdd, Int32.reduceSub, Int32.reduceMul]
            first
            | refine ⟨vp_inb rfl, ?_⟩
            | refine ⟨fun h => absurd h (of_decide_eq_false rfl), fun _ => ?_⟩
            | refine ⟨fun _ => ?_, fun h => absurd (of_decide_eq_true rfl) h⟩
            | refine ⟨fun _ => ?_, fun h => absurd h (of_decide_eq_false rfl)⟩
            | refine ⟨fun h => absurd (of_decide_eq_true rfl) h, fun _ => ?_⟩
            | refine ⟨of_decide_eq_true rfl, ?_⟩
            | refine ⟨rfl, ?_⟩)
    try (conv => whnf)
    refine ⟨_, rfl, ?_⟩
    repeat (conv => whnf
            try dsimp only
            try simp (decide := true) only [zu_same, zu_ne1, zu_ne2, zu_row, zuL_same, zuL_ne1, zuL_ne2, zrow_n1, zx0, zx1, zx2, zx3, nI_1, Nat.reduceAdd, Nat.reduceMul, Int32.reduceAdd, Int32.reduceSub, Int32.reduceMul]
            first
            | refine ⟨vp_inb rfl, ?_⟩
            | refine ⟨fun h => absurd h (of_decide_eq_false rfl), fun _ => ?_⟩
            | refine ⟨fun _ => ?_, fun h => absurd (of_decide_eq_true rfl) h⟩
            | refine ⟨fun _ => ?_, fun h => absurd h (of_decide_eq_false rfl)⟩
            | refine ⟨fun h => absurd (of_decide_eq_true rfl) h, fun _ => ?_⟩
            | refine ⟨of_decide_eq_true rfl, ?_⟩
            | refine ⟨rfl, ?_⟩)
    try (conv => whnf)
    refine ⟨(), rfl, rfl, trivial, ?_⟩
    try dsimp only [cond_true, cond_false]
    repeat (conv => whnf
            try dsimp only
            try simp (decide := true) only [zu_same, zu_ne1, zu_ne2, zu_row, zuL_same, zuL_ne1, zuL_ne2, zrow_n1, zx0, zx1, zx2, zx3, nI_1, Nat.reduceAdd, Nat.reduceMul, Int32.reduceAdd, Int32.reduceSub, Int32.reduceMul]
            first
            | refine ⟨vp_inb rfl, ?_⟩
            | refine ⟨fun h => absurd h (of_decide_eq_false rfl), fun _ => ?_⟩
            | refine ⟨fun _ => ?_, fun h => absurd (of_decide_eq_true rfl) h⟩
            | refine ⟨fun _ => ?_, fun h => absurd h (of_decide_eq_false rfl)⟩
            | refine ⟨fun h => absurd (of_decide_eq_true rfl) h, fun _ => ?_⟩
            | refine ⟨of_decide_eq_true rfl, ?_⟩
            | refine ⟨rfl, ?_⟩)
    try (conv => whnf)
    refine ⟨(), rfl, rfl, trivial, ?_⟩
    try dsimp only [cond_true, cond_false]
    repeat (conv => whnf
            try dsimp only
            try simp (decide := true) only [zu_same, zu_ne1, zu_ne2, zu_row, zuL_same, zuL_ne1, zuL_ne2, zrow_n1, zx0, zx1, zx2, zx3, nI_1, Nat.reduceAdd, Nat.reduceMul, Int32.reduceAdd, Int32.reduceSub, Int32.reduceMul]
            first
            | refine ⟨vp_inb rfl, ?_⟩
            | refine ⟨fun h => absurd h (of_decide_eq_false rfl), fun _ => ?_⟩
            | refine ⟨fun _ => ?_, fun h => absurd (of_decide_eq_true rfl) h⟩
            | refine ⟨fun _ => ?_, fun h => absurd h (of_decide_eq_false rfl)⟩
            | refine ⟨fun h => absurd (of_decide_eq_true rfl) h, fun _ => ?_⟩
            | refine ⟨of_decide_eq_true rfl, ?_⟩
            | refine ⟨rfl, ?_⟩)
    try (conv => whnf)
    refine ⟨(), rfl, rfl, trivial, ?_⟩
    try dsimp only [cond_true, cond_false]
    repeat (conv => whnf
            try dsimp only
            try simp (decide := true) only [zu_same, zu_ne1, zu_ne2, zu_row, zuL_same, zuL_ne1, zuL_ne2, zrow_n1, zx0, zx1, zx2, zx3, nI_1, Nat.reduceAdd, Nat.reduceMul, Int32.reduceAdd, Int32.reduceSub, Int32.reduceMul]
            first
            | refine ⟨vp_inb rfl, ?_⟩
            | refine ⟨fun h => absurd h (of_decide_eq_false rfl), fun _ => ?_⟩
            | refine ⟨fun _ => ?_, fun h => absurd (of_decide_eq_true rfl) h⟩
            | refine ⟨fun _ => ?_, fun h => absurd h (of_decide_eq_false rfl)⟩
            | refine ⟨fun h => absurd (of_decide_eq_true rfl) h, fun _ => ?_⟩
            | refine ⟨of_decide_eq_true rfl, ?_⟩
            | refine ⟨rfl, ?_⟩)
    try (conv => whnf)
    refine ⟨(), rfl, rfl, trivial, ?_⟩
    try dsimp only [cond_true, cond_false]
    repeat (conv => whnf
            try dsimp only
            try simp (decide := true) only [zu_same, zu_ne1, zu_ne2, zu_row, zuL_same, zuL_ne1, zuL_ne2, zrow_n1, zx0, zx1, zx2, zx3, nI_1, Nat.reduceAdd, Nat.reduceMul, Int32.reduceAdd, Int32.reduceSub, Int32.reduceMul]
            first
            | refine ⟨vp_inb rfl, ?_⟩
            | refine ⟨fun h => absurd h (of_decide_eq_false rfl), fun _ => ?_⟩
            | refine ⟨fun _ => ?_, fun h => absurd (of_decide_eq_true rfl) h⟩
            | refine ⟨fun _ => ?_, fun h => absurd h (of_decide_eq_false rfl)⟩
            | refine ⟨fun h => absurd (of_decide_eq_true rfl) h, fun _ => ?_⟩
            | refine ⟨of_decide_eq_true rfl, ?_⟩
            | refine ⟨rfl, ?_⟩)
    try (conv => whnf)
    refine ⟨(), rfl, rfl, trivial, ?_⟩
    try dsimp only [cond_true, cond_false]
    repeat (conv => whnf
            try dsimp only
            try simp (decide := true) only [zu_same, zu_ne1, zu_ne2, zu_row, zuL_same, zuL_ne1, zuL_ne2, zrow_n1, zx0, zx1, zx2, zx3, nI_1, Nat.reduceAdd, Nat.reduceMul, Int32.reduceAdd, Int32.reduceSub, Int32.reduceMul]
            first
            | refine ⟨vp_inb rfl, ?_⟩
            | refine ⟨fun h => absurd h (of_decide_eq_false rfl), fun _ => ?_⟩
            | refine ⟨fun _ => ?_, fun h => absurd (of_decide_eq_true rfl) h⟩
            | refine ⟨fun _ => ?_, fun h => absurd h (of_decide_eq_false rfl)⟩
            | refine ⟨fun h => absurd (of_decide_eq_true rfl) h, fun _ => ?_⟩
            | refine ⟨of_decide_eq_true rfl, ?_⟩
            | refine ⟨rfl, ?_⟩)
    try (conv => whnf)
    refine ⟨(), rfl, rfl, trivial, ?_⟩
    try dsimp only [cond_true, cond_false]
    repeat (conv => whnf
            try dsimp only
            try simp (decide := true) only [zu_same, zu_ne1, zu_ne2, zu_row, zuL_same, zuL_ne1, zuL_ne2, zrow_n1, zx0, zx1, zx2, zx3, nI_1, Nat.reduceAdd, Nat.reduceMul, Int32.reduceAdd, Int32.reduceSub, Int32.reduceMul]
            first
            | refine ⟨vp_inb rfl, ?_⟩
            | refine ⟨fun h => absurd h (of_decide_eq_false rfl), fun _ => ?_⟩
            | refine ⟨fun _ => ?_, fun h => absurd (of_decide_eq_true rfl) h⟩
            | refine ⟨fun _ => ?_, fun h => absurd h (of_decide_eq_false rfl)⟩
            | refine ⟨fun h => absurd (of_decide_eq_true rfl) h, fun _ => ?_⟩
            | refine ⟨of_decide_eq_true rfl, ?_⟩
            | refine ⟨rfl, ?_⟩)
    try (conv => whnf)
    refine ⟨true, rfl, rfl, trivial, ?_⟩
    try dsimp only [cond_true, cond_false]
    repeat (conv => whnf
            try dsimp only
            try simp (decide := true) only [zu_same, zu_ne1, zu_ne2, zu_row, zuL_same, zuL_ne1, zuL_ne2, zrow_n1, zx0, zx1, zx2, zx3, nI_1, Nat.reduceAdd, Nat.reduceMul, Int32.reduceAdd, Int32.reduceSub, Int32.reduceMul]
            first
            | refine ⟨vp_inb rfl, ?_⟩
            | refine ⟨fun h => absurd h (of_decide_eq_false rfl), fun _ => ?_⟩
            | refine ⟨fun _ => ?_, fun h => absurd (of_decide_eq_true rfl) h⟩
            | refine ⟨fun _ => ?_, fun h => absurd h (of_decide_eq_false rfl)⟩
            | refine ⟨fun h => absurd (of_decide_eq_true rfl) h, fun _ => ?_⟩
            | refine ⟨of_decide_eq_true rfl, ?_⟩
            | refine ⟨rfl, ?_⟩)
    try (conv => whnf)
    refine ⟨false, rfl, rfl, trivial, ?_⟩
    try dsimp only [cond_true, cond_false]
    repeat (conv => whnf
            try dsimp only
            try simp (decide := true) only [zu_same, zu_ne1, zu_ne2, zu_row, zuL_same, zuL_ne1, zuL_ne2, zrow_n1, zx0, zx1, zx2, zx3, nI_1, Nat.reduceAdd, Nat.reduceMul, Int32.reduceAdd, Int32.reduceSub, Int32.reduceMul]
            first
            | refine ⟨vp_inb rfl, ?_⟩
            | refine ⟨fun h => absurd h (of_decide_eq_false rfl), fun _ => ?_⟩
            | refine ⟨fun _ => ?_, fun h => absurd (of_decide_eq_true rfl) h⟩
            | refine ⟨fun _ => ?_, fun h => absurd h (of_decide_eq_false rfl)⟩
            | refine ⟨fun h => absurd (of_decide_eq_true rfl) h, fun _ => ?_⟩
            | refine ⟨of_decide_eq_true rfl, ?_⟩
            | refine ⟨rfl, ?_⟩)
    try (conv => whnf)
    refine hE _ _ _ _ _ ((119, zSH, zRH, zs0, zt0) : zM) ⟨rfl, zAll_of 119 _ ?_, rfl⟩ ?_
    · skip
      repeat (first
            | exact True.intro
            | refine And.intro ?_ (by first
                | exact ⟨rfl, rfl, rfl, rfl⟩
                | exact ⟨rfl, by first | rfl | exact zfe 64 (by decide +kernel) (fun _ => rfl), by first | rfl | exact zfe 64 (by decide +kernel) (fun _ => rfl), rfl⟩))
    refine hG 5 _ _ _ _ _ ?_
    repeat (conv => whnf
            try dsimp only
            try simp (decide := true) only [zu_same, zu_ne1, zu_ne2, zu_row, zuL_same, zuL_ne1, zuL_ne2, zrow_n1, zx0, zx1, zx2, zx3, nI_1, Nat.reduceAdd, Nat.reduceMul, Int32.reduceAdd, Int32.reduceSub, Int32.reduceMul]
            first
            | refine ⟨vp_inb rfl, ?_⟩
            | refine ⟨fun h => absurd h (of_decide_eq_false rfl), fun _ => ?_⟩
            | refine ⟨fun _ => ?_, fun h => absurd (of_decide_eq_true rfl) h⟩
            | refine ⟨fun _ => ?_, fun h => absurd h (of_decide_eq_false rfl)⟩
            | refine ⟨fun h => absurd (of_decide_eq_true rfl) h, fun _ => ?_⟩
            | refine ⟨of_decide_eq_true rfl, ?_⟩
            | refine ⟨rfl, ?_⟩)
    try (conv => whnf)
    exact hK

/-! ===== what parts are worth; how circles are solved ===== -/
def fKept (x : Int64) : Int32 := if 1000000000 < x then 1000000000 else if x < -1000000000 then -1000000000 else x.toInt32
abbrev zBRK : Int32 := -2000000000
def zrb (k : Nat) : Int64 := 1 <<< ((nI k).toInt64 &&& 63)
def zroot (y : Int64) : Nat → Int64 → Int64
  | 0, f => f
  | k + 1, f => if (f + zrb k) * (f + zrb k) ≤ y then zroot y k (f + zrb k) else zroot y k f
def fRoot (x : Int32) : Int32 := (zroot (x.toInt64 * 1000) 20 0).toInt32
/-- code, and the three rows of what is named -/
abbrev zPt : Type := (Nat → Int32) × (Nat → Int32) × (Nat → Int32) × (Nat → Int32)
def pRq (co x y z : Int32) : Int32 :=
  if x = zBRK then zBRK
  else if co = 9 then (if x < 0 then zBRK else fRoot x)
  else if co = 8 then (if 0 < x then y else z)
  else if y = zBRK then zBRK
  else if co = 2 then fKept (x.toInt64 + y.toInt64)
  else if co = 3 then fKept (x.toInt64 - y.toInt64)
  else if co = 4 then fKept (x.toInt64 * y.toInt64 / 1000)
  else if co = 5 then (if y = 0 then zBRK else fKept (x.toInt64 * 1000 / y.toInt64))
  else if co = 6 then (if y < x then y else x)
  else (if x < y then y else x)
def pRp (P : zPt) (A W : Nat → Int32) (k : Nat) : Int32 :=
  if P.1 k = 0 then P.2.1 k
  else if P.1 k = 1 then A (P.2.1 k).toNatClampNeg
  else pRq (P.1 k) (W (P.2.1 k).toNatClampNeg) (W (P.2.2.1 k).toNatClampNeg) (W (P.2.2.2 k).toNatClampNeg)
def pWk (P : zPt) (A : Nat → Int32) : Nat → (Nat → Int32)
  | 0 => fun _ => 0
  | k + 1 => fun j => if j = k then pRp P A (pWk P A k) k else pWk P A k j
def pW (P : zPt) (A : Nat → Int32) (k : Nat) : Int32 := pWk P A (k + 1) k
/-- a part names lower ones -/
def pRef (P : zPt) (k : Nat) : Prop := P.1 k = 0 ∨ P.1 k = 1 ∨ ((P.2.1 k).toNatClampNeg < k ∧ (P.2.2.1 k).toNatClampNeg < k ∧ (P.2.2.2 k).toNatClampNeg < k)
theorem pRp_congr {P : zPt} {A1 A2 W1 W2 : Nat → Int32} {k : Nat} (h1 : P.1 k = 1 → A1 (P.2.1 k).toNatClampNeg = A2 (P.2.1 k).toNatClampNeg)
    (h2 : ¬ P.1 k = 0 → ¬ P.1 k = 1 → W1 (P.2.1 k).toNatClampNeg = W2 (P.2.1 k).toNatClampNeg ∧ W1 (P.2.2.1 k).toNatClampNeg = W2 (P.2.2.1 k).toNatClampNeg ∧ W1 (P.2.2.2 k).toNatClampNeg = W2 (P.2.2.2 k).toNatClampNeg) : pRp P A1 W1 k = pRp P A2 W2 k := by
  unfold pRp
  by_cases e0 : P.1 k = 0
  · rw [if_pos e0, if_pos e0]
  · rw [if_neg e0, if_neg e0]
    by_cases e1 : P.1 k = 1
    · rw [if_pos e1, if_pos e1]
      exact h1 e1
    · rw [if_neg e1, if_neg e1, (h2 e0 e1).1, (h2 e0 e1).2.1, (h2 e0 e1).2.2]
theorem pWk_lt {P : zPt} {A : Nat → Int32} {j : Nat} : ∀ (m : Nat), j < m → pWk P A m j = pW P A j
  | 0, h => absurd h (Nat.not_lt_zero j)
  | m + 1, h => by
    by_cases e : j = m
    · rw [e]
      rfl
    · show (if j = m then _ else pWk P A m j) = _
      rw [if_neg e]
      exact pWk_lt m (by omega)
theorem pW_eq {P : zPt} {A : Nat → Int32} {k : Nat} (h : pRef P k) : pW P A k = pRp P A (pW P A) k := by
  show (if k = k then pRp P A (pWk P A k) k else _) = _
  rw [if_pos rfl]
  refine pRp_congr (fun _ => rfl) (fun h0 h1 => ?_)
  rcases h with h | h | h
  · exact absurd h h0
  · exact absurd h h1
  · exact ⟨pWk_lt k h.1, pWk_lt k h.2.1, pWk_lt k h.2.2⟩
/-- the masks of variables that a part leans on -/
def pLn (P : zPt) (pl : Nat → Int32) (k : Nat) : Prop := pRef P k ∧ (P.1 k = 1 → bt (pl k) (P.2.1 k).toNatClampNeg = true) ∧
  (¬ P.1 k = 0 → ¬ P.1 k = 1 → ∀ u, bt (pl (P.2.1 k).toNatClampNeg) u = true ∨ bt (pl (P.2.2.1 k).toNatClampNeg) u = true ∨ bt (pl (P.2.2.2 k).toNatClampNeg) u = true → bt (pl k) u = true)
theorem pW_dep {P : zPt} {pl : Nat → Int32} {pc : Nat} (hP : ∀ k, k < pc → pLn P pl k) {A1 A2 : Nat → Int32} : ∀ (m k : Nat), k < m → k < pc → (∀ v, bt (pl k) v = true → A1 v = A2 v) → pW P A1 k = pW P A2 k
  | 0, k, h, _, _ => absurd h (Nat.not_lt_zero k)
  | m + 1, k, h, hk, hA => by
    obtain ⟨hr, h1, h2⟩ := hP k hk
    rw [pW_eq hr, pW_eq hr]
    refine pRp_congr (fun e => hA _ (h1 e)) (fun e0 e1 => ?_)
    rcases hr with e | e | e
    · exact absurd e e0
    · exact absurd e e1
    · exact ⟨pW_dep hP m _ (by omega) (by omega) (fun v hv => hA v (h2 e0 e1 v (Or.inl hv))), pW_dep hP m _ (by omega) (by omega) (fun v hv => hA v (h2 e0 e1 v (Or.inr (Or.inl hv)))), pW_dep hP m _ (by omega) (by omega) (fun v hv => hA v (h2 e0 e1 v (Or.inr (Or.inr hv))))⟩
/-! one circle -/
def pSet (n : Nat) (m x : Int32) (A : Nat → Int32) (v : Nat) : Int32 := if v < n ∧ bt m v = true then x else A v
def pCh (g x d : Int32) : Int32 := ((g.toInt64 - x.toInt64) * d.toInt64 / 100).toInt32
def pAbs (x : Int32) : Int32 := if 0 ≤ x then x else 0 - x
def pMx (g x : Int32) : Int32 := if g < x then x else g
def pMt (P : zPt) (fo : Nat → Int32) (d m : Int32) (A : Nat → Int32) : Nat → Option (Int32 × (Nat → Int32))
  | 0 => some (0, A)
  | v + 1 => match pMt P fo d m A v with
    | none => none
    | some (g, B) => if bt m v = true ∧ ¬ fo v < 0 then
        (if pW P B (fo v).toNatClampNeg = zBRK then none
         else some (pMx g (pAbs (pCh (pW P B (fo v).toNatClampNeg) (B v) d)), fun u => if u = v then B v + pCh (pW P B (fo v).toNatClampNeg) (B v) d else B u))
      else some (g, B)
def pLo (P : zPt) (fo : Nat → Int32) (d sl : Int32) (n : Nat) (m : Int32) : Nat → Int32 → (Nat → Int32) → (Nat → Int32) × Int32 × Int32
  | 0, t, A => (A, t - 1, 1)
  | r + 1, t, A => match pMt P fo d m A n with
    | none => (pSet n m zBRK A, t, 0)
    | some (g, B) => if g ≤ sl then (B, t, 0) else pLo P fo d sl n m r (t + 1) B
/-- the rows of a model that solving reads: formulas, units, their factors; slack, damping, who has a fault -/
abbrev zMd : Type := zPt × (Nat → Int32) × (Nat → Int32) × (Nat → Int32) × (Nat → Int32) × Int32 × Int32 × Int32
def pWo (p q : Nat → Int32) (n u : Int32) : Int32 := fKept (n.toInt64 * (p u.toNatClampNeg).toInt64 / (q u.toNatClampNeg).toInt64)
def pSc (n : Nat) (R : Nat → Int32) (G : zMd) (S : Nat → Int32) (v : Nat) (A : Nat → Int32) : (Nat → Int32) × Int32 × Int32 :=
  if ¬ pCi n R v &&& G.2.2.2.2.2.2.2 = 0 then (pSet n (pCi n R v) zBRK A, 0, 0)
  else if bt (R v) v = true then pLo G.1 G.2.1 G.2.2.2.2.2.2.1 G.2.2.2.2.2.1 n (pCi n R v) 40 1 (pSet n (pCi n R v) 0 A)
  else (fun u => if u = v then (if G.2.1 v < 0 then pWo G.2.2.2.1 G.2.2.2.2.1 (S v) (G.2.2.1 v) else pW G.1 A (G.2.1 v).toNatClampNeg) else A u, 0, 0)
theorem pMt_out {P : zPt} {fo : Nat → Int32} {d m : Int32} {A : Nat → Int32} : ∀ (v : Nat) (g : Int32) (B : Nat → Int32), pMt P fo d m A v = some (g, B) → ∀ u, bt m u = false → B u = A u
  | 0, g, B, h, u, _ => by cases h; rfl
  | v + 1, g, B, h, u, hu => by
    unfold pMt at h
    cases h9 : pMt P fo d m A v with
    | none => rw [h9] at h; cases h
    | some x =>
      obtain ⟨g1, B1⟩ := x
      rw [h9] at h
      dsimp only at h
      have ih := pMt_out v g1 B1 h9 u hu
      split at h
      · rename_i hc
        split at h
        · cases h
        · cases h
          show (if u = v then _ else B1 u) = A u
          rw [if_neg (fun q => by rw [q, hc.1] at hu; cases hu)]
          exact ih
      · cases h
        exact ih
theorem pLo_out {P : zPt} {fo : Nat → Int32} {d sl : Int32} {n : Nat} {m : Int32} : ∀ (r : Nat) (t : Int32) (A : Nat → Int32) (u : Nat), bt m u = false → (pLo P fo d sl n m r t A).1 u = A u
  | 0, t, A, u, _ => rfl
  | r + 1, t, A, u, hu => by
    unfold pLo
    cases h : pMt P fo d m A n with
    | none =>
      show pSet n m zBRK A u = A u
      unfold pSet
      rw [if_neg (fun q => by rw [q.2] at hu; cases hu)]
    | some x =>
      obtain ⟨g, B⟩ := x
      try dsimp only
      split
      · exact pMt_out n g B h u hu
      · rw [pLo_out r _ B u hu]
        exact pMt_out n g B h u hu
theorem pSc_out {n : Nat} {R : Nat → Int32} {G : zMd} {S : Nat → Int32} {v : Nat} {A : Nat → Int32} (hv : v < 32) (hn : n ≤ 32) {u : Nat} (hu : bt (pCi n R v) u = false) : (pSc n R G S v A).1 u = A u := by
  have hset : ∀ x, pSet n (pCi n R v) x A u = A u := fun x => by
    unfold pSet
    rw [if_neg (fun q => by rw [q.2] at hu; cases hu)]
  unfold pSc
  split
  · exact hset _
  · split
    · rw [pLo_out _ _ _ u hu]
      exact hset _
    · show (if u = v then _ else A u) = A u
      rw [if_neg (fun q => by rw [q, pCi_self hv hn] at hu; cases hu)]
/-- two rows that agree on what a circle's formulas lean on -/
theorem pMt_agree {P : zPt} {fo : Nat → Int32} {d m : Int32} {D : Nat → Prop} (hD : ∀ v, bt m v = true → ¬ fo v < 0 → D v ∧ ∀ B1 B2 : Nat → Int32, (∀ u, D u → B1 u = B2 u) → pW P B1 (fo v).toNatClampNeg = pW P B2 (fo v).toNatClampNeg) {A1 A2 : Nat → Int32} (hA : ∀ u, D u → A1 u = A2 u) : ∀ (v : Nat),
    (pMt P fo d m A1 v = none ∧ pMt P fo d m A2 v = none) ∨ ∃ g B1 B2, pMt P fo d m A1 v = some (g, B1) ∧ pMt P fo d m A2 v = some (g, B2) ∧ ∀ u, D u → B1 u = B2 u
  | 0 => Or.inr ⟨0, A1, A2, rfl, rfl, hA⟩
  | v + 1 => by
    rcases pMt_agree hD hA v with ⟨h1, h2⟩ | ⟨g, B1, B2, h1, h2, hB⟩
    · refine Or.inl ⟨?_, ?_⟩
      · unfold pMt
        rw [h1]
      · unfold pMt
        rw [h2]
    · unfold pMt
      rw [h1, h2]
      try dsimp only
      by_cases hc : bt m v = true ∧ ¬ fo v < 0
      · rw [if_pos hc, if_pos hc]
        obtain ⟨hDv, hw⟩ := hD v hc.1 hc.2
        rw [hw B1 B2 hB, hB v hDv]
        split
        · exact Or.inl ⟨rfl, rfl⟩
        · refine Or.inr ⟨_, _, _, rfl, rfl, fun u hu => ?_⟩
          try dsimp only
          split
          · rfl
          · exact hB u hu
      · rw [if_neg hc, if_neg hc]
        exact Or.inr ⟨g, B1, B2, rfl, rfl, hB⟩
theorem pLo_agree {P : zPt} {fo : Nat → Int32} {d sl : Int32} {n : Nat} {m : Int32} {D : Nat → Prop} (hD : ∀ v, bt m v = true → ¬ fo v < 0 → D v ∧ ∀ B1 B2 : Nat → Int32, (∀ u, D u → B1 u = B2 u) → pW P B1 (fo v).toNatClampNeg = pW P B2 (fo v).toNatClampNeg) : ∀ (r : Nat) (t : Int32) (A1 A2 : Nat → Int32), (∀ u, D u → A1 u = A2 u) →
    (∀ u, D u → (pLo P fo d sl n m r t A1).1 u = (pLo P fo d sl n m r t A2).1 u) ∧ (pLo P fo d sl n m r t A1).2 = (pLo P fo d sl n m r t A2).2
  | 0, t, A1, A2, h => ⟨h, rfl⟩
  | r + 1, t, A1, A2, h => by
    unfold pLo
    rcases pMt_agree (d := d) (m := m) hD h n with ⟨h1, h2⟩ | ⟨g, B1, B2, h1, h2, hB⟩
    · rw [h1, h2]
      refine ⟨fun u hu => ?_, rfl⟩
      show pSet n m zBRK A1 u = pSet n m zBRK A2 u
      unfold pSet
      rw [h u hu]
    · rw [h1, h2]
      try dsimp only
      split
      · exact ⟨hB, rfl⟩
      · exact pLo_agree hD r (t + 1) B1 B2 hB
/-- what is asked of a model: the formulas' parts tell what they lean on -/
def pWf (n pc : Nat) (pl : Nat → Int32) (G : zMd) : Prop := n ≤ 32 ∧ (∀ k, k < pc → pLn G.1 pl k) ∧ (∀ v, v < n → ¬ G.2.1 v < 0 → (G.2.1 v).toNatClampNeg < pc) ∧ ∀ k, k < pc → ∀ u, bt (pl k) u = true → u < n
theorem pWf_le {n pc : Nat} {pl : Nat → Int32} {G : zMd} (h : pWf n pc pl G) : ∀ v, v < n → ∀ u, bt (pLe G.2.1 pl v) u = true → u < n := by
  intro v hv u hu
  unfold pLe at hu
  split at hu
  · rw [bt_zero] at hu
    cases hu
  · rename_i hf
    exact h.2.2.2 _ (h.2.2.1 v hv hf) u hu
theorem pWf_tr {n pc : Nat} {pl : Nat → Int32} {G : zMd} (h : pWf n pc pl G) : pTr n (pRe n G.2.1 pl) := pRe_tr (pWf_le h)
/-- the value of a formula needs what its variable leans on along ways -/
theorem pWf_dep {n pc : Nat} {pl : Nat → Int32} {G : zMd} (h : pWf n pc pl G) {v : Nat} (hv : v < n) (hf : ¬ G.2.1 v < 0) {A1 A2 : Nat → Int32} (hA : ∀ u, bt (pRe n G.2.1 pl v) u = true → A1 u = A2 u) : pW G.1 A1 (G.2.1 v).toNatClampNeg = pW G.1 A2 (G.2.1 v).toNatClampNeg := by
  refine pW_dep h.2.1 _ _ (Nat.lt_succ_self _) (h.2.2.1 v hv hf) (fun u hu => hA u ?_)
  refine pWa_mono n _ n (Nat.le_refl n) v hv u ?_
  unfold pLe
  rw [if_neg hf]
  exact hu
/-- a circle's new amounts need only what it leans on outside it, and what is set -/
theorem pSc_agree {n pc : Nat} {pl : Nat → Int32} {G : zMd} (h : pWf n pc pl G) {S1 S2 : Nat → Int32} {v : Nat} (hv : v < n) {A1 A2 : Nat → Int32} (hS : G.2.1 v < 0 → S1 v = S2 v) (hA : ∀ u, bt (pRe n G.2.1 pl v) u = true → bt (pCi n (pRe n G.2.1 pl) v) u = false → A1 u = A2 u) :
    (∀ u, bt (pCi n (pRe n G.2.1 pl) v) u = true → (pSc n (pRe n G.2.1 pl) G S1 v A1).1 u = (pSc n (pRe n G.2.1 pl) G S2 v A2).1 u) ∧ (pSc n (pRe n G.2.1 pl) G S1 v A1).2 = (pSc n (pRe n G.2.1 pl) G S2 v A2).2 := by
  have hn := h.1
  have hT := pWf_tr h
  have hv32 : v < 32 := Nat.lt_of_lt_of_le hv hn
  unfold pSc
  split
  · refine ⟨fun u hu => ?_, rfl⟩
    have hun : u < n := by
      rcases ((pCi_iff hv32 hn).mp hu).1 with q | q
      · rw [q]; exact hv
      · exact q.1
    show pSet n _ zBRK A1 u = pSet n _ zBRK A2 u
    unfold pSet
    rw [if_pos ⟨hun, hu⟩, if_pos ⟨hun, hu⟩]
  · split
    · have key := pLo_agree (P := G.1) (fo := G.2.1) (d := G.2.2.2.2.2.2.1) (sl := G.2.2.2.2.2.1) (n := n) (m := pCi n (pRe n G.2.1 pl) v) (D := fun u => bt (pCi n (pRe n G.2.1 pl) v) u = true ∨ bt (pRe n G.2.1 pl v) u = true) (fun w hw hf => ⟨Or.inl hw, fun B1 B2 hB => by
        have hwn : w < n := by
          rcases ((pCi_iff hv32 hn).mp hw).1 with q | q
          · rw [q]; exact hv
          · exact q.1
        refine pWf_dep h hwn hf (fun u hu => hB u (Or.inr ?_))
        rcases ((pCi_iff hv32 hn).mp hw).2 with q | q
        · exact hT.1 v hv w hwn u q hu
        · rw [← q]; exact hu⟩) 40 1 (pSet n (pCi n (pRe n G.2.1 pl) v) 0 A1) (pSet n (pCi n (pRe n G.2.1 pl) v) 0 A2) (fun u hu => by
        cases hb : bt (pCi n (pRe n G.2.1 pl) v) u with
        | true =>
          have hun : u < n := by
            rcases ((pCi_iff hv32 hn).mp hb).1 with q | q
            · rw [q]; exact hv
            · exact q.1
          unfold pSet
          rw [if_pos ⟨hun, hb⟩, if_pos ⟨hun, hb⟩]
        | false =>
          unfold pSet
          rw [if_neg (fun q => by rw [q.2] at hb; cases hb), if_neg (fun q => by rw [q.2] at hb; cases hb)]
          exact hA u (hu.elim (fun q => by rw [q] at hb; cases hb) id) hb)
      exact ⟨fun u hu => key.1 u (Or.inl hu), key.2⟩
    · rename_i hnr
      refine ⟨fun u hu => ?_, rfl⟩
      have huv : u = v := by
        rcases ((pCi_iff hv32 hn).mp hu).1 with q | q
        · exact q
        · rcases ((pCi_iff hv32 hn).mp hu).2 with z | z
          · exact absurd (hT.1 v hv u q.1 v z q.2) hnr
          · exact z
      show (if u = v then _ else A1 u) = (if u = v then _ else A2 u)
      rw [if_pos huv, if_pos huv]
      by_cases hf : G.2.1 v < 0
      · rw [if_pos hf, if_pos hf, hS hf]
      · rw [if_neg hf, if_neg hf]
        refine pWf_dep h hv hf (fun x hx => hA x hx ?_)
        cases hb : bt (pCi n (pRe n G.2.1 pl) v) x with
        | false => rfl
        | true =>
          rcases ((pCi_iff hv32 hn).mp hb).1 with q | q
          · rw [q] at hx; exact absurd hx hnr
          · exact absurd (hT.1 v hv x q.1 v hx q.2) hnr
/-! all circles -/
/-- those of the circles that have a variable of W, in their order -/
def pSw (n : Nat) (R : Nat → Int32) (G : zMd) (S : Nat → Int32) (W : Int32) : List Nat → (Nat → Int32) → (Nat → Int32)
  | [], A => A
  | v :: l, A => pSw n R G S W l (if ¬ pCi n R v &&& W = 0 then (pSc n R G S v A).1 else A)
/-- amounts that no circle would change -/
def pFx (n : Nat) (R : Nat → Int32) (G : zMd) (S : Nat → Int32) (l : List Nat) (F : Nat → Int32) : Prop := ∀ v, v ∈ l → ∀ u, bt (pCi n R v) u = true → (pSc n R G S v F).1 u = F u
theorem pLs_mem {n : Nat} {R : Nat → Int32} : ∀ (l : List Nat) (come : Int32), pLs n R come l → ∀ v, v ∈ l → v < n ∧ ∀ u, bt (pCi n R v) u = true → bt come u = false
  | [], _, _, v, hv => absurd hv List.not_mem_nil
  | w :: l, come, h, v, hv => by
    obtain ⟨h1, h2, h3, h4, h5⟩ := h
    rcases List.mem_cons.mp hv with e | hv
    · rw [e]
      exact ⟨h1, h4⟩
    · obtain ⟨g1, g2⟩ := pLs_mem l _ h5 v hv
      refine ⟨g1, fun u hu => ?_⟩
      have := g2 u hu
      rw [bt_or] at this
      cases hb : bt come u with
      | false => rfl
      | true => rw [hb] at this; cases this
theorem pSw_out {n : Nat} {R : Nat → Int32} {G : zMd} {S : Nat → Int32} {W : Int32} (hn : n ≤ 32) : ∀ (l : List Nat) (come : Int32) (A : Nat → Int32), pLs n R come l → ∀ u, bt come u = true → pSw n R G S W l A u = A u
  | [], _, _, _, _, _ => rfl
  | v :: l, come, A, h, u, hu => by
    obtain ⟨h1, h2, h3, h4, h5⟩ := h
    show pSw n R G S W l _ u = A u
    rw [pSw_out hn l _ _ h5 u (by rw [bt_or, hu]; rfl)]
    have hm : bt (pCi n R v) u = false := by
      cases hb : bt (pCi n R v) u with
      | false => rfl
      | true => rw [h4 u hb] at hu; cases hu
    split
    · exact pSc_out (by omega) hn hm
    · rfl
/-- solving some of the circles from amounts that are right elsewhere makes them right -/
theorem pSw_fix {n pc : Nat} {pl : Nat → Int32} {G : zMd} (h : pWf n pc pl G) {S F : Nat → Int32} {W : Int32} {D : Nat → Prop} (hD : ∀ v, v < n → D v → ∀ u, bt (pRe n G.2.1 pl v) u = true → D u) :
    ∀ (l : List Nat) (come : Int32) (A : Nat → Int32), pLs n (pRe n G.2.1 pl) come l → pFx n (pRe n G.2.1 pl) G S l F → (∀ u, bt come u = true → D u → A u = F u) → (∀ v, v ∈ l → D v → pCi n (pRe n G.2.1 pl) v &&& W = 0 → ∀ u, bt (pCi n (pRe n G.2.1 pl) v) u = true → A u = F u) →
      ∀ u, u < n → D u → pSw n (pRe n G.2.1 pl) G S W l A u = F u
  | [], come, A, hl, _, hc, _, u, hu, hDu => hc u (hl u hu) hDu
  | v :: l, come, A, hl, hF, hc, hw, u, hu, hDu => by
    have hn := h.1
    have hT := pWf_tr h
    obtain ⟨h1, h2, h3, h4, h5⟩ := hl
    have hv32 : v < 32 := by omega
    refine pSw_fix h hD l _ _ h5 (fun w hw' => hF w (List.mem_cons_of_mem _ hw')) (fun x hx hDx => ?_) (fun w hwl hDw hwW x hx => ?_) u hu hDu
    · rw [bt_or, Bool.or_eq_true] at hx
      by_cases hm : bt (pCi n (pRe n G.2.1 pl) v) x = true
      · have hxn : x < n := by
          rcases ((pCi_iff hv32 hn).mp hm).1 with q | q
          · rw [q]; exact h1
          · exact q.1
        have hDv : D v := by
          rcases ((pCi_iff hv32 hn).mp hm).1 with q | q
          · rw [← q]; exact hDx
          · exact hD x hxn hDx v q.2
        split
        · rw [← hF v List.mem_cons_self x hm]
          refine (pSc_agree h h1 (fun _ => rfl) (fun y hy hny => hc y ?_ (hD v h1 hDv y hy))).1 x hm
          exact (h3 y hy).elim (fun q => by rw [q] at hny; cases hny) id
        · rename_i hW
          exact hw v List.mem_cons_self hDv (Classical.not_not.mp hW) x hm
      · have hx' := hx.resolve_right hm
        have hmf : bt (pCi n (pRe n G.2.1 pl) v) x = false := by
          cases hb : bt (pCi n (pRe n G.2.1 pl) v) x with
          | false => rfl
          | true => exact absurd hb hm
        split
        · rw [pSc_out hv32 hn hmf]
          exact hc x hx' hDx
        · exact hc x hx' hDx
    · have hg := (pLs_mem l _ h5 w hwl).2 x hx
      rw [bt_or] at hg
      have hmf : bt (pCi n (pRe n G.2.1 pl) v) x = false := by
        cases hb : bt (pCi n (pRe n G.2.1 pl) v) x with
        | false => rfl
        | true => rw [hb, Bool.or_true] at hg; cases hg
      have := hw w (List.mem_cons_of_mem _ hwl) hDw hwW x hx
      split
      · rw [pSc_out hv32 hn hmf]
        exact this
      · exact this
/-- two rows that no circle would change are one where what is set is the same -/
theorem pFx_uniq {n pc : Nat} {pl : Nat → Int32} {G : zMd} (h : pWf n pc pl G) {S1 S2 F1 F2 : Nat → Int32} {D : Nat → Prop} (hD : ∀ v, v < n → D v → ∀ u, bt (pRe n G.2.1 pl v) u = true → D u) (hS : ∀ v, v < n → D v → S1 v = S2 v) :
    ∀ (l : List Nat) (come : Int32), pLs n (pRe n G.2.1 pl) come l → pFx n (pRe n G.2.1 pl) G S1 l F1 → pFx n (pRe n G.2.1 pl) G S2 l F2 → (∀ u, bt come u = true → D u → F1 u = F2 u) → ∀ u, u < n → D u → F1 u = F2 u
  | [], come, hl, _, _, hc, u, hu, hDu => hc u (hl u hu) hDu
  | v :: l, come, hl, hF1, hF2, hc, u, hu, hDu => by
    have hn := h.1
    obtain ⟨h1, h2, h3, h4, h5⟩ := hl
    have hv32 : v < 32 := by omega
    refine pFx_uniq h hD hS l _ h5 (fun w hw' => hF1 w (List.mem_cons_of_mem _ hw')) (fun w hw' => hF2 w (List.mem_cons_of_mem _ hw')) (fun x hx hDx => ?_) u hu hDu
    rw [bt_or, Bool.or_eq_true] at hx
    by_cases hm : bt (pCi n (pRe n G.2.1 pl) v) x = true
    · have hxn : x < n := by
        rcases ((pCi_iff hv32 hn).mp hm).1 with q | q
        · rw [q]; exact h1
        · exact q.1
      have hDv : D v := by
        rcases ((pCi_iff hv32 hn).mp hm).1 with q | q
        · rw [← q]; exact hDx
        · exact hD x hxn hDx v q.2
      rw [← hF1 v List.mem_cons_self x hm, ← hF2 v List.mem_cons_self x hm]
      refine (pSc_agree h h1 (fun _ => hS v h1 hDv) (fun y hy hny => hc y ?_ (hD v h1 hDv y hy))).1 x hm
      exact (h3 y hy).elim (fun q => by rw [q] at hny; cases hny) id
    · exact hc x (hx.resolve_right hm) hDx
/-- solving all circles makes such a row -/
theorem pSw_isFx {n pc : Nat} {pl : Nat → Int32} {G : zMd} (h : pWf n pc pl G) {S : Nat → Int32} {W : Int32} : ∀ (l done : List Nat) (come : Int32) (A : Nat → Int32), pLs n (pRe n G.2.1 pl) come l → (∀ v, v ∈ l → ¬ pCi n (pRe n G.2.1 pl) v &&& W = 0) →
    (∀ v, v ∈ done → v < n ∧ (∀ u, bt (pCi n (pRe n G.2.1 pl) v) u = true → bt come u = true) ∧ ∀ u, bt (pRe n G.2.1 pl v) u = true → bt come u = true) → pFx n (pRe n G.2.1 pl) G S done A → pFx n (pRe n G.2.1 pl) G S (done ++ l) (pSw n (pRe n G.2.1 pl) G S W l A)
  | [], done, come, A, _, _, _, hA => by
    rw [List.append_nil]
    exact hA
  | v :: l, done, come, A, hl, hW, hd, hA => by
    have hn := h.1
    have hT := pWf_tr h
    obtain ⟨h1, h2, h3, h4, h5⟩ := hl
    have hv32 : v < 32 := by omega
    have hwv := hW v List.mem_cons_self
    show pFx n _ G S (done ++ v :: l) (pSw n _ G S W l (if ¬ pCi n (pRe n G.2.1 pl) v &&& W = 0 then _ else A))
    rw [if_pos hwv, show done ++ v :: l = (done ++ [v]) ++ l by simp]
    refine pSw_isFx h l (done ++ [v]) _ _ h5 (fun w hw => hW w (List.mem_cons_of_mem _ hw)) (fun w hw => ?_) (fun w hw u hu => ?_)
    · rcases List.mem_append.mp hw with hw | hw
      · obtain ⟨g1, g2, g3⟩ := hd w hw
        exact ⟨g1, fun u hu => by rw [bt_or, g2 u hu]; rfl, fun u hu => by rw [bt_or, g3 u hu]; rfl⟩
      · rw [List.mem_singleton.mp hw]
        exact ⟨h1, fun u hu => by rw [bt_or, hu, Bool.or_true], fun u hu => by
          rw [bt_or]
          rcases h3 u hu with q | q
          · rw [q, Bool.or_true]
          · rw [q]; rfl⟩
    · rcases List.mem_append.mp hw with hw | hw
      · obtain ⟨g1, g2, g3⟩ := hd w hw
        have ho : ∀ x, bt come x = true → (pSc n (pRe n G.2.1 pl) G S v A).1 x = A x := fun x hx => pSc_out hv32 hn (by
          cases hb : bt (pCi n (pRe n G.2.1 pl) v) x with
          | false => rfl
          | true => rw [h4 x hb] at hx; cases hx)
        rw [ho u (g2 u hu), ← hA w hw u hu]
        exact (pSc_agree h g1 (fun _ => rfl) (fun y hy _ => ho y (g3 y hy))).1 u hu
      · rw [List.mem_singleton.mp hw] at hu ⊢
        exact (pSc_agree h h1 (fun _ => rfl) (fun y hy hny => pSc_out hv32 hn hny)).1 u hu
/-- the amounts of a model with what is set -/
def pF (n : Nat) (R : Nat → Int32) (G : zMd) (S : Nat → Int32) : Nat → Int32 := pSw n R G S (-1) (pOr n R) (fun _ => 0)
theorem bt_and_ne {a b : Int32} {u : Nat} (h1 : bt a u = true) (h2 : bt b u = true) : ¬ a &&& b = 0 := fun q => by
  have := bt_and a b u
  rw [q, bt_zero, h1, h2] at this
  cases this
theorem bt_m1 {u : Nat} (h : u < 32) : bt (-1) u = true := by
  have := bt_not (a := 0) h
  rw [bt_zero] at this
  exact this
theorem pF_fx {n pc : Nat} {pl : Nat → Int32} {G : zMd} (h : pWf n pc pl G) (S : Nat → Int32) : pFx n (pRe n G.2.1 pl) G S (pOr n (pRe n G.2.1 pl)) (pF n (pRe n G.2.1 pl) G S) := by
  have hls := pOr_ok h.1 (pWf_tr h)
  have := pSw_isFx h (S := S) (W := -1) (pOr n (pRe n G.2.1 pl)) [] 0 (fun _ => 0) hls (fun v hv => by
    have hvn := (pLs_mem _ _ hls v hv).1
    have hn := h.1
    exact bt_and_ne (pCi_self (by omega) hn) (bt_m1 (by omega))) (fun v hv => absurd hv List.not_mem_nil) (fun v hv => absurd hv List.not_mem_nil)
  rw [List.nil_append] at this
  exact this
/-- a whole solve, from any amounts -/
theorem pSw_all {n pc : Nat} {pl : Nat → Int32} {G : zMd} (h : pWf n pc pl G) (S A : Nat → Int32) : ∀ u, u < n → pSw n (pRe n G.2.1 pl) G S (-1) (pOr n (pRe n G.2.1 pl)) A u = pF n (pRe n G.2.1 pl) G S u := by
  intro u hu
  have hls := pOr_ok h.1 (pWf_tr h)
  refine pSw_fix h (D := fun _ => True) (fun _ _ _ _ _ => trivial) _ 0 A hls (pF_fx h S) (fun x hx => by rw [bt_zero] at hx; cases hx) (fun v hv _ hW => ?_) u hu trivial
  have hvn := (pLs_mem _ _ hls v hv).1
  have hn := h.1
  exact absurd hW (bt_and_ne (pCi_self (by omega) hn) (bt_m1 (by omega)))
/-- what is told of a variable stands on what is set of those it leans on -/
theorem pF_dep {n pc : Nat} {pl : Nat → Int32} {G : zMd} (h : pWf n pc pl G) {S1 S2 : Nat → Int32} {v : Nat} (hv : v < n) (hS : ∀ u, u < n → bt (pBe (pRe n G.2.1 pl) v) u = true → S1 u = S2 u) : pF n (pRe n G.2.1 pl) G S1 v = pF n (pRe n G.2.1 pl) G S2 v := by
  have hls := pOr_ok h.1 (pWf_tr h)
  have hT := pWf_tr h
  have hn := h.1
  refine pFx_uniq h (D := fun u => bt (pBe (pRe n G.2.1 pl) v) u = true) (fun x hx hDx u hu => ?_) hS _ 0 hls (pF_fx h S1) (pF_fx h S2) (fun x hx => by rw [bt_zero] at hx; cases hx) v hv ((pBe_iff (by omega)).mpr (Or.inr rfl))
  rcases (pBe_iff (by omega)).mp hDx with q | q
  · exact (pBe_iff (by omega)).mpr (Or.inl (hT.1 v hv x hx u q hu))
  · rw [q] at hu
    exact (pBe_iff (by omega)).mpr (Or.inl hu)
/-- a trial: one thing set otherwise; only what leans on it and bears on v is solved again -/
theorem pSw_try {n pc : Nat} {pl : Nat → Int32} {G : zMd} (h : pWf n pc pl G) {S A : Nat → Int32} {i v : Nat} (hi : i < n) (hv : v < n) {x : Int32} {W : Int32} (hW : ∀ u, u < n → bt (pAb (pRe n G.2.1 pl) i n) u = true → bt (pBe (pRe n G.2.1 pl) v) u = true → bt W u = true)
    (hA : ∀ u, u < n → bt (pBe (pRe n G.2.1 pl) v) u = true → bt (pAb (pRe n G.2.1 pl) i n) u = false → A u = pF n (pRe n G.2.1 pl) G S u) :
    ∀ u, u < n → bt (pBe (pRe n G.2.1 pl) v) u = true → pSw n (pRe n G.2.1 pl) G (fun j => if j = i then x else S j) W (pOr n (pRe n G.2.1 pl)) A u = pF n (pRe n G.2.1 pl) G (fun j => if j = i then x else S j) u := by
  have hls := pOr_ok h.1 (pWf_tr h)
  have hT := pWf_tr h
  have hn := h.1
  intro u hu hDu
  refine pSw_fix h (D := fun u => bt (pBe (pRe n G.2.1 pl) v) u = true) (fun x hx hDx u hu => ?_) _ 0 A hls (pF_fx h _) (fun x hx => by rw [bt_zero] at hx; cases hx) (fun w hw hDw hwW y hy => ?_) u hu hDu
  · rcases (pBe_iff (by omega)).mp hDx with q | q
    · exact (pBe_iff (by omega)).mpr (Or.inl (hT.1 v hv x hx u q hu))
    · rw [q] at hu
      exact (pBe_iff (by omega)).mpr (Or.inl hu)
  · have hwn := (pLs_mem _ _ hls w hw).1
    have hyn : y < n := by
      rcases ((pCi_iff (by omega) hn).mp hy).1 with q | q
      · rw [q]; exact hwn
      · exact q.1
    have hDy : bt (pBe (pRe n G.2.1 pl) v) y = true := by
      rcases ((pCi_iff (by omega) hn).mp hy).2 with z | z
      · rcases (pBe_iff (by omega)).mp hDw with q | q
        · exact (pBe_iff (by omega)).mpr (Or.inl (hT.1 v hv w hwn y q z))
        · rw [q] at z
          exact (pBe_iff (by omega)).mpr (Or.inl z)
      · rw [z]; exact hDw
    have hny : bt (pAb (pRe n G.2.1 pl) i n) y = false := by
      cases hb : bt (pAb (pRe n G.2.1 pl) i n) y with
      | false => rfl
      | true => exact absurd hwW (bt_and_ne hy (hW y hyn hb hDy))
    rw [hA y hyn hDy hny]
    refine pF_dep h hyn (fun z hz hbz => ?_)
    rw [if_neg]
    intro e
    rw [e] at hbz
    rcases (pBe_iff (by omega)).mp hbz with q | q
    · rw [(pAb_iff (by omega) n hn y).mpr (Or.inr ⟨hyn, q⟩)] at hny
      cases hny
    · rw [← q, (pAb_iff (by omega) n hn i).mpr (Or.inl rfl)] at hny
      cases hny

/-! ===== one turn: what it answers (draft: not built yet) ===== -/
theorem pMt_none {P : zPt} {fo : Nat → Int32} {d m : Int32} {A : Nat → Int32} {v : Nat} (h : pMt P fo d m A v = none) : ∀ (k : Nat), pMt P fo d m A (v + k) = none
  | 0 => h
  | k + 1 => by
    show (match pMt P fo d m A (v + k) with
      | none => none
      | some (g, B) => _) = none
    rw [pMt_none h k]
theorem pAbs_in {x : Int32} (h : -2000000000 ≤ x.toInt ∧ x.toInt ≤ 2000000000) : 0 ≤ (pAbs x).toInt ∧ (pAbs x).toInt ≤ 2000000000 := by
  unfold pAbs
  have e0 : (0 : Int32).toInt = 0 := by decide
  by_cases hx : 0 ≤ x
  · rw [if_pos hx]
    have := Int32.le_iff_toInt_le.mp hx
    omega
  · rw [if_neg hx, Int32.toInt_sub, b32 (by omega) (by omega)]
    have h2 : ¬ (0 : Int32).toInt ≤ x.toInt := fun q => hx (Int32.le_iff_toInt_le.mpr q)
    omega
theorem pMt_nn {n pc : Nat} {G : zMd} (h : pNu n pc G) {m : Int32} {A : Nat → Int32} (hA : ∀ u, u < n → kb (A u)) (hm : ∀ u, u < n → bt m u = true → kp (A u)) : ∀ (v : Nat), v ≤ n → ∀ g B, pMt G.1 G.2.1 G.2.2.2.2.2.2.1 m A v = some (g, B) → 0 ≤ g.toInt ∧ g.toInt ≤ 2000000000
  | 0, _, g, B, e => by
    cases e
    decide
  | v + 1, hv, g, B, e => by
    unfold pMt at e
    cases h9 : pMt G.1 G.2.1 G.2.2.2.2.2.2.1 m A v with
    | none => rw [h9] at e; cases e
    | some x =>
      obtain ⟨g1, B1⟩ := x
      rw [h9] at e
      try dsimp only at e
      have i0 := pMt_nn h hA hm v (by omega) g1 B1 h9
      obtain ⟨i1, i2⟩ := pMt_kb h hA hm v (by omega) g1 B1 h9
      split at e
      · rename_i hc
        split at e
        · cases e
        · rename_i hb
          cases e
          have hw := kb_kp (pW_kb h.1 h.2.1 i1 _ _ (Nat.lt_succ_self _) (h.2.2.1 v (by omega) hc.2)) hb
          have hx := i2 v (by omega) hc.1
          have hk := pCh_int hw hx h.2.2.2
          obtain ⟨w1, w2⟩ := hw
          obtain ⟨x1, x2⟩ := hx
          have ha := pAbs_in (x := pCh (pW G.1 B1 (G.2.1 v).toNatClampNeg) (B1 v) G.2.2.2.2.2.2.1) (by omega)
          unfold pMx
          split
          · exact ha
          · exact i0
      · cases e
        exact i0
theorem pMt_nb {n pc : Nat} {G : zMd} (h : pNu n pc G) {m : Int32} {A : Nat → Int32} (hA : ∀ u, u < n → kb (A u)) (hm : ∀ u, u < n → bt m u = true → kp (A u)) {g : Int32} {B : Nat → Int32} (e : pMt G.1 G.2.1 G.2.2.2.2.2.2.1 m A n = some (g, B)) : ¬ g = zBRK := fun q => by
  have := pMt_nn h hA hm n (Nat.le_refl n) g B e
  rw [q] at this
  exact absurd this.1 (by decide)

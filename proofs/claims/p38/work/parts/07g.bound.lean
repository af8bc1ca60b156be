/-! ===== amounts are kept, or broken; turns ===== -/
theorem b32 {x : Int} (h1 : -2147483648 ≤ x) (h2 : x < 2147483648) : x.bmod (2 ^ 32) = x := Int.bmod_eq_of_le (by omega) (by omega)
theorem b64 {x : Int} (h1 : -9223372036854775808 ≤ x) (h2 : x < 9223372036854775808) : x.bmod (2 ^ 64) = x := Int.bmod_eq_of_le (by omega) (by omega)
def kp (x : Int32) : Prop := -1000000000 ≤ x.toInt ∧ x.toInt ≤ 1000000000
def kb (x : Int32) : Prop := kp x ∨ x = zBRK
theorem fKept_int (x : Int64) : (fKept x).toInt = if 1000000000 < x.toInt then 1000000000 else if x.toInt < -1000000000 then -1000000000 else x.toInt := by
  have e1 : (1000000000 : Int64).toInt = 1000000000 := by decide
  have e2 : (-1000000000 : Int64).toInt = -1000000000 := by decide
  unfold fKept
  by_cases h1 : (1000000000 : Int64) < x
  · rw [if_pos h1, if_pos (by have := Int64.lt_iff_toInt_lt.mp h1; omega)]
    decide
  · have g1 : ¬ 1000000000 < x.toInt := fun q => h1 (Int64.lt_iff_toInt_lt.mpr (by omega))
    rw [if_neg h1, if_neg g1]
    by_cases h2 : x < (-1000000000 : Int64)
    · rw [if_pos h2, if_pos (by have := Int64.lt_iff_toInt_lt.mp h2; omega)]
      decide
    · have g2 : ¬ x.toInt < -1000000000 := fun q => h2 (Int64.lt_iff_toInt_lt.mpr (by omega))
      rw [if_neg h2, if_neg g2, Int64.toInt_toInt32]
      exact b32 (by omega) (by omega)
theorem fKept_kp (x : Int64) : kp (fKept x) := by
  unfold kp
  rw [fKept_int]
  split
  · omega
  · split <;> omega
theorem zrb_int : ∀ k, k < 20 → (zrb k).toInt = ((2 ^ k : Nat) : Int) := by decide +kernel
theorem zroot_in (y : Int64) : ∀ (k : Nat) (f : Int64), k ≤ 20 → 0 ≤ f.toInt → f.toInt + ((2 ^ k : Nat) : Int) ≤ 1048576 → 0 ≤ (zroot y k f).toInt ∧ (zroot y k f).toInt < 1048576
  | 0, f, _, h0, h1 => by
    have : ((2 ^ 0 : Nat) : Int) = 1 := rfl
    show 0 ≤ f.toInt ∧ f.toInt < 1048576
    omega
  | k + 1, f, hk, h0, h1 => by
    have e : ((2 ^ (k + 1) : Nat) : Int) = 2 * ((2 ^ k : Nat) : Int) := by
      rw [Nat.pow_succ]
      omega
    have hp : 0 < ((2 ^ k : Nat) : Int) := by
      have := Nat.two_pow_pos k
      omega
    have es : (f + zrb k).toInt = f.toInt + ((2 ^ k : Nat) : Int) := by
      rw [Int64.toInt_add, zrb_int k (by omega)]
      exact b64 (by omega) (by omega)
    unfold zroot
    split
    · exact zroot_in y k _ (by omega) (by omega) (by omega)
    · exact zroot_in y k f (by omega) h0 (by omega)
theorem fRoot_kp (x : Int32) : kp (fRoot x) := by
  have h := zroot_in (x.toInt64 * 1000) 20 0 (Nat.le_refl 20) (by decide) (by decide)
  unfold kp fRoot
  rw [Int64.toInt_toInt32, b32 (by omega) (by omega)]
  omega
theorem pRq_kb {co x y z : Int32} (hx : kb x) (hy : kb y) (hz : kb z) : kb (pRq co x y z) := by
  unfold pRq
  split
  · exact Or.inr rfl
  split
  · split
    · exact Or.inr rfl
    · exact Or.inl (fRoot_kp x)
  split
  · split
    · exact hy
    · exact hz
  split
  · exact Or.inr rfl
  split
  · exact Or.inl (fKept_kp _)
  split
  · exact Or.inl (fKept_kp _)
  split
  · exact Or.inl (fKept_kp _)
  split
  · split
    · exact Or.inr rfl
    · exact Or.inl (fKept_kp _)
  split
  · split
    · exact hy
    · exact hx
  · split
    · exact hy
    · exact hx
/-- numbers are kept, variables are among those that there are -/
def pNm (n pc : Nat) (P : zPt) : Prop := ∀ k, k < pc → (P.1 k = 0 → kp (P.2.1 k)) ∧ (P.1 k = 1 → (P.2.1 k).toNatClampNeg < n)
theorem pW_kb {n pc : Nat} {P : zPt} {A : Nat → Int32} (hr : ∀ k, k < pc → pRef P k) (hN : pNm n pc P) (hA : ∀ u, u < n → kb (A u)) : ∀ (m k : Nat), k < m → k < pc → kb (pW P A k)
  | 0, k, h, _ => absurd h (Nat.not_lt_zero k)
  | m + 1, k, h, hk => by
    rw [pW_eq (hr k hk)]
    unfold pRp
    by_cases e0 : P.1 k = 0
    · rw [if_pos e0]
      exact Or.inl ((hN k hk).1 e0)
    · rw [if_neg e0]
      by_cases e1 : P.1 k = 1
      · rw [if_pos e1]
        exact hA _ ((hN k hk).2 e1)
      · rw [if_neg e1]
        rcases hr k hk with q | q | q
        · exact absurd q e0
        · exact absurd q e1
        · exact pRq_kb (pW_kb hr hN hA m _ (by omega) (by omega)) (pW_kb hr hN hA m _ (by omega) (by omega)) (pW_kb hr hN hA m _ (by omega) (by omega))
theorem pCh_int {g x d : Int32} (hg : kp g) (hx : kp x) (hd : 1 ≤ d.toInt ∧ d.toInt ≤ 100) :
    (0 ≤ g.toInt - x.toInt ∧ 0 ≤ (pCh g x d).toInt ∧ (pCh g x d).toInt ≤ g.toInt - x.toInt) ∨ (g.toInt - x.toInt < 0 ∧ (pCh g x d).toInt ≤ 0 ∧ g.toInt - x.toInt ≤ (pCh g x d).toInt) := by
  obtain ⟨g1, g2⟩ := hg
  obtain ⟨x1, x2⟩ := hx
  obtain ⟨d1, d2⟩ := hd
  have e1 : (g.toInt64 - x.toInt64).toInt = g.toInt - x.toInt := by
    rw [Int64.toInt_sub, Int32.toInt_toInt64, Int32.toInt_toInt64]
    exact b64 (by omega) (by omega)
  generalize hY : g.toInt - x.toInt = Y at *
  generalize hD : d.toInt = D at *
  have hZ : (0 ≤ Y ∧ 0 ≤ Y * D ∧ Y * D ≤ Y * 100) ∨ (Y < 0 ∧ Y * D ≤ 0 ∧ Y * 100 ≤ Y * D) := by
    by_cases h : 0 ≤ Y
    · exact Or.inl ⟨h, Int.mul_nonneg h (by omega), Int.mul_le_mul_of_nonneg_left d2 h⟩
    · refine Or.inr ⟨by omega, ?_, ?_⟩
      · exact Int.mul_nonpos_of_nonpos_of_nonneg (by omega) (by omega)
      · exact Int.mul_le_mul_of_nonpos_left (by omega) d2
  have e2 : ((g.toInt64 - x.toInt64) * d.toInt64).toInt = Y * D := by
    rw [Int64.toInt_mul, e1, Int32.toInt_toInt64, hD]
    exact b64 (by omega) (by omega)
  have e3 : ((g.toInt64 - x.toInt64) * d.toInt64 / 100).toInt = (Y * D).tdiv 100 := by
    rw [Int64.toInt_div_of_ne_right _ _ (by decide), e2]
    rfl
  have hq : (0 ≤ Y ∧ 0 ≤ (Y * D).tdiv 100 ∧ (Y * D).tdiv 100 ≤ Y) ∨ (Y < 0 ∧ (Y * D).tdiv 100 ≤ 0 ∧ Y ≤ (Y * D).tdiv 100) := by
    rcases hZ with ⟨z1, z2, z3⟩ | ⟨z1, z2, z3⟩
    · rw [Int.tdiv_eq_ediv_of_nonneg z2]
      exact Or.inl ⟨z1, by omega, by omega⟩
    · have hn : (Y * D).tdiv 100 = -((-(Y * D)).tdiv 100) := by
        rw [Int.neg_tdiv]
        omega
      rw [hn, Int.tdiv_eq_ediv_of_nonneg (by omega)]
      exact Or.inr ⟨z1, by omega, by omega⟩
  have e4 : (pCh g x d).toInt = (Y * D).tdiv 100 := by
    unfold pCh
    rw [Int64.toInt_toInt32, e3]
    exact b32 (by omega) (by omega)
  rw [e4]
  exact hq
theorem pCh_kp {g x d : Int32} (hg : kp g) (hx : kp x) (hd : 1 ≤ d.toInt ∧ d.toInt ≤ 100) : kp (x + pCh g x d) := by
  have h := pCh_int hg hx hd
  obtain ⟨g1, g2⟩ := hg
  obtain ⟨x1, x2⟩ := hx
  unfold kp
  rw [Int32.toInt_add, b32 (by omega) (by omega)]
  omega
theorem kb_kp {x : Int32} (h : kb x) (hn : ¬ x = zBRK) : kp x := h.resolve_right hn
/-- what is asked of a model's numbers -/
def pNu (n pc : Nat) (G : zMd) : Prop := (∀ k, k < pc → pRef G.1 k) ∧ pNm n pc G.1 ∧ (∀ v, v < n → ¬ G.2.1 v < 0 → (G.2.1 v).toNatClampNeg < pc) ∧ 1 ≤ G.2.2.2.2.2.2.1.toInt ∧ G.2.2.2.2.2.2.1.toInt ≤ 100
theorem pMt_kb {n pc : Nat} {G : zMd} (h : pNu n pc G) {m : Int32} {A : Nat → Int32} (hA : ∀ u, u < n → kb (A u)) (hm : ∀ u, u < n → bt m u = true → kp (A u)) : ∀ (v : Nat), v ≤ n → ∀ g B, pMt G.1 G.2.1 G.2.2.2.2.2.2.1 m A v = some (g, B) → (∀ u, u < n → kb (B u)) ∧ ∀ u, u < n → bt m u = true → kp (B u)
  | 0, _, g, B, e => by
    cases e
    exact ⟨hA, hm⟩
  | v + 1, hv, g, B, e => by
    unfold pMt at e
    cases h9 : pMt G.1 G.2.1 G.2.2.2.2.2.2.1 m A v with
    | none => rw [h9] at e; cases e
    | some x =>
      obtain ⟨g1, B1⟩ := x
      rw [h9] at e
      dsimp only at e
      obtain ⟨i1, i2⟩ := pMt_kb h hA hm v (by omega) g1 B1 h9
      split at e
      · rename_i hc
        split at e
        · cases e
        · rename_i hb
          cases e
          have hw := kb_kp (pW_kb h.1 h.2.1 i1 _ _ (Nat.lt_succ_self _) (h.2.2.1 v (by omega) hc.2)) hb
          have hk := pCh_kp hw (i2 v (by omega) hc.1) h.2.2.2
          refine ⟨fun u hu => ?_, fun u hu hmu => ?_⟩
          · dsimp only
            split
            · exact Or.inl hk
            · exact i1 u hu
          · dsimp only
            split
            · exact hk
            · exact i2 u hu hmu
      · cases e
        exact ⟨i1, i2⟩
theorem pSet_kb {n : Nat} {m x : Int32} {A : Nat → Int32} (hx : kb x) (hA : ∀ u, u < n → kb (A u)) : ∀ u, u < n → kb (pSet n m x A u) := fun u hu => by
  unfold pSet
  split
  · exact hx
  · exact hA u hu
theorem pLo_kb {n pc : Nat} {G : zMd} (h : pNu n pc G) {m sl : Int32} : ∀ (r : Nat) (t : Int32) (A : Nat → Int32), (∀ u, u < n → kb (A u)) → (∀ u, u < n → bt m u = true → kp (A u)) → ∀ u, u < n → kb ((pLo G.1 G.2.1 G.2.2.2.2.2.2.1 sl n m r t A).1 u)
  | 0, t, A, hA, _ => hA
  | r + 1, t, A, hA, hm => by
    unfold pLo
    cases h9 : pMt G.1 G.2.1 G.2.2.2.2.2.2.1 m A n with
    | none => exact pSet_kb (Or.inr rfl) hA
    | some x =>
      obtain ⟨g, B⟩ := x
      obtain ⟨i1, i2⟩ := pMt_kb h hA hm n (Nat.le_refl n) g B h9
      try dsimp only
      split
      · exact i1
      · exact pLo_kb h r (t + 1) B i1 i2
theorem kp0 : kp 0 := by
  unfold kp
  decide
theorem pSc_kb {n pc : Nat} {R : Nat → Int32} {G : zMd} (h : pNu n pc G) {S : Nat → Int32} {v : Nat} (hv : v < n) {A : Nat → Int32} (hA : ∀ u, u < n → kb (A u)) : ∀ u, u < n → kb ((pSc n R G S v A).1 u) := by
  intro u hu
  unfold pSc
  split
  · exact pSet_kb (Or.inr rfl) hA u hu
  · split
    · refine pLo_kb h 40 1 _ (pSet_kb (Or.inl kp0) hA) (fun x hx hm => ?_) u hu
      unfold pSet
      rw [if_pos ⟨hx, hm⟩]
      exact kp0
    · show kb (if u = v then _ else A u)
      split
      · split
        · exact Or.inl (fKept_kp _)
        · rename_i hf
          exact pW_kb h.1 h.2.1 hA _ _ (Nat.lt_succ_self _) (h.2.2.1 v hv hf)
      · exact hA u hu
theorem pSw_kb {n pc : Nat} {R : Nat → Int32} {G : zMd} (h : pNu n pc G) {S : Nat → Int32} {W : Int32} : ∀ (l : List Nat), (∀ v, v ∈ l → v < n) → ∀ (A : Nat → Int32), (∀ u, u < n → kb (A u)) → ∀ u, u < n → kb (pSw n R G S W l A u)
  | [], _, A, hA => hA
  | v :: l, hl, A, hA => by
    show ∀ u, u < n → kb (pSw n R G S W l _ u)
    refine pSw_kb h l (fun w hw => hl w (List.mem_cons_of_mem _ hw)) _ ?_
    split
    · exact pSc_kb h (hl v List.mem_cons_self) hA
    · exact hA
theorem pF_kb {n pc : Nat} {pl : Nat → Int32} {G : zMd} (h : pNu n pc G) (hw : pWf n pc pl G) (S : Nat → Int32) : ∀ u, u < n → kb (pF n (pRe n G.2.1 pl) G S u) :=
  pSw_kb h _ (fun v hv => (pLs_mem _ _ (pOr_ok hw.1 (pWf_tr hw)) v hv).1) _ (fun _ _ => Or.inl kp0)
/-! turns -/
theorem pLo_T {P : zPt} {fo : Nat → Int32} {d sl : Int32} {n : Nat} {m : Int32} : ∀ (r : Nat), r ≤ 40 → ∀ A, (∃ t, t ≤ 40 ∧ (pLo P fo d sl n m r (nI (41 - r)) A).2.1 = nI t) ∧ ((pLo P fo d sl n m r (nI (41 - r)) A).2.2 = 0 ∨ ((pLo P fo d sl n m r (nI (41 - r)) A).2.2 = 1 ∧ (pLo P fo d sl n m r (nI (41 - r)) A).2.1 = nI 40))
  | 0, _, A => ⟨⟨40, Nat.le_refl 40, by show nI 41 - 1 = nI 40; exact nI_pred 40⟩, Or.inr ⟨rfl, nI_pred 40⟩⟩
  | r + 1, hr, A => by
    unfold pLo
    cases h9 : pMt P fo d m A n with
    | none => exact ⟨⟨41 - (r + 1), by omega, rfl⟩, Or.inl rfl⟩
    | some x =>
      obtain ⟨g, B⟩ := x
      try dsimp only
      split
      · exact ⟨⟨41 - (r + 1), by omega, rfl⟩, Or.inl rfl⟩
      · have e : nI (41 - (r + 1)) + 1 = nI (41 - r) := by
          rw [nI_1]
          exact congrArg nI (by omega)
        rw [e]
        exact pLo_T r (by omega) B
theorem pSc_T {n : Nat} {R : Nat → Int32} {G : zMd} {S : Nat → Int32} {v : Nat} {A : Nat → Int32} : (∃ t, t ≤ 40 ∧ (pSc n R G S v A).2.1 = nI t) ∧ (bt (R v) v = false → (pSc n R G S v A).2 = (0, 0)) ∧ ((pSc n R G S v A).2.2 = 0 ∨ ((pSc n R G S v A).2.2 = 1 ∧ (pSc n R G S v A).2.1 = nI 40 ∧ bt (R v) v = true)) := by
  unfold pSc
  split
  · exact ⟨⟨0, by omega, nI_0.symm⟩, fun _ => rfl, Or.inl rfl⟩
  · split
    · rename_i hr
      have h := pLo_T (P := G.1) (fo := G.2.1) (d := G.2.2.2.2.2.2.1) (sl := G.2.2.2.2.2.1) (n := n) (m := pCi n R v) 40 (Nat.le_refl 40) (pSet n (pCi n R v) 0 A)
      refine ⟨h.1, fun q => (by rw [q] at hr; cases hr), h.2.imp id (fun q => ⟨q.1, q.2, hr⟩)⟩
    · exact ⟨⟨0, by omega, nI_0.symm⟩, fun _ => rfl, Or.inl rfl⟩
/-! what the amounts are -/
theorem pLs_cover {n : Nat} {R : Nat → Int32} : ∀ (l : List Nat) (come : Int32), pLs n R come l → ∀ u, u < n → bt come u = true ∨ ∃ v, v ∈ l ∧ bt (pCi n R v) u = true
  | [], come, h, u, hu => Or.inl (h u hu)
  | v :: l, come, h, u, hu => by
    obtain ⟨h1, h2, h3, h4, h5⟩ := h
    rcases pLs_cover l _ h5 u hu with q | ⟨w, hw, q⟩
    · rw [bt_or, Bool.or_eq_true] at q
      exact q.imp id (fun z => ⟨v, List.mem_cons_self, z⟩)
    · exact Or.inr ⟨w, List.mem_cons_of_mem _ hw, q⟩
theorem pOr_cover {n : Nat} {R : Nat → Int32} (hn : n ≤ 32) (hR : pTr n R) {u : Nat} (hu : u < n) : ∃ v, v ∈ pOr n R ∧ v < n ∧ bt (pCi n R v) u = true := by
  have hls := pOr_ok hn hR
  rcases pLs_cover _ _ hls u hu with q | ⟨v, hv, q⟩
  · rw [bt_zero] at q
    cases q
  · exact ⟨v, hv, (pLs_mem _ _ hls v hv).1, q⟩
theorem pF_noted {n pc : Nat} {pl : Nat → Int32} {G : zMd} (h : pWf n pc pl G) (S : Nat → Int32) {v : Nat} (hv : v < n) (hb : bt G.2.2.2.2.2.2.2 v = true) : pF n (pRe n G.2.1 pl) G S v = zBRK := by
  obtain ⟨w, hw, hwn, hm⟩ := pOr_cover h.1 (pWf_tr h) hv
  rw [← pF_fx h S w hw v hm]
  unfold pSc
  rw [if_pos (bt_and_ne hm hb)]
  show pSet n _ zBRK _ v = zBRK
  unfold pSet
  rw [if_pos ⟨hv, hm⟩]
/-- a circle that is not round is one variable -/
theorem pCi_one {n : Nat} {R : Nat → Int32} (hn : n ≤ 32) (hR : pTr n R) {v u : Nat} (hv : v < n) (hr : bt (R v) v = false) (hu : bt (pCi n R v) u = true) : u = v := by
  rcases ((pCi_iff (by omega) hn).mp hu).1 with q | q
  · exact q
  · rcases ((pCi_iff (by omega) hn).mp hu).2 with z | z
    · have := hR.1 v hv u q.1 v z q.2
      rw [hr] at this
      cases this
    · exact z
theorem pF_input {n pc : Nat} {pl : Nat → Int32} {G : zMd} (h : pWf n pc pl G) (S : Nat → Int32) {v : Nat} (hv : v < n) (hf : G.2.1 v < 0) (hb : bt G.2.2.2.2.2.2.2 v = false) : pF n (pRe n G.2.1 pl) G S v = pWo G.2.2.2.1 G.2.2.2.2.1 (S v) (G.2.2.1 v) := by
  have hn := h.1
  have hT := pWf_tr h
  have hR0 : pRe n G.2.1 pl v = 0 := pWa_zero n _ v (by unfold pLe; rw [if_pos hf]) n
  have hnr : bt (pRe n G.2.1 pl v) v = false := by rw [hR0, bt_zero]
  obtain ⟨w, hw, hwn, hm⟩ := pOr_cover hn hT hv
  have hwv : w = v := by
    rcases ((pCi_iff (by omega) hn).mp hm).1 with q | q
    · exact q.symm
    · rw [hR0, bt_zero] at q
      cases q.2
  rw [hwv] at hw hm
  rw [← pF_fx h S v hw v hm]
  unfold pSc
  rw [if_neg, if_neg (fun q => by rw [hnr] at q; cases q)]
  · show (if v = v then _ else _) = _
    rw [if_pos rfl, if_pos hf]
  · refine fun q => q (bt_ext fun i hi => ?_)
    rw [bt_and, bt_zero]
    cases hx : bt (pCi n (pRe n G.2.1 pl) v) i with
    | false => rfl
    | true =>
      rw [pCi_one hn hT hv hnr hx, hb]
      rfl
theorem pF_form {n pc : Nat} {pl : Nat → Int32} {G : zMd} (h : pWf n pc pl G) (S : Nat → Int32) {v : Nat} (hl : v ∈ pOr n (pRe n G.2.1 pl)) (hf : ¬ G.2.1 v < 0) (hnr : bt (pRe n G.2.1 pl v) v = false) (hb : ¬ pF n (pRe n G.2.1 pl) G S v = zBRK) : pF n (pRe n G.2.1 pl) G S v = pW G.1 (pF n (pRe n G.2.1 pl) G S) (G.2.1 v).toNatClampNeg := by
  have hn := h.1
  have hT := pWf_tr h
  have hv := (pLs_mem _ _ (pOr_ok hn hT) v hl).1
  have hm := pCi_self (n := n) (R := pRe n G.2.1 pl) (v := v) (by omega) hn
  have hfx := pF_fx h S v hl v hm
  rw [← hfx]
  unfold pSc
  by_cases hc : ¬ pCi n (pRe n G.2.1 pl) v &&& G.2.2.2.2.2.2.2 = 0
  · exfalso
    apply hb
    rw [← hfx]
    unfold pSc
    rw [if_pos hc]
    show pSet n _ zBRK _ v = zBRK
    unfold pSet
    rw [if_pos ⟨hv, hm⟩]
  · rw [if_neg hc, if_neg (fun q => by rw [hnr] at q; cases q)]
    show (if v = v then _ else _) = _
    rw [if_pos rfl, if_neg hf]

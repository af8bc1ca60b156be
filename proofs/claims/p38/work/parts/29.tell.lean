/-! ===== what is told ===== -/
theorem bL_or (a b : Int64) (i : Nat) : bL (a ||| b) i = (bL a i || bL b i) := by
  unfold bL
  rw [Int64.toBitVec_or, BitVec.getLsbD_or]
theorem bL_ge {a : Int64} {i : Nat} (h : 64 ≤ i) : bL a i = false := by
  unfold bL
  exact BitVec.getLsbD_of_ge _ _ h
theorem bL_one {v i : Nat} (hv : v < 60) : bL (zrb v) i = decide (i = v) := by
  by_cases hi : i < 64
  · have key : ∀ v, v < 60 → ∀ i, i < 64 → bL (zrb v) i = decide (i = v) := by decide +kernel
    exact key v hv i hi
  · rw [bL_ge (by omega)]
    exact (decide_eq_false (by omega)).symm
theorem cI_new {σ σ1 : zIn} {τ τ1 : zLo} {n pc un : Nat} (H : cI σ τ n pc un) (hN : cNewP σ τ σ1 τ1 pc) (h60 : pc < 60) (hl : pLn (zPT σ1) (σ1 85) pc) (hb : ∀ u, bt (σ1 85 pc) u = true → u < n)
    (hm : (σ1 18 pc = 0 → kp (σ1 19 pc)) ∧ (σ1 18 pc = 1 → (σ1 19 pc).toNatClampNeg < n)) (hi : pIn σ1 τ1 pc) (ht : ∀ k, bL (τ1 84 pc) k = true → k ≤ pc) : cI σ1 τ1 n (pc + 1) un := by
  obtain ⟨⟨t1, t2, t3, t4, t5, t6⟩, w, c, v, u, kk, p⟩ := H
  obtain ⟨f, f17, e⟩ := hN
  have e' : ∀ k, k < pc → σ1 18 k = σ 18 k ∧ σ1 19 k = σ 19 k ∧ σ1 20 k = σ 20 k ∧ σ1 21 k = σ 21 k ∧ σ1 85 k = σ 85 k ∧ τ1 84 k = τ 84 k := fun k hk => e k (by omega)
  have hRef : ∀ k, k < pc → pRef (zPT σ) k → pRef (zPT σ1) k := fun k hk h => by
    obtain ⟨e1, e2, e3, e4, -⟩ := e' k hk
    show σ1 18 k = 0 ∨ σ1 18 k = 1 ∨ ((σ1 19 k).toNatClampNeg < k ∧ (σ1 20 k).toNatClampNeg < k ∧ (σ1 21 k).toNatClampNeg < k)
    rw [e1, e2, e3, e4]
    exact h
  have hPk : ∀ k, k < pc → pPk σ k → pPk σ1 k := fun k hk h => by
    obtain ⟨e1, e2, e3, e4, -⟩ := e' k hk
    unfold pPk
    rw [e1, e2, e3, e4]
    exact h
  have hLn : ∀ k, k < pc → pLn (zPT σ) (σ 85) k → pLn (zPT σ1) (σ1 85) k := fun k hk h => by
    obtain ⟨e1, e2, e3, e4, e5, -⟩ := e' k hk
    obtain ⟨h1, h2, h3⟩ := h
    refine ⟨hRef k hk h1, ?_, ?_⟩
    · show σ1 18 k = 1 → bt (σ1 85 k) (σ1 19 k).toNatClampNeg = true
      rw [e1, e2, e5]
      exact h2
    · show ¬ σ1 18 k = 0 → ¬ σ1 18 k = 1 → ∀ u, bt (σ1 85 (σ1 19 k).toNatClampNeg) u = true ∨ bt (σ1 85 (σ1 20 k).toNatClampNeg) u = true ∨ bt (σ1 85 (σ1 21 k).toNatClampNeg) u = true → bt (σ1 85 k) u = true
      rw [e1, e2, e3, e4, e5]
      intro q0 q1
      rcases h1 with z | z | ⟨z1, z2, z3⟩
      · exact absurd z q0
      · exact absurd z q1
      · have z1' : (σ 19 k).toNatClampNeg < k := z1
        have z2' : (σ 20 k).toNatClampNeg < k := z2
        have z3' : (σ 21 k).toNatClampNeg < k := z3
        rw [(e' _ (by omega)).2.2.2.2.1, (e' _ (by omega)).2.2.2.2.1, (e' _ (by omega)).2.2.2.2.1]
        exact h3 q0 q1
  have hIn : ∀ g, g < pc → pIn σ τ g → pIn σ1 τ1 g := fun g hg h => by
    unfold pIn
    rw [(e' g hg).2.2.2.2.2]
    refine ⟨h.1, fun k hk hbk => ?_⟩
    obtain ⟨a1, a2, a3⟩ := h.2 k hk hbk
    obtain ⟨e1, e2, e3, e4, -⟩ := e' k (by omega)
    refine ⟨hPk k (by omega) a1, hRef k (by omega) a2, ?_⟩
    rw [e1, e2, e3, e4]
    exact a3
  have f88 : σ1 88 = σ 88 := f 88 (by decide)
  have cut : ∀ {Q : Nat → Prop}, (∀ k, k < pc → Q k) → Q pc → ∀ k, k < pc + 1 → Q k := fun h1 h2 k hk => by
    by_cases q : k = pc
    · rw [q]; exact h2
    · exact h1 k (by omega)
  have hfo : ∀ v, v < n → ¬ σ1 88 v < 0 → ∃ g, σ1 88 v = nI g ∧ g < pc + 1 := fun v hv hc => by
    rw [f88] at hc ⊢
    obtain ⟨g, h1, h2⟩ := t5 v hv hc
    exact ⟨g, h1, by omega⟩
  have hfc : ∀ v, v < n → ¬ σ1 88 v < 0 → (σ1 88 v).toNatClampNeg < pc + 1 := fun v hv hc => by
    obtain ⟨g, h1, h2⟩ := hfo v hv hc
    rw [h1, nI_clamp (by omega)]
    exact h2
  refine ⟨⟨by rw [f 86 (by decide)]; exact t1, t2, by omega, ⟨?_, ?_, hfc, ?_⟩, hfo, ?_⟩, ⟨w.1, ?_, hfc, ?_⟩, ⟨f17, ?_, c.2.2⟩, ?_, ?_, ?_, ?_⟩
  · exact cut (fun k hk => hRef k hk (t4.1 k hk)) hl.1
  · refine cut (fun k hk => ?_) hm
    obtain ⟨e1, e2, -⟩ := e' k hk
    show (σ1 18 k = 0 → kp (σ1 19 k)) ∧ (σ1 18 k = 1 → (σ1 19 k).toNatClampNeg < n)
    rw [e1, e2]
    exact t4.2.1 k hk
  · show 1 ≤ (σ1 100 7).toInt ∧ (σ1 100 7).toInt ≤ 100
    rw [f 100 (by decide)]
    exact t4.2.2.2
  · exact cut (fun k hk => hIn k hk (t6 k hk)) hi
  · exact cut (fun k hk => hLn k hk (w.2.1 k hk)) hl
  · refine cut (fun k hk => ?_) hb
    rw [(e' k hk).2.2.2.2.1]
    exact w.2.2.2 k hk
  · rw [f 1 (by decide)]
    exact c.2.1
  · rw [f 87 (by decide), f 89 (by decide)]
    exact v
  · rw [f 15 (by decide), f 16 (by decide)]
    exact u
  · rw [f 103 (by decide)]
    exact kk
  · refine cut (fun k hk => ?_) ht
    rw [(e' k hk).2.2.2.2.2]
    exact p k hk
/-- a leaf -/
theorem cI_leaf {σ σ1 : zIn} {τ τ1 : zLo} {n pc un : Nat} (H : cI σ τ n pc un) (hN : cNewP σ τ σ1 τ1 pc) (h60 : pc < 60) (h84 : τ1 84 pc = zrb pc)
    (hc : (σ1 18 pc = 0 ∧ kp (σ1 19 pc) ∧ σ1 85 pc = 0) ∨ (σ1 18 pc = 1 ∧ ∃ v, v < n ∧ σ1 19 pc = nI v ∧ σ1 85 pc = zone v)) : cI σ1 τ1 n (pc + 1) un := by
  have h16 := H.1.2.1
  have hr : pRef (zPT σ1) pc := hc.elim (fun q => Or.inl q.1) (fun q => Or.inr (Or.inl q.1))
  have hz : (σ1 18 pc = 0 → False) → σ1 18 pc = 1 := fun q => hc.elim (fun z => (q z.1).elim) (fun z => z.1)
  have hbk : ∀ k, bL (τ1 84 pc) k = true → k = pc := fun k hk => by
    rw [h84, bL_one h60, decide_eq_true_eq] at hk
    exact hk
  refine cI_new H hN h60 ⟨hr, fun q => ?_, fun q0 q1 => absurd (hz q0) q1⟩ (fun u hu => ?_) ⟨fun q => ?_, fun q => ?_⟩ ⟨?_, fun k hk hb => ?_⟩ (fun k hk => Nat.le_of_eq (hbk k hk))
  · have q' : σ1 18 pc = 1 := q
    rcases hc with ⟨z, -⟩ | ⟨-, v, hv, h19, h85⟩
    · rw [z] at q'
      exact absurd q' (by decide)
    · show bt (σ1 85 pc) (σ1 19 pc).toNatClampNeg = true
      rw [h85, h19, nI_clamp (by omega), bt_one (by omega)]
      exact decide_eq_true rfl
  · rcases hc with ⟨-, -, z⟩ | ⟨-, v, hv, h19, h85⟩
    · rw [z, bt_zero] at hu
      cases hu
    · rw [h85, bt_one (by omega), decide_eq_true_eq] at hu
      rw [hu]
      exact hv
  · rcases hc with ⟨-, z, -⟩ | ⟨z, -⟩
    · exact z
    · rw [z] at q
      exact absurd q (by decide)
  · rcases hc with ⟨z, -⟩ | ⟨-, v, hv, h19, h85⟩
    · rw [z] at q
      exact absurd q (by decide)
    · rw [h19, nI_clamp (by omega)]
      exact hv
  · rw [h84, bL_one h60]
    exact decide_eq_true rfl
  · rw [hbk k hb]
    refine ⟨?_, hr, fun q0 q1 => absurd (hz q0) q1⟩
    rcases hc with ⟨z, -⟩ | ⟨z, v, hv, h19, h85⟩
    · exact ⟨0, z, Or.inl rfl⟩
    · exact ⟨1, z, Or.inr (Or.inl ⟨rfl, v, h19, by omega⟩)⟩
/-- one that names others -/
theorem cI_node {σ σ1 : zIn} {τ τ1 : zLo} {n pc un c i j q : Nat} (H : cI σ τ n pc un) (hN : cNewP σ τ σ1 τ1 pc) (h60 : pc < 60) (hi : i < pc) (hj : j < pc) (hq : q < pc) (hc2 : 2 ≤ c) (hc9 : c ≤ 9)
    (h18 : σ1 18 pc = nI c) (h19 : σ1 19 pc = nI i) (h20 : σ1 20 pc = nI j) (h21 : σ1 21 pc = nI q) (h85 : σ1 85 pc = σ 85 i ||| σ 85 j ||| σ 85 q) (h84 : τ1 84 pc = τ 84 i ||| τ 84 j ||| τ 84 q ||| zrb pc) : cI σ1 τ1 n (pc + 1) un := by
  have n0 : ¬ σ1 18 pc = 0 := by rw [h18]; exact nI_ne0 (by omega) (by omega)
  have n1 : ¬ σ1 18 pc = 1 := by
    rw [h18]
    intro z
    have := (nI_eq (by omega) (by omega)).mp (show nI c = nI 1 from z)
    omega
  have e19 : (σ1 19 pc).toNatClampNeg = i := by rw [h19, nI_clamp (by omega)]
  have e20 : (σ1 20 pc).toNatClampNeg = j := by rw [h20, nI_clamp (by omega)]
  have e21 : (σ1 21 pc).toNatClampNeg = q := by rw [h21, nI_clamp (by omega)]
  have hr : pRef (zPT σ1) pc := Or.inr (Or.inr ⟨by show (σ1 19 pc).toNatClampNeg < pc; omega, by show (σ1 20 pc).toNatClampNeg < pc; omega, by show (σ1 21 pc).toNatClampNeg < pc; omega⟩)
  have o85 : ∀ k, k < pc → σ1 85 k = σ 85 k := fun k hk => (hN.2.2 k (by omega)).2.2.2.2.1
  have m85 : ∀ u, bt (σ1 85 pc) u = (bt (σ 85 i) u || bt (σ 85 j) u || bt (σ 85 q) u) := fun u => by rw [h85, bt_or, bt_or]
  have m84 : ∀ k, bL (τ1 84 pc) k = (bL (τ 84 i) k || bL (τ 84 j) k || bL (τ 84 q) k || decide (k = pc)) := fun k => by rw [h84, bL_or, bL_or, bL_or, bL_one h60]
  have hin := H.1.2.2.2.2.2
  have htop := H.2.2.2.2.2.2
  have hcs : ∀ k, bL (τ1 84 pc) k = true → k = pc ∨ ∃ g, (g = i ∨ g = j ∨ g = q) ∧ bL (τ 84 g) k = true := fun k hk => by
    rw [m84] at hk
    simp only [Bool.or_eq_true, decide_eq_true_eq] at hk
    rcases hk with ((z | z) | z) | z
    · exact Or.inr ⟨i, Or.inl rfl, z⟩
    · exact Or.inr ⟨j, Or.inr (Or.inl rfl), z⟩
    · exact Or.inr ⟨q, Or.inr (Or.inr rfl), z⟩
    · exact Or.inl z
  have hsub : ∀ g, (g = i ∨ g = j ∨ g = q) → g < pc ∧ ∀ k, bL (τ 84 g) k = true → bL (τ1 84 pc) k = true := fun g hg => by
    rcases hg with rfl | rfl | rfl
    · exact ⟨hi, fun k hk => by rw [m84, hk]; rfl⟩
    · exact ⟨hj, fun k hk => by rw [m84, hk]; simp⟩
    · exact ⟨hq, fun k hk => by rw [m84, hk]; simp⟩
  refine cI_new H hN h60 ⟨hr, fun z => absurd z n1, fun _ _ u hu => ?_⟩ (fun u hu => ?_) ⟨fun z => absurd z n0, fun z => absurd z n1⟩ ⟨?_, fun k hk hb => ?_⟩ (fun k hk => ?_)
  · have hu' : bt (σ1 85 (σ1 19 pc).toNatClampNeg) u = true ∨ bt (σ1 85 (σ1 20 pc).toNatClampNeg) u = true ∨ bt (σ1 85 (σ1 21 pc).toNatClampNeg) u = true := hu
    rw [e19, e20, e21, o85 i hi, o85 j hj, o85 q hq] at hu'
    rw [m85]
    rcases hu' with z | z | z <;> rw [z] <;> simp
  · rw [m85] at hu
    simp only [Bool.or_eq_true] at hu
    rcases hu with (z | z) | z
    · exact H.2.1.2.2.2 i hi u z
    · exact H.2.1.2.2.2 j hj u z
    · exact H.2.1.2.2.2 q hq u z
  · rw [m84, decide_eq_true rfl, Bool.or_true]
  · rcases hcs k hb with z | ⟨g, hg, z⟩
    · rw [z]
      refine ⟨⟨c, h18, Or.inr (Or.inr ⟨hc2, hc9, i, j, q, h19, h20, h21, by omega, by omega, by omega⟩)⟩, hr, fun _ _ => ?_⟩
      rw [e19, e20, e21]
      exact ⟨(hsub i (Or.inl rfl)).2 i (hin i hi).1, (hsub j (Or.inr (Or.inl rfl))).2 j (hin j hj).1, (hsub q (Or.inr (Or.inr rfl))).2 q (hin q hq).1⟩
    · obtain ⟨hgp, hsg⟩ := hsub g hg
      have hkg := htop g hgp k z
      obtain ⟨a1, a2, a3⟩ := (hin g hgp).2 k hkg z
      obtain ⟨e1, e2, e3, e4, -⟩ := hN.2.2 k (by omega)
      refine ⟨?_, ?_, ?_⟩
      · unfold pPk
        rw [e1, e2, e3, e4]
        exact a1
      · show σ1 18 k = 0 ∨ σ1 18 k = 1 ∨ ((σ1 19 k).toNatClampNeg < k ∧ (σ1 20 k).toNatClampNeg < k ∧ (σ1 21 k).toNatClampNeg < k)
        rw [e1, e2, e3, e4]
        exact a2
      · rw [e1, e2, e3, e4]
        exact fun q0 q1 => ⟨hsg _ (a3 q0 q1).1, hsg _ (a3 q0 q1).2.1, hsg _ (a3 q0 q1).2.2⟩
  · rcases hcs k hk with z | ⟨g, hg, z⟩
    · omega
    · obtain ⟨hgp, -⟩ := hsub g hg
      have := htop g hgp k z
      omega
def spX7_number : zSp := zDQ (X := zIn × zLo × Nat × Nat × Nat × Int32 × Nat) (fun x => match x with | (σ, τ, n, pc, un, a, u) => [.ref 0, .int a, .int (nI u)]) (fun x => match x with | (σ, τ, n, pc, un, a, u) => (119, zSH, zRH, σ, τ)) (fun x => match x with | (σ, τ, n, pc, un, a, u) => cI σ τ n pc un ∧ pc < 60 ∧ u < un ∧ -1000000000 ≤ a ∧ a ≤ 1000000000) (fun x r9 μ9 => match x with | (σ, τ, n, pc, un, a, u) => r9 = some (.int (nI pc)) ∧ ∃ (σ1 : zIn) (τ1 : zLo), μ9 = (119, zSH, zRH, σ1, τ1) ∧ cI σ1 τ1 n (pc + 1) un ∧ ∀ r, r < 17 ∨ 85 < r → σ1 r = σ r)
abbrev rmX7_number : Room := ({ frames := 2, cells := 0, slots := 0, locals := 51 } : Room)
set_option maxRecDepth 100000 in
set_option maxHeartbeats 4000000 in
theorem ctX7_number (l : Launch) (D : va_G) (cA : Nat → ClassId) : zCt false l D cA yX7_number cX7_number 3 (some .int) rmX7_number spX7_number := by
  refine zct_Q (zCX7_number [(104, 0, 1, spX7_needUnit, rmX7_needUnit.cells, rmX7_needUnit.slots), (115, 0, 1, spX7_needAmount, rmX7_needAmount.cells, rmX7_needAmount.slots), (118, 0, 0, spX7_needRoomForPart, rmX7_needRoomForPart.cells, rmX7_needRoomForPart.slots), (121, 0, 2, spX5_withoutUnit, rmX5_withoutUnit.cells, rmX5_withoutUnit.slots), (128, 0, 4, spX2_addLeaf, rmX2_addLeaf.cells, rmX2_addLeaf.slots)]) zpX7_number [] (by decide +kernel) zkX7_number (Or.inr (by decide +kernel)) trivial ⟨by decide +kernel, by decide +kernel⟩ (fun x ad => Nat.le_of_ble_eq_true rfl) ?_ ?_
  · intro p e s m args below meth c A H0 ad0 n0 Q F hml hNw hA hX
    exact ⟨zco_V hX hA F hml hNw (ctX7_needUnit l D cA) ⟨⟨zlX7_number_104, zwX7_needUnit.1.1, zwX7_needUnit.1.2⟩, zwX7_needUnit.2⟩ zdX7_needUnit ⟨Nat.le_of_ble_eq_true rfl, Nat.le_of_ble_eq_true rfl⟩ (ci := 7) (by decide) rfl (by rintro av μ K ⟨x, rfl, rfl, -⟩; exact ⟨_, _, rfl, rfl⟩), zco_V hX hA F hml hNw (ctX7_needAmount l D cA) ⟨⟨zlX7_number_115, zwX7_needAmount.1.1, zwX7_needAmount.1.2⟩, zwX7_needAmount.2⟩ zdX7_needAmount ⟨Nat.le_of_ble_eq_true rfl, Nat.le_of_ble_eq_true rfl⟩ (ci := 7) (by decide) rfl (by rintro av μ K ⟨x, rfl, rfl, -⟩; exact ⟨_, _, rfl, rfl⟩), zco_V hX hA F hml hNw (ctX7_needRoomForPart l D cA) ⟨⟨zlX7_number_118, zwX7_needRoomForPart.1.1, zwX7_needRoomForPart.1.2⟩, zwX7_needRoomForPart.2⟩ zdX7_needRoomForPart ⟨Nat.le_of_ble_eq_true rfl, Nat.le_of_ble_eq_true rfl⟩ (ci := 7) (by decide) rfl (by rintro av μ K ⟨x, rfl, rfl, -⟩; exact ⟨_, _, rfl, rfl⟩), zco_V hX hA F hml hNw (ctX5_withoutUnit l D cA) ⟨⟨zlX7_number_121, zwX5_withoutUnit.1.1, zwX5_withoutUnit.1.2⟩, zwX5_withoutUnit.2⟩ zdX5_withoutUnit ⟨Nat.le_of_ble_eq_true rfl, Nat.le_of_ble_eq_true rfl⟩ (ci := 5) (by decide) rfl (by rintro av μ K ⟨x, rfl, rfl, -⟩; exact ⟨_, _, rfl, rfl⟩), zco_V hX hA F hml hNw (ctX2_addLeaf l D cA) ⟨⟨zlX7_number_128, zwX2_addLeaf.1.1, zwX2_addLeaf.1.2⟩, zwX2_addLeaf.2⟩ zdX2_addLeaf ⟨Nat.le_of_ble_eq_true rfl, Nat.le_of_ble_eq_true rfl⟩ (ci := 2) (by decide) rfl (by rintro av μ K ⟨x, rfl, rfl, -⟩; exact ⟨_, _, rfl, rfl⟩), trivial⟩
  · rintro ⟨σ, τ, n, pc, un, a, u⟩ Ret hP hK Gl hG
    try dsimp only at hP hK
    show Gl 0 (zent 3 [.ref 0, .int a, .int (nI u)]) [] (0, 0) ((119, zSH, zRH, σ, τ))
    obtain ⟨hI, h60, hu, ha⟩ := hP
    have hun := hI.2.2.1.2.1
    have h12 := hI.2.2.1.2.2
    have r1 := zRH_ue u (by omega)
    have hq : ¬ (σ 16 u).toInt64 = 0 := zl_ne0 fun q => by
      have := (hI.2.2.2.2.1 u hu).2.1
      rw [q] at this
      exact absurd this (by decide)
    refine hG 100 _ _ _ _ _ ?_
    repeat (conv => whnf
            try dsimp only
            try simp (decide := true) only [zu_same, zu_ne1, zu_ne2, zu_row, zuL_same, zuL_ne1, zuL_ne2, zrow_n1, zx0, zx1, zx2, zx3, nI_1, Nat.reduceAdd, Nat.reduceMul, Int32.reduceAdd, Int32.reduceSub, Int32.reduceMul]
            first
            | refine ⟨vp_inb (by decide), ?_⟩
            | refine ⟨by with_reducible exact zi (by omega), ?_⟩
            | refine ⟨fun h => absurd h (by with_reducible exact nI_ge (by omega) (by omega)), fun _ => ?_⟩
            | refine ⟨fun _ => ?_, fun h => absurd (by with_reducible exact nI_le (by omega) (by omega)) h⟩
            | refine ⟨fun h => absurd h (by with_reducible exact nI_nlt (by omega) (by omega)), fun _ => ?_⟩
            | refine ⟨fun _ => ?_, fun h => absurd (by with_reducible exact nI_lt (by omega) (by omega)) h⟩
            | refine ⟨fun h => absurd h (by with_reducible exact nI_pos (by omega)), fun _ => ?_⟩
            | refine ⟨fun _ => ?_, fun h => absurd (by with_reducible exact nI_0le (by omega)) h⟩
            | refine ⟨fun h => absurd h (by decide), fun _ => ?_⟩
            | refine ⟨fun _ => ?_, fun h => absurd (by decide) h⟩
            | refine ⟨fun _ => ?_, fun h => absurd h (by decide)⟩
            | refine ⟨fun h => absurd (by decide) h, fun _ => ?_⟩
            | refine ⟨by decide, ?_⟩
            | refine ⟨rfl, ?_⟩)
    try (conv => whnf)
    refine ⟨(σ, τ, un, u), rfl, rfl, ⟨hun, h12, hu⟩, ?_⟩
    try dsimp only [cond_true, cond_false]
    repeat (conv => whnf
            try dsimp only
            try simp (decide := true) only [zu_same, zu_ne1, zu_ne2, zu_row, zuL_same, zuL_ne1, zuL_ne2, zrow_n1, zx0, zx1, zx2, zx3, nI_1, Nat.reduceAdd, Nat.reduceMul, Int32.reduceAdd, Int32.reduceSub, Int32.reduceMul]
            first
            | refine ⟨vp_inb (by decide), ?_⟩
            | refine ⟨by with_reducible exact zi (by omega), ?_⟩
            | refine ⟨fun h => absurd h (by with_reducible exact nI_ge (by omega) (by omega)), fun _ => ?_⟩
            | refine ⟨fun _ => ?_, fun h => absurd (by with_reducible exact nI_le (by omega) (by omega)) h⟩
            | refine ⟨fun h => absurd h (by with_reducible exact nI_nlt (by omega) (by omega)), fun _ => ?_⟩
            | refine ⟨fun _ => ?_, fun h => absurd (by with_reducible exact nI_lt (by omega) (by omega)) h⟩
            | refine ⟨fun h => absurd h (by with_reducible exact nI_pos (by omega)), fun _ => ?_⟩
            | refine ⟨fun _ => ?_, fun h => absurd (by with_reducible exact nI_0le (by omega)) h⟩
            | refine ⟨fun h => absurd h (by decide), fun _ => ?_⟩
            | refine ⟨fun _ => ?_, fun h => absurd (by decide) h⟩
            | refine ⟨fun _ => ?_, fun h => absurd h (by decide)⟩
            | refine ⟨fun h => absurd (by decide) h, fun _ => ?_⟩
            | refine ⟨by decide, ?_⟩
            | refine ⟨rfl, ?_⟩)
    try (conv => whnf)
    refine ⟨(σ, τ, a), rfl, rfl, ha, ?_⟩
    try dsimp only [cond_true, cond_false]
    repeat (conv => whnf
            try dsimp only
            try simp (decide := true) only [zu_same, zu_ne1, zu_ne2, zu_row, zuL_same, zuL_ne1, zuL_ne2, zrow_n1, zx0, zx1, zx2, zx3, nI_1, Nat.reduceAdd, Nat.reduceMul, Int32.reduceAdd, Int32.reduceSub, Int32.reduceMul]
            first
            | refine ⟨vp_inb (by decide), ?_⟩
            | refine ⟨by with_reducible exact zi (by omega), ?_⟩
            | refine ⟨fun h => absurd h (by with_reducible exact nI_ge (by omega) (by omega)), fun _ => ?_⟩
            | refine ⟨fun _ => ?_, fun h => absurd (by with_reducible exact nI_le (by omega) (by omega)) h⟩
            | refine ⟨fun h => absurd h (by with_reducible exact nI_nlt (by omega) (by omega)), fun _ => ?_⟩
            | refine ⟨fun _ => ?_, fun h => absurd (by with_reducible exact nI_lt (by omega) (by omega)) h⟩
            | refine ⟨fun h => absurd h (by with_reducible exact nI_pos (by omega)), fun _ => ?_⟩
            | refine ⟨fun _ => ?_, fun h => absurd (by with_reducible exact nI_0le (by omega)) h⟩
            | refine ⟨fun h => absurd h (by decide), fun _ => ?_⟩
            | refine ⟨fun _ => ?_, fun h => absurd (by decide) h⟩
            | refine ⟨fun _ => ?_, fun h => absurd h (by decide)⟩
            | refine ⟨fun h => absurd (by decide) h, fun _ => ?_⟩
            | refine ⟨by decide, ?_⟩
            | refine ⟨rfl, ?_⟩)
    try (conv => whnf)
    refine ⟨(σ, τ, pc), rfl, rfl, ⟨hI.2.2.1.1, h60⟩, ?_⟩
    try dsimp only [cond_true, cond_false]
    repeat (conv => whnf
            try dsimp only
            try simp (decide := true) only [zu_same, zu_ne1, zu_ne2, zu_row, zuL_same, zuL_ne1, zuL_ne2, zrow_n1, zx0, zx1, zx2, zx3, nI_1, Nat.reduceAdd, Nat.reduceMul, Int32.reduceAdd, Int32.reduceSub, Int32.reduceMul]
            first
            | refine ⟨vp_inb (by decide), ?_⟩
            | refine ⟨by with_reducible exact zi (by omega), ?_⟩
            | refine ⟨fun h => absurd h (by with_reducible exact nI_ge (by omega) (by omega)), fun _ => ?_⟩
            | refine ⟨fun _ => ?_, fun h => absurd (by with_reducible exact nI_le (by omega) (by omega)) h⟩
            | refine ⟨fun h => absurd h (by with_reducible exact nI_nlt (by omega) (by omega)), fun _ => ?_⟩
            | refine ⟨fun _ => ?_, fun h => absurd (by with_reducible exact nI_lt (by omega) (by omega)) h⟩
            | refine ⟨fun h => absurd h (by with_reducible exact nI_pos (by omega)), fun _ => ?_⟩
            | refine ⟨fun _ => ?_, fun h => absurd (by with_reducible exact nI_0le (by omega)) h⟩
            | refine ⟨fun h => absurd h (by decide), fun _ => ?_⟩
            | refine ⟨fun _ => ?_, fun h => absurd (by decide) h⟩
            | refine ⟨fun _ => ?_, fun h => absurd h (by decide)⟩
            | refine ⟨fun h => absurd (by decide) h, fun _ => ?_⟩
            | refine ⟨by decide, ?_⟩
            | refine ⟨rfl, ?_⟩)
    try (conv => whnf)
    refine ⟨(σ, τ, a, nI u), rfl, rfl, ⟨zi (by omega), by rw [nI_clamp (by omega)]; exact hq⟩, ?_⟩
    try dsimp only [cond_true, cond_false]
    repeat (first
      | (conv => whnf
         try dsimp only
         try simp (decide := true) only [r1, nI_clamp (show u < 2 ^ 31 by omega), zu_same, zu_ne1, zu_ne2, zu_row, zuL_same, zuL_ne1, zuL_ne2, zrow_n1, zx0, zx1, zx2, zx3, nI_1, Nat.reduceAdd, Nat.reduceMul, Int32.reduceAdd, Int32.reduceSub, Int32.reduceMul]
         first
         | refine ⟨vp_inb (by decide), ?_⟩
         | refine ⟨by with_reducible exact zi (by omega), ?_⟩
         | refine ⟨fun h => absurd h (by with_reducible exact nI_ge (by omega) (by omega)), fun _ => ?_⟩
         | refine ⟨fun _ => ?_, fun h => absurd (by with_reducible exact nI_le (by omega) (by omega)) h⟩
         | refine ⟨fun h => absurd h (by with_reducible exact nI_nlt (by omega) (by omega)), fun _ => ?_⟩
         | refine ⟨fun _ => ?_, fun h => absurd (by with_reducible exact nI_lt (by omega) (by omega)) h⟩
         | refine ⟨fun h => absurd h (by with_reducible exact nI_pos (by omega)), fun _ => ?_⟩
         | refine ⟨fun _ => ?_, fun h => absurd (by with_reducible exact nI_0le (by omega)) h⟩
         | refine ⟨fun h => absurd h (by decide), fun _ => ?_⟩
         | refine ⟨fun _ => ?_, fun h => absurd (by decide) h⟩
         | refine ⟨fun _ => ?_, fun h => absurd h (by decide)⟩
         | refine ⟨fun h => absurd (by decide) h, fun _ => ?_⟩
         | refine ⟨by decide, ?_⟩
         | refine ⟨rfl, ?_⟩)
      | (conv => whnf
         fail_if_success refine Exists.intro ?_ ?_
         simp only [r1, nI_clamp (show u < 2 ^ 31 by omega)]))
    try (conv => whnf)
    refine ⟨(σ, τ, pc, 0, fWo σ a (nI u), 0, u), rfl, rfl, ⟨hI.2.2.1.1, h60, by omega⟩, ?_⟩
    try dsimp only [cond_true, cond_false]
    rintro _ _ ⟨rfl, σ1, τ1, rfl, hN, h18, h19, h85, h84⟩
    repeat (conv => whnf
            try dsimp only
            try simp (decide := true) only [zu_same, zu_ne1, zu_ne2, zu_row, zuL_same, zuL_ne1, zuL_ne2, zrow_n1, zx0, zx1, zx2, zx3, nI_1, Nat.reduceAdd, Nat.reduceMul, Int32.reduceAdd, Int32.reduceSub, Int32.reduceMul]
            first
            | refine ⟨vp_inb (by decide), ?_⟩
            | refine ⟨by with_reducible exact zi (by omega), ?_⟩
            | refine ⟨fun h => absurd h (by with_reducible exact nI_ge (by omega) (by omega)), fun _ => ?_⟩
            | refine ⟨fun _ => ?_, fun h => absurd (by with_reducible exact nI_le (by omega) (by omega)) h⟩
            | refine ⟨fun h => absurd h (by with_reducible exact nI_nlt (by omega) (by omega)), fun _ => ?_⟩
            | refine ⟨fun _ => ?_, fun h => absurd (by with_reducible exact nI_lt (by omega) (by omega)) h⟩
            | refine ⟨fun h => absurd h (by with_reducible exact nI_pos (by omega)), fun _ => ?_⟩
            | refine ⟨fun _ => ?_, fun h => absurd (by with_reducible exact nI_0le (by omega)) h⟩
            | refine ⟨fun h => absurd h (by decide), fun _ => ?_⟩
            | refine ⟨fun _ => ?_, fun h => absurd (by decide) h⟩
            | refine ⟨fun _ => ?_, fun h => absurd h (by decide)⟩
            | refine ⟨fun h => absurd (by decide) h, fun _ => ?_⟩
            | refine ⟨by decide, ?_⟩
            | refine ⟨rfl, ?_⟩)
    try (conv => whnf)
    refine hK _ _ ⟨rfl, σ1, τ1, rfl, cI_leaf hI hN h60 h84 (Or.inl ⟨h18, ?_, h85⟩), hN.1⟩
    rw [h19]
    exact fKept_kp _
def spX7_of : zSp := zDQ (X := zIn × zLo × Nat × Nat × Nat × Nat) (fun x => match x with | (σ, τ, n, pc, un, v) => [.ref 0, .int (nI v)]) (fun x => match x with | (σ, τ, n, pc, un, v) => (119, zSH, zRH, σ, τ)) (fun x => match x with | (σ, τ, n, pc, un, v) => cI σ τ n pc un ∧ pc < 60 ∧ v < n) (fun x r9 μ9 => match x with | (σ, τ, n, pc, un, v) => r9 = some (.int (nI pc)) ∧ ∃ (σ1 : zIn) (τ1 : zLo), μ9 = (119, zSH, zRH, σ1, τ1) ∧ cI σ1 τ1 n (pc + 1) un ∧ ∀ r, r < 17 ∨ 85 < r → σ1 r = σ r)
abbrev rmX7_of : Room := ({ frames := 2, cells := 0, slots := 0, locals := 51 } : Room)
set_option maxRecDepth 100000 in
set_option maxHeartbeats 4000000 in
theorem ctX7_of (l : Launch) (D : va_G) (cA : Nat → ClassId) : zCt false l D cA yX7_of cX7_of 3 (some .int) rmX7_of spX7_of := by
  refine zct_Q (zCX7_of [(132, 0, 1, spX7_needVariable, rmX7_needVariable.cells, rmX7_needVariable.slots), (118, 0, 0, spX7_needRoomForPart, rmX7_needRoomForPart.cells, rmX7_needRoomForPart.slots), (128, 0, 4, spX2_addLeaf, rmX2_addLeaf.cells, rmX2_addLeaf.slots)]) zpX7_of [] (by decide +kernel) zkX7_of (Or.inr (by decide +kernel)) trivial ⟨by decide +kernel, by decide +kernel⟩ (fun x ad => Nat.le_of_ble_eq_true rfl) ?_ ?_
  · intro p e s m args below meth c A H0 ad0 n0 Q F hml hNw hA hX
    exact ⟨zco_V hX hA F hml hNw (ctX7_needVariable l D cA) ⟨⟨zlX7_of_132, zwX7_needVariable.1.1, zwX7_needVariable.1.2⟩, zwX7_needVariable.2⟩ zdX7_needVariable ⟨Nat.le_of_ble_eq_true rfl, Nat.le_of_ble_eq_true rfl⟩ (ci := 7) (by decide) rfl (by rintro av μ K ⟨x, rfl, rfl, -⟩; exact ⟨_, _, rfl, rfl⟩), zco_V hX hA F hml hNw (ctX7_needRoomForPart l D cA) ⟨⟨zlX7_of_118, zwX7_needRoomForPart.1.1, zwX7_needRoomForPart.1.2⟩, zwX7_needRoomForPart.2⟩ zdX7_needRoomForPart ⟨Nat.le_of_ble_eq_true rfl, Nat.le_of_ble_eq_true rfl⟩ (ci := 7) (by decide) rfl (by rintro av μ K ⟨x, rfl, rfl, -⟩; exact ⟨_, _, rfl, rfl⟩), zco_V hX hA F hml hNw (ctX2_addLeaf l D cA) ⟨⟨zlX7_of_128, zwX2_addLeaf.1.1, zwX2_addLeaf.1.2⟩, zwX2_addLeaf.2⟩ zdX2_addLeaf ⟨Nat.le_of_ble_eq_true rfl, Nat.le_of_ble_eq_true rfl⟩ (ci := 2) (by decide) rfl (by rintro av μ K ⟨x, rfl, rfl, -⟩; exact ⟨_, _, rfl, rfl⟩), trivial⟩
  · rintro ⟨σ, τ, n, pc, un, v⟩ Ret hP hK Gl hG
    try dsimp only at hP hK
    show Gl 0 (zent 3 [.ref 0, .int (nI v)]) [] (0, 0) ((119, zSH, zRH, σ, τ))
    obtain ⟨hI, h60, hv⟩ := hP
    have h16 := hI.1.2.1
    have h12 := hI.2.2.1.2.2
    obtain ⟨⟨u, hu, hun⟩, -⟩ := hI.2.2.2.1 v hv
    have r1 := zRH_ue u (by omega)
    refine hG 100 _ _ _ _ _ ?_
    repeat (conv => whnf
            try dsimp only
            try simp (decide := true) only [zu_same, zu_ne1, zu_ne2, zu_row, zuL_same, zuL_ne1, zuL_ne2, zrow_n1, zx0, zx1, zx2, zx3, nI_1, Nat.reduceAdd, Nat.reduceMul, Int32.reduceAdd, Int32.reduceSub, Int32.reduceMul]
            first
            | refine ⟨vp_inb (by decide), ?_⟩
            | refine ⟨by with_reducible exact zi (by omega), ?_⟩
            | refine ⟨fun h => absurd h (by with_reducible exact nI_ge (by omega) (by omega)), fun _ => ?_⟩
            | refine ⟨fun _ => ?_, fun h => absurd (by with_reducible exact nI_le (by omega) (by omega)) h⟩
            | refine ⟨fun h => absurd h (by with_reducible exact nI_nlt (by omega) (by omega)), fun _ => ?_⟩
            | refine ⟨fun _ => ?_, fun h => absurd (by with_reducible exact nI_lt (by omega) (by omega)) h⟩
            | refine ⟨fun h => absurd h (by with_reducible exact nI_pos (by omega)), fun _ => ?_⟩
            | refine ⟨fun _ => ?_, fun h => absurd (by with_reducible exact nI_0le (by omega)) h⟩
            | refine ⟨fun h => absurd h (by decide), fun _ => ?_⟩
            | refine ⟨fun _ => ?_, fun h => absurd (by decide) h⟩
            | refine ⟨fun _ => ?_, fun h => absurd h (by decide)⟩
            | refine ⟨fun h => absurd (by decide) h, fun _ => ?_⟩
            | refine ⟨by decide, ?_⟩
            | refine ⟨rfl, ?_⟩)
    try (conv => whnf)
    refine ⟨(σ, τ, n, v), rfl, rfl, ⟨hI.1.1, h16, hv⟩, ?_⟩
    try dsimp only [cond_true, cond_false]
    repeat (conv => whnf
            try dsimp only
            try simp (decide := true) only [zu_same, zu_ne1, zu_ne2, zu_row, zuL_same, zuL_ne1, zuL_ne2, zrow_n1, zx0, zx1, zx2, zx3, nI_1, Nat.reduceAdd, Nat.reduceMul, Int32.reduceAdd, Int32.reduceSub, Int32.reduceMul]
            first
            | refine ⟨vp_inb (by decide), ?_⟩
            | refine ⟨by with_reducible exact zi (by omega), ?_⟩
            | refine ⟨fun h => absurd h (by with_reducible exact nI_ge (by omega) (by omega)), fun _ => ?_⟩
            | refine ⟨fun _ => ?_, fun h => absurd (by with_reducible exact nI_le (by omega) (by omega)) h⟩
            | refine ⟨fun h => absurd h (by with_reducible exact nI_nlt (by omega) (by omega)), fun _ => ?_⟩
            | refine ⟨fun _ => ?_, fun h => absurd (by with_reducible exact nI_lt (by omega) (by omega)) h⟩
            | refine ⟨fun h => absurd h (by with_reducible exact nI_pos (by omega)), fun _ => ?_⟩
            | refine ⟨fun _ => ?_, fun h => absurd (by with_reducible exact nI_0le (by omega)) h⟩
            | refine ⟨fun h => absurd h (by decide), fun _ => ?_⟩
            | refine ⟨fun _ => ?_, fun h => absurd (by decide) h⟩
            | refine ⟨fun _ => ?_, fun h => absurd h (by decide)⟩
            | refine ⟨fun h => absurd (by decide) h, fun _ => ?_⟩
            | refine ⟨by decide, ?_⟩
            | refine ⟨rfl, ?_⟩)
    try (conv => whnf)
    refine ⟨(σ, τ, pc), rfl, rfl, ⟨hI.2.2.1.1, h60⟩, ?_⟩
    try dsimp only [cond_true, cond_false]
    repeat (first
      | (conv => whnf
         try dsimp only
         try simp (decide := true) only [hu, r1, nI_clamp (show v < 2 ^ 31 by omega), nI_clamp (show u < 2 ^ 31 by omega), zu_same, zu_ne1, zu_ne2, zu_row, zuL_same, zuL_ne1, zuL_ne2, zrow_n1, zx0, zx1, zx2, zx3, nI_1, Nat.reduceAdd, Nat.reduceMul, Int32.reduceAdd, Int32.reduceSub, Int32.reduceMul]
         first
         | refine ⟨vp_inb (by decide), ?_⟩
         | refine ⟨by with_reducible exact zi (by omega), ?_⟩
         | refine ⟨fun h => absurd h (by with_reducible exact nI_ge (by omega) (by omega)), fun _ => ?_⟩
         | refine ⟨fun _ => ?_, fun h => absurd (by with_reducible exact nI_le (by omega) (by omega)) h⟩
         | refine ⟨fun h => absurd h (by with_reducible exact nI_nlt (by omega) (by omega)), fun _ => ?_⟩
         | refine ⟨fun _ => ?_, fun h => absurd (by with_reducible exact nI_lt (by omega) (by omega)) h⟩
         | refine ⟨fun h => absurd h (by with_reducible exact nI_pos (by omega)), fun _ => ?_⟩
         | refine ⟨fun _ => ?_, fun h => absurd (by with_reducible exact nI_0le (by omega)) h⟩
         | refine ⟨fun h => absurd h (by decide), fun _ => ?_⟩
         | refine ⟨fun _ => ?_, fun h => absurd (by decide) h⟩
         | refine ⟨fun _ => ?_, fun h => absurd h (by decide)⟩
         | refine ⟨fun h => absurd (by decide) h, fun _ => ?_⟩
         | refine ⟨by decide, ?_⟩
         | refine ⟨rfl, ?_⟩)
      | (conv => whnf
         fail_if_success refine Exists.intro ?_ ?_
         simp only [hu, r1, nI_clamp (show v < 2 ^ 31 by omega), nI_clamp (show u < 2 ^ 31 by omega)]))
    try (conv => whnf)
    refine ⟨(σ, τ, pc, 1, nI v, zone v, u), rfl, rfl, ⟨hI.2.2.1.1, h60, by omega⟩, ?_⟩
    try dsimp only [cond_true, cond_false]
    rintro _ _ ⟨rfl, σ1, τ1, rfl, hN, h18, h19, h85, h84⟩
    repeat (conv => whnf
            try dsimp only
            try simp (decide := true) only [zu_same, zu_ne1, zu_ne2, zu_row, zuL_same, zuL_ne1, zuL_ne2, zrow_n1, zx0, zx1, zx2, zx3, nI_1, Nat.reduceAdd, Nat.reduceMul, Int32.reduceAdd, Int32.reduceSub, Int32.reduceMul]
            first
            | refine ⟨vp_inb (by decide), ?_⟩
            | refine ⟨by with_reducible exact zi (by omega), ?_⟩
            | refine ⟨fun h => absurd h (by with_reducible exact nI_ge (by omega) (by omega)), fun _ => ?_⟩
            | refine ⟨fun _ => ?_, fun h => absurd (by with_reducible exact nI_le (by omega) (by omega)) h⟩
            | refine ⟨fun h => absurd h (by with_reducible exact nI_nlt (by omega) (by omega)), fun _ => ?_⟩
            | refine ⟨fun _ => ?_, fun h => absurd (by with_reducible exact nI_lt (by omega) (by omega)) h⟩
            | refine ⟨fun h => absurd h (by with_reducible exact nI_pos (by omega)), fun _ => ?_⟩
            | refine ⟨fun _ => ?_, fun h => absurd (by with_reducible exact nI_0le (by omega)) h⟩
            | refine ⟨fun h => absurd h (by decide), fun _ => ?_⟩
            | refine ⟨fun _ => ?_, fun h => absurd (by decide) h⟩
            | refine ⟨fun _ => ?_, fun h => absurd h (by decide)⟩
            | refine ⟨fun h => absurd (by decide) h, fun _ => ?_⟩
            | refine ⟨by decide, ?_⟩
            | refine ⟨rfl, ?_⟩)
    try (conv => whnf)
    exact hK _ _ ⟨rfl, σ1, τ1, rfl, cI_leaf hI hN h60 h84 (Or.inr ⟨h18, v, hv, h19, h85⟩), hN.1⟩
def spX7_join : zSp := zDQ (X := zIn × zLo × Nat × Nat × Nat × Nat × Nat × Nat) (fun x => match x with | (σ, τ, n, pc, un, c, i, j) => [.ref 0, .int (nI c), .int (nI i), .int (nI j)]) (fun x => match x with | (σ, τ, n, pc, un, c, i, j) => (119, zSH, zRH, σ, τ)) (fun x => match x with | (σ, τ, n, pc, un, c, i, j) => cI σ τ n pc un ∧ pc < 60 ∧ i < pc ∧ j < pc ∧ 2 ≤ c ∧ c ≤ 7) (fun x r9 μ9 => match x with | (σ, τ, n, pc, un, c, i, j) => r9 = some (.int (nI pc)) ∧ ∃ (σ1 : zIn) (τ1 : zLo), μ9 = (119, zSH, zRH, σ1, τ1) ∧ cI σ1 τ1 n (pc + 1) un ∧ ∀ r, r < 17 ∨ 85 < r → σ1 r = σ r)
abbrev rmX7_join : Room := ({ frames := 3, cells := 0, slots := 0, locals := 73 } : Room)
set_option maxRecDepth 100000 in
set_option maxHeartbeats 4000000 in
theorem ctX7_join (l : Launch) (D : va_G) (cA : Nat → ClassId) : zCt false l D cA yX7_join cX7_join 4 (some .int) rmX7_join spX7_join := by
  refine zct_Q (zCX7_join [(138, 0, 1, spX7_needPart, rmX7_needPart.cells, rmX7_needPart.slots), (118, 0, 0, spX7_needRoomForPart, rmX7_needRoomForPart.cells, rmX7_needRoomForPart.slots), (141, 0, 4, spX2_addNode, rmX2_addNode.cells, rmX2_addNode.slots)]) zpX7_join [] (by decide +kernel) zkX7_join (Or.inr (by decide +kernel)) trivial ⟨by decide +kernel, by decide +kernel⟩ (fun x ad => Nat.le_of_ble_eq_true rfl) ?_ ?_
  · intro p e s m args below meth c A H0 ad0 n0 Q F hml hNw hA hX
    exact ⟨zco_V hX hA F hml hNw (ctX7_needPart l D cA) ⟨⟨zlX7_join_138, zwX7_needPart.1.1, zwX7_needPart.1.2⟩, zwX7_needPart.2⟩ zdX7_needPart ⟨Nat.le_of_ble_eq_true rfl, Nat.le_of_ble_eq_true rfl⟩ (ci := 7) (by decide) rfl (by rintro av μ K ⟨x, rfl, rfl, -⟩; exact ⟨_, _, rfl, rfl⟩), zco_V hX hA F hml hNw (ctX7_needRoomForPart l D cA) ⟨⟨zlX7_join_118, zwX7_needRoomForPart.1.1, zwX7_needRoomForPart.1.2⟩, zwX7_needRoomForPart.2⟩ zdX7_needRoomForPart ⟨Nat.le_of_ble_eq_true rfl, Nat.le_of_ble_eq_true rfl⟩ (ci := 7) (by decide) rfl (by rintro av μ K ⟨x, rfl, rfl, -⟩; exact ⟨_, _, rfl, rfl⟩), zco_V hX hA F hml hNw (ctX2_addNode l D cA) ⟨⟨zlX7_join_141, zwX2_addNode.1.1, zwX2_addNode.1.2⟩, zwX2_addNode.2⟩ zdX2_addNode ⟨Nat.le_of_ble_eq_true rfl, Nat.le_of_ble_eq_true rfl⟩ (ci := 2) (by decide) rfl (by rintro av μ K ⟨x, rfl, rfl, -⟩; exact ⟨_, _, rfl, rfl⟩), trivial⟩
  · rintro ⟨σ, τ, n, pc, un, c, i, j⟩ Ret hP hK Gl hG
    try dsimp only at hP hK
    show Gl 0 (zent 4 [.ref 0, .int (nI c), .int (nI i), .int (nI j)]) [] (0, 0) ((119, zSH, zRH, σ, τ))
    obtain ⟨hI, h60, hi, hj, hc2, hc7⟩ := hP
    refine hG 100 _ _ _ _ _ ?_
    repeat (conv => whnf
            try dsimp only
            try simp (decide := true) only [zu_same, zu_ne1, zu_ne2, zu_row, zuL_same, zuL_ne1, zuL_ne2, zrow_n1, zx0, zx1, zx2, zx3, nI_1, Nat.reduceAdd, Nat.reduceMul, Int32.reduceAdd, Int32.reduceSub, Int32.reduceMul]
            first
            | refine ⟨vp_inb (by decide), ?_⟩
            | refine ⟨by with_reducible exact zi (by omega), ?_⟩
            | refine ⟨fun h => absurd h (by with_reducible exact nI_ge (by omega) (by omega)), fun _ => ?_⟩
            | refine ⟨fun _ => ?_, fun h => absurd (by with_reducible exact nI_le (by omega) (by omega)) h⟩
            | refine ⟨fun h => absurd h (by with_reducible exact nI_nlt (by omega) (by omega)), fun _ => ?_⟩
            | refine ⟨fun _ => ?_, fun h => absurd (by with_reducible exact nI_lt (by omega) (by omega)) h⟩
            | refine ⟨fun h => absurd h (by with_reducible exact nI_pos (by omega)), fun _ => ?_⟩
            | refine ⟨fun _ => ?_, fun h => absurd (by with_reducible exact nI_0le (by omega)) h⟩
            | refine ⟨fun h => absurd h (by decide), fun _ => ?_⟩
            | refine ⟨fun _ => ?_, fun h => absurd (by decide) h⟩
            | refine ⟨fun _ => ?_, fun h => absurd h (by decide)⟩
            | refine ⟨fun h => absurd (by decide) h, fun _ => ?_⟩
            | refine ⟨by decide, ?_⟩
            | refine ⟨rfl, ?_⟩)
    try (conv => whnf)
    refine ⟨(σ, τ, pc, i), rfl, rfl, ⟨hI.2.2.1.1, by omega, hi⟩, ?_⟩
    try dsimp only [cond_true, cond_false]
    repeat (conv => whnf
            try dsimp only
            try simp (decide := true) only [zu_same, zu_ne1, zu_ne2, zu_row, zuL_same, zuL_ne1, zuL_ne2, zrow_n1, zx0, zx1, zx2, zx3, nI_1, Nat.reduceAdd, Nat.reduceMul, Int32.reduceAdd, Int32.reduceSub, Int32.reduceMul]
            first
            | refine ⟨vp_inb (by decide), ?_⟩
            | refine ⟨by with_reducible exact zi (by omega), ?_⟩
            | refine ⟨fun h => absurd h (by with_reducible exact nI_ge (by omega) (by omega)), fun _ => ?_⟩
            | refine ⟨fun _ => ?_, fun h => absurd (by with_reducible exact nI_le (by omega) (by omega)) h⟩
            | refine ⟨fun h => absurd h (by with_reducible exact nI_nlt (by omega) (by omega)), fun _ => ?_⟩
            | refine ⟨fun _ => ?_, fun h => absurd (by with_reducible exact nI_lt (by omega) (by omega)) h⟩
            | refine ⟨fun h => absurd h (by with_reducible exact nI_pos (by omega)), fun _ => ?_⟩
            | refine ⟨fun _ => ?_, fun h => absurd (by with_reducible exact nI_0le (by omega)) h⟩
            | refine ⟨fun h => absurd h (by decide), fun _ => ?_⟩
            | refine ⟨fun _ => ?_, fun h => absurd (by decide) h⟩
            | refine ⟨fun _ => ?_, fun h => absurd h (by decide)⟩
            | refine ⟨fun h => absurd (by decide) h, fun _ => ?_⟩
            | refine ⟨by decide, ?_⟩
            | refine ⟨rfl, ?_⟩)
    try (conv => whnf)
    refine ⟨(σ, τ, pc, j), rfl, rfl, ⟨hI.2.2.1.1, by omega, hj⟩, ?_⟩
    try dsimp only [cond_true, cond_false]
    repeat (first
      | (conv => whnf
         try dsimp only
         try simp (decide := true) only [show (2 : Int32) = nI 2 from rfl, show (7 : Int32) = nI 7 from rfl, zu_same, zu_ne1, zu_ne2, zu_row, zuL_same, zuL_ne1, zuL_ne2, zrow_n1, zx0, zx1, zx2, zx3, nI_1, Nat.reduceAdd, Nat.reduceMul, Int32.reduceAdd, Int32.reduceSub, Int32.reduceMul]
         first
         | refine ⟨vp_inb (by decide), ?_⟩
         | refine ⟨by with_reducible exact zi (by omega), ?_⟩
         | refine ⟨fun h => absurd h (by with_reducible exact nI_ge (by omega) (by omega)), fun _ => ?_⟩
         | refine ⟨fun _ => ?_, fun h => absurd (by with_reducible exact nI_le (by omega) (by omega)) h⟩
         | refine ⟨fun h => absurd h (by with_reducible exact nI_nlt (by omega) (by omega)), fun _ => ?_⟩
         | refine ⟨fun _ => ?_, fun h => absurd (by with_reducible exact nI_lt (by omega) (by omega)) h⟩
         | refine ⟨fun h => absurd h (by with_reducible exact nI_pos (by omega)), fun _ => ?_⟩
         | refine ⟨fun _ => ?_, fun h => absurd (by with_reducible exact nI_0le (by omega)) h⟩
         | refine ⟨fun h => absurd h (by decide), fun _ => ?_⟩
         | refine ⟨fun _ => ?_, fun h => absurd (by decide) h⟩
         | refine ⟨fun _ => ?_, fun h => absurd h (by decide)⟩
         | refine ⟨fun h => absurd (by decide) h, fun _ => ?_⟩
         | refine ⟨by decide, ?_⟩
         | refine ⟨rfl, ?_⟩)
      | (conv => whnf
         fail_if_success refine Exists.intro ?_ ?_
         simp only [show (2 : Int32) = nI 2 from rfl, show (7 : Int32) = nI 7 from rfl]))
    try (conv => whnf)
    refine ⟨(σ, τ, pc), rfl, rfl, ⟨hI.2.2.1.1, h60⟩, ?_⟩
    try dsimp only [cond_true, cond_false]
    repeat (conv => whnf
            try dsimp only
            try simp (decide := true) only [zu_same, zu_ne1, zu_ne2, zu_row, zuL_same, zuL_ne1, zuL_ne2, zrow_n1, zx0, zx1, zx2, zx3, nI_1, Nat.reduceAdd, Nat.reduceMul, Int32.reduceAdd, Int32.reduceSub, Int32.reduceMul]
            first
            | refine ⟨vp_inb (by decide), ?_⟩
            | refine ⟨by with_reducible exact zi (by omega), ?_⟩
            | refine ⟨fun h => absurd h (by with_reducible exact nI_ge (by omega) (by omega)), fun _ => ?_⟩
            | refine ⟨fun _ => ?_, fun h => absurd (by with_reducible exact nI_le (by omega) (by omega)) h⟩
            | refine ⟨fun h => absurd h (by with_reducible exact nI_nlt (by omega) (by omega)), fun _ => ?_⟩
            | refine ⟨fun _ => ?_, fun h => absurd (by with_reducible exact nI_lt (by omega) (by omega)) h⟩
            | refine ⟨fun h => absurd h (by with_reducible exact nI_pos (by omega)), fun _ => ?_⟩
            | refine ⟨fun _ => ?_, fun h => absurd (by with_reducible exact nI_0le (by omega)) h⟩
            | refine ⟨fun h => absurd h (by decide), fun _ => ?_⟩
            | refine ⟨fun _ => ?_, fun h => absurd (by decide) h⟩
            | refine ⟨fun _ => ?_, fun h => absurd h (by decide)⟩
            | refine ⟨fun h => absurd (by decide) h, fun _ => ?_⟩
            | refine ⟨by decide, ?_⟩
            | refine ⟨rfl, ?_⟩)
    try (conv => whnf)
    refine ⟨(σ, τ, pc, c, i, j, j), rfl, rfl, ⟨hI.2.2.1.1, h60, hi, hj, hj, hc2, by omega⟩, ?_⟩
    try dsimp only [cond_true, cond_false]
    rintro _ _ ⟨rfl, σ1, τ1, rfl, hN, h18, h19, h20, h21, h85, h84⟩
    repeat (conv => whnf
            try dsimp only
            try simp (decide := true) only [zu_same, zu_ne1, zu_ne2, zu_row, zuL_same, zuL_ne1, zuL_ne2, zrow_n1, zx0, zx1, zx2, zx3, nI_1, Nat.reduceAdd, Nat.reduceMul, Int32.reduceAdd, Int32.reduceSub, Int32.reduceMul]
            first
            | refine ⟨vp_inb (by decide), ?_⟩
            | refine ⟨by with_reducible exact zi (by omega), ?_⟩
            | refine ⟨fun h => absurd h (by with_reducible exact nI_ge (by omega) (by omega)), fun _ => ?_⟩
            | refine ⟨fun _ => ?_, fun h => absurd (by with_reducible exact nI_le (by omega) (by omega)) h⟩
            | refine ⟨fun h => absurd h (by with_reducible exact nI_nlt (by omega) (by omega)), fun _ => ?_⟩
            | refine ⟨fun _ => ?_, fun h => absurd (by with_reducible exact nI_lt (by omega) (by omega)) h⟩
            | refine ⟨fun h => absurd h (by with_reducible exact nI_pos (by omega)), fun _ => ?_⟩
            | refine ⟨fun _ => ?_, fun h => absurd (by with_reducible exact nI_0le (by omega)) h⟩
            | refine ⟨fun h => absurd h (by decide), fun _ => ?_⟩
            | refine ⟨fun _ => ?_, fun h => absurd (by decide) h⟩
            | refine ⟨fun _ => ?_, fun h => absurd h (by decide)⟩
            | refine ⟨fun h => absurd (by decide) h, fun _ => ?_⟩
            | refine ⟨by decide, ?_⟩
            | refine ⟨rfl, ?_⟩)
    try (conv => whnf)
    exact hK _ _ ⟨rfl, σ1, τ1, rfl, cI_node hI hN h60 hi hj hj hc2 (by omega) h18 h19 h20 h21 h85 h84, hN.1⟩
def spX7_when : zSp := zDQ (X := zIn × zLo × Nat × Nat × Nat × Nat × Nat × Nat) (fun x => match x with | (σ, τ, n, pc, un, i, j, q) => [.ref 0, .int (nI i), .int (nI j), .int (nI q)]) (fun x => match x with | (σ, τ, n, pc, un, i, j, q) => (119, zSH, zRH, σ, τ)) (fun x => match x with | (σ, τ, n, pc, un, i, j, q) => cI σ τ n pc un ∧ pc < 60 ∧ i < pc ∧ j < pc ∧ q < pc) (fun x r9 μ9 => match x with | (σ, τ, n, pc, un, i, j, q) => r9 = some (.int (nI pc)) ∧ ∃ (σ1 : zIn) (τ1 : zLo), μ9 = (119, zSH, zRH, σ1, τ1) ∧ cI σ1 τ1 n (pc + 1) un ∧ ∀ r, r < 17 ∨ 85 < r → σ1 r = σ r)
abbrev rmX7_when : Room := ({ frames := 3, cells := 0, slots := 0, locals := 73 } : Room)
set_option maxRecDepth 100000 in
set_option maxHeartbeats 4000000 in
theorem ctX7_when (l : Launch) (D : va_G) (cA : Nat → ClassId) : zCt false l D cA yX7_when cX7_when 4 (some .int) rmX7_when spX7_when := by
  refine zct_Q (zCX7_when [(138, 0, 1, spX7_needPart, rmX7_needPart.cells, rmX7_needPart.slots), (118, 0, 0, spX7_needRoomForPart, rmX7_needRoomForPart.cells, rmX7_needRoomForPart.slots), (141, 0, 4, spX2_addNode, rmX2_addNode.cells, rmX2_addNode.slots)]) zpX7_when [] (by decide +kernel) zkX7_when (Or.inr (by decide +kernel)) trivial ⟨by decide +kernel, by decide +kernel⟩ (fun x ad => Nat.le_of_ble_eq_true rfl) ?_ ?_
  · intro p e s m args below meth c A H0 ad0 n0 Q F hml hNw hA hX
    exact ⟨zco_V hX hA F hml hNw (ctX7_needPart l D cA) ⟨⟨zlX7_when_138, zwX7_needPart.1.1, zwX7_needPart.1.2⟩, zwX7_needPart.2⟩ zdX7_needPart ⟨Nat.le_of_ble_eq_true rfl, Nat.le_of_ble_eq_true rfl⟩ (ci := 7) (by decide) rfl (by rintro av μ K ⟨x, rfl, rfl, -⟩; exact ⟨_, _, rfl, rfl⟩), zco_V hX hA F hml hNw (ctX7_needRoomForPart l D cA) ⟨⟨zlX7_when_118, zwX7_needRoomForPart.1.1, zwX7_needRoomForPart.1.2⟩, zwX7_needRoomForPart.2⟩ zdX7_needRoomForPart ⟨Nat.le_of_ble_eq_true rfl, Nat.le_of_ble_eq_true rfl⟩ (ci := 7) (by decide) rfl (by rintro av μ K ⟨x, rfl, rfl, -⟩; exact ⟨_, _, rfl, rfl⟩), zco_V hX hA F hml hNw (ctX2_addNode l D cA) ⟨⟨zlX7_when_141, zwX2_addNode.1.1, zwX2_addNode.1.2⟩, zwX2_addNode.2⟩ zdX2_addNode ⟨Nat.le_of_ble_eq_true rfl, Nat.le_of_ble_eq_true rfl⟩ (ci := 2) (by decide) rfl (by rintro av μ K ⟨x, rfl, rfl, -⟩; exact ⟨_, _, rfl, rfl⟩), trivial⟩
  · rintro ⟨σ, τ, n, pc, un, i, j, q⟩ Ret hP hK Gl hG
    try dsimp only at hP hK
    show Gl 0 (zent 4 [.ref 0, .int (nI i), .int (nI j), .int (nI q)]) [] (0, 0) ((119, zSH, zRH, σ, τ))
    obtain ⟨hI, h60, hi, hj, hq⟩ := hP
    refine hG 100 _ _ _ _ _ ?_
    repeat (conv => whnf
            try dsimp only
            try simp (decide := true) only [zu_same, zu_ne1, zu_ne2, zu_row, zuL_same, zuL_ne1, zuL_ne2, zrow_n1, zx0, zx1, zx2, zx3, nI_1, Nat.reduceAdd, Nat.reduceMul, Int32.reduceAdd, Int32.reduceSub, Int32.reduceMul]
            first
            | refine ⟨vp_inb (by decide), ?_⟩
            | refine ⟨by with_reducible exact zi (by omega), ?_⟩
            | refine ⟨fun h => absurd h (by with_reducible exact nI_ge (by omega) (by omega)), fun _ => ?_⟩
            | refine ⟨fun _ => ?_, fun h => absurd (by with_reducible exact nI_le (by omega) (by omega)) h⟩
            | refine ⟨fun h => absurd h (by with_reducible exact nI_nlt (by omega) (by omega)), fun _ => ?_⟩
            | refine ⟨fun _ => ?_, fun h => absurd (by with_reducible exact nI_lt (by omega) (by omega)) h⟩
            | refine ⟨fun h => absurd h (by with_reducible exact nI_pos (by omega)), fun _ => ?_⟩
            | refine ⟨fun _ => ?_, fun h => absurd (by with_reducible exact nI_0le (by omega)) h⟩
            | refine ⟨fun h => absurd h (by decide), fun _ => ?_⟩
            | refine ⟨fun _ => ?_, fun h => absurd (by decide) h⟩
            | refine ⟨fun _ => ?_, fun h => absurd h (by decide)⟩
            | refine ⟨fun h => absurd (by decide) h, fun _ => ?_⟩
            | refine ⟨by decide, ?_⟩
            | refine ⟨rfl, ?_⟩)
    try (conv => whnf)
    refine ⟨(σ, τ, pc, i), rfl, rfl, ⟨hI.2.2.1.1, by omega, hi⟩, ?_⟩
    try dsimp only [cond_true, cond_false]
    repeat (conv => whnf
            try dsimp only
            try simp (decide := true) only [zu_same, zu_ne1, zu_ne2, zu_row, zuL_same, zuL_ne1, zuL_ne2, zrow_n1, zx0, zx1, zx2, zx3, nI_1, Nat.reduceAdd, Nat.reduceMul, Int32.reduceAdd, Int32.reduceSub, Int32.reduceMul]
            first
            | refine ⟨vp_inb (by decide), ?_⟩
            | refine ⟨by with_reducible exact zi (by omega), ?_⟩
            | refine ⟨fun h => absurd h (by with_reducible exact nI_ge (by omega) (by omega)), fun _ => ?_⟩
            | refine ⟨fun _ => ?_, fun h => absurd (by with_reducible exact nI_le (by omega) (by omega)) h⟩
            | refine ⟨fun h => absurd h (by with_reducible exact nI_nlt (by omega) (by omega)), fun _ => ?_⟩
            | refine ⟨fun _ => ?_, fun h => absurd (by with_reducible exact nI_lt (by omega) (by omega)) h⟩
            | refine ⟨fun h => absurd h (by with_reducible exact nI_pos (by omega)), fun _ => ?_⟩
            | refine ⟨fun _ => ?_, fun h => absurd (by with_reducible exact nI_0le (by omega)) h⟩
            | refine ⟨fun h => absurd h (by decide), fun _ => ?_⟩
            | refine ⟨fun _ => ?_, fun h => absurd (by decide) h⟩
            | refine ⟨fun _ => ?_, fun h => absurd h (by decide)⟩
            | refine ⟨fun h => absurd (by decide) h, fun _ => ?_⟩
            | refine ⟨by decide, ?_⟩
            | refine ⟨rfl, ?_⟩)
    try (conv => whnf)
    refine ⟨(σ, τ, pc, j), rfl, rfl, ⟨hI.2.2.1.1, by omega, hj⟩, ?_⟩
    try dsimp only [cond_true, cond_false]
    repeat (conv => whnf
            try dsimp only
            try simp (decide := true) only [zu_same, zu_ne1, zu_ne2, zu_row, zuL_same, zuL_ne1, zuL_ne2, zrow_n1, zx0, zx1, zx2, zx3, nI_1, Nat.reduceAdd, Nat.reduceMul, Int32.reduceAdd, Int32.reduceSub, Int32.reduceMul]
            first
            | refine ⟨vp_inb (by decide), ?_⟩
            | refine ⟨by with_reducible exact zi (by omega), ?_⟩
            | refine ⟨fun h => absurd h (by with_reducible exact nI_ge (by omega) (by omega)), fun _ => ?_⟩
            | refine ⟨fun _ => ?_, fun h => absurd (by with_reducible exact nI_le (by omega) (by omega)) h⟩
            | refine ⟨fun h => absurd h (by with_reducible exact nI_nlt (by omega) (by omega)), fun _ => ?_⟩
            | refine ⟨fun _ => ?_, fun h => absurd (by with_reducible exact nI_lt (by omega) (by omega)) h⟩
            | refine ⟨fun h => absurd h (by with_reducible exact nI_pos (by omega)), fun _ => ?_⟩
            | refine ⟨fun _ => ?_, fun h => absurd (by with_reducible exact nI_0le (by omega)) h⟩
            | refine ⟨fun h => absurd h (by decide), fun _ => ?_⟩
            | refine ⟨fun _ => ?_, fun h => absurd (by decide) h⟩
            | refine ⟨fun _ => ?_, fun h => absurd h (by decide)⟩
            | refine ⟨fun h => absurd (by decide) h, fun _ => ?_⟩
            | refine ⟨by decide, ?_⟩
            | refine ⟨rfl, ?_⟩)
    try (conv => whnf)
    refine ⟨(σ, τ, pc, q), rfl, rfl, ⟨hI.2.2.1.1, by omega, hq⟩, ?_⟩
    try dsimp only [cond_true, cond_false]
    repeat (conv => whnf
            try dsimp only
            try simp (decide := true) only [zu_same, zu_ne1, zu_ne2, zu_row, zuL_same, zuL_ne1, zuL_ne2, zrow_n1, zx0, zx1, zx2, zx3, nI_1, Nat.reduceAdd, Nat.reduceMul, Int32.reduceAdd, Int32.reduceSub, Int32.reduceMul]
            first
            | refine ⟨vp_inb (by decide), ?_⟩
            | refine ⟨by with_reducible exact zi (by omega), ?_⟩
            | refine ⟨fun h => absurd h (by with_reducible exact nI_ge (by omega) (by omega)), fun _ => ?_⟩
            | refine ⟨fun _ => ?_, fun h => absurd (by with_reducible exact nI_le (by omega) (by omega)) h⟩
            | refine ⟨fun h => absurd h (by with_reducible exact nI_nlt (by omega) (by omega)), fun _ => ?_⟩
            | refine ⟨fun _ => ?_, fun h => absurd (by with_reducible exact nI_lt (by omega) (by omega)) h⟩
            | refine ⟨fun h => absurd h (by with_reducible exact nI_pos (by omega)), fun _ => ?_⟩
            | refine ⟨fun _ => ?_, fun h => absurd (by with_reducible exact nI_0le (by omega)) h⟩
            | refine ⟨fun h => absurd h (by decide), fun _ => ?_⟩
            | refine ⟨fun _ => ?_, fun h => absurd (by decide) h⟩
            | refine ⟨fun _ => ?_, fun h => absurd h (by decide)⟩
            | refine ⟨fun h => absurd (by decide) h, fun _ => ?_⟩
            | refine ⟨by decide, ?_⟩
            | refine ⟨rfl, ?_⟩)
    try (conv => whnf)
    refine ⟨(σ, τ, pc), rfl, rfl, ⟨hI.2.2.1.1, h60⟩, ?_⟩
    try dsimp only [cond_true, cond_false]
    repeat (conv => whnf
            try dsimp only
            try simp (decide := true) only [zu_same, zu_ne1, zu_ne2, zu_row, zuL_same, zuL_ne1, zuL_ne2, zrow_n1, zx0, zx1, zx2, zx3, nI_1, Nat.reduceAdd, Nat.reduceMul, Int32.reduceAdd, Int32.reduceSub, Int32.reduceMul]
            first
            | refine ⟨vp_inb (by decide), ?_⟩
            | refine ⟨by with_reducible exact zi (by omega), ?_⟩
            | refine ⟨fun h => absurd h (by with_reducible exact nI_ge (by omega) (by omega)), fun _ => ?_⟩
            | refine ⟨fun _ => ?_, fun h => absurd (by with_reducible exact nI_le (by omega) (by omega)) h⟩
            | refine ⟨fun h => absurd h (by with_reducible exact nI_nlt (by omega) (by omega)), fun _ => ?_⟩
            | refine ⟨fun _ => ?_, fun h => absurd (by with_reducible exact nI_lt (by omega) (by omega)) h⟩
            | refine ⟨fun h => absurd h (by with_reducible exact nI_pos (by omega)), fun _ => ?_⟩
            | refine ⟨fun _ => ?_, fun h => absurd (by with_reducible exact nI_0le (by omega)) h⟩
            | refine ⟨fun h => absurd h (by decide), fun _ => ?_⟩
            | refine ⟨fun _ => ?_, fun h => absurd (by decide) h⟩
            | refine ⟨fun _ => ?_, fun h => absurd h (by decide)⟩
            | refine ⟨fun h => absurd (by decide) h, fun _ => ?_⟩
            | refine ⟨by decide, ?_⟩
            | refine ⟨rfl, ?_⟩)
    try (conv => whnf)
    refine ⟨(σ, τ, pc, 8, i, j, q), rfl, rfl, ⟨hI.2.2.1.1, h60, hi, hj, hq, by omega, by omega⟩, ?_⟩
    try dsimp only [cond_true, cond_false]
    rintro _ _ ⟨rfl, σ1, τ1, rfl, hN, h18, h19, h20, h21, h85, h84⟩
    repeat (conv => whnf
            try dsimp only
            try simp (decide := true) only [zu_same, zu_ne1, zu_ne2, zu_row, zuL_same, zuL_ne1, zuL_ne2, zrow_n1, zx0, zx1, zx2, zx3, nI_1, Nat.reduceAdd, Nat.reduceMul, Int32.reduceAdd, Int32.reduceSub, Int32.reduceMul]
            first
            | refine ⟨vp_inb (by decide), ?_⟩
            | refine ⟨by with_reducible exact zi (by omega), ?_⟩
            | refine ⟨fun h => absurd h (by with_reducible exact nI_ge (by omega) (by omega)), fun _ => ?_⟩
            | refine ⟨fun _ => ?_, fun h => absurd (by with_reducible exact nI_le (by omega) (by omega)) h⟩
            | refine ⟨fun h => absurd h (by with_reducible exact nI_nlt (by omega) (by omega)), fun _ => ?_⟩
            | refine ⟨fun _ => ?_, fun h => absurd (by with_reducible exact nI_lt (by omega) (by omega)) h⟩
            | refine ⟨fun h => absurd h (by with_reducible exact nI_pos (by omega)), fun _ => ?_⟩
            | refine ⟨fun _ => ?_, fun h => absurd (by with_reducible exact nI_0le (by omega)) h⟩
            | refine ⟨fun h => absurd h (by decide), fun _ => ?_⟩
            | refine ⟨fun _ => ?_, fun h => absurd (by decide) h⟩
            | refine ⟨fun _ => ?_, fun h => absurd h (by decide)⟩
            | refine ⟨fun h => absurd (by decide) h, fun _ => ?_⟩
            | refine ⟨by decide, ?_⟩
            | refine ⟨rfl, ?_⟩)
    try (conv => whnf)
    exact hK _ _ ⟨rfl, σ1, τ1, rfl, cI_node hI hN h60 hi hj hq (by omega) (by omega) h18 h19 h20 h21 h85 h84, hN.1⟩
def spX7_root : zSp := zDQ (X := zIn × zLo × Nat × Nat × Nat × Nat) (fun x => match x with | (σ, τ, n, pc, un, i) => [.ref 0, .int (nI i)]) (fun x => match x with | (σ, τ, n, pc, un, i) => (119, zSH, zRH, σ, τ)) (fun x => match x with | (σ, τ, n, pc, un, i) => cI σ τ n pc un ∧ pc < 60 ∧ i < pc) (fun x r9 μ9 => match x with | (σ, τ, n, pc, un, i) => r9 = some (.int (nI pc)) ∧ ∃ (σ1 : zIn) (τ1 : zLo), μ9 = (119, zSH, zRH, σ1, τ1) ∧ cI σ1 τ1 n (pc + 1) un ∧ ∀ r, r < 17 ∨ 85 < r → σ1 r = σ r)
abbrev rmX7_root : Room := ({ frames := 3, cells := 0, slots := 0, locals := 73 } : Room)
set_option maxRecDepth 100000 in
set_option maxHeartbeats 4000000 in
theorem ctX7_root (l : Launch) (D : va_G) (cA : Nat → ClassId) : zCt false l D cA yX7_root cX7_root 2 (some .int) rmX7_root spX7_root := by
  refine zct_Q (zCX7_root [(138, 0, 1, spX7_needPart, rmX7_needPart.cells, rmX7_needPart.slots), (118, 0, 0, spX7_needRoomForPart, rmX7_needRoomForPart.cells, rmX7_needRoomForPart.slots), (141, 0, 4, spX2_addNode, rmX2_addNode.cells, rmX2_addNode.slots)]) zpX7_root [] (by decide +kernel) zkX7_root (Or.inr (by decide +kernel)) trivial ⟨by decide +kernel, by decide +kernel⟩ (fun x ad => Nat.le_of_ble_eq_true rfl) ?_ ?_
  · intro p e s m args below meth c A H0 ad0 n0 Q F hml hNw hA hX
    exact ⟨zco_V hX hA F hml hNw (ctX7_needPart l D cA) ⟨⟨zlX7_root_138, zwX7_needPart.1.1, zwX7_needPart.1.2⟩, zwX7_needPart.2⟩ zdX7_needPart ⟨Nat.le_of_ble_eq_true rfl, Nat.le_of_ble_eq_true rfl⟩ (ci := 7) (by decide) rfl (by rintro av μ K ⟨x, rfl, rfl, -⟩; exact ⟨_, _, rfl, rfl⟩), zco_V hX hA F hml hNw (ctX7_needRoomForPart l D cA) ⟨⟨zlX7_root_118, zwX7_needRoomForPart.1.1, zwX7_needRoomForPart.1.2⟩, zwX7_needRoomForPart.2⟩ zdX7_needRoomForPart ⟨Nat.le_of_ble_eq_true rfl, Nat.le_of_ble_eq_true rfl⟩ (ci := 7) (by decide) rfl (by rintro av μ K ⟨x, rfl, rfl, -⟩; exact ⟨_, _, rfl, rfl⟩), zco_V hX hA F hml hNw (ctX2_addNode l D cA) ⟨⟨zlX7_root_141, zwX2_addNode.1.1, zwX2_addNode.1.2⟩, zwX2_addNode.2⟩ zdX2_addNode ⟨Nat.le_of_ble_eq_true rfl, Nat.le_of_ble_eq_true rfl⟩ (ci := 2) (by decide) rfl (by rintro av μ K ⟨x, rfl, rfl, -⟩; exact ⟨_, _, rfl, rfl⟩), trivial⟩
  · rintro ⟨σ, τ, n, pc, un, i⟩ Ret hP hK Gl hG
    try dsimp only at hP hK
    show Gl 0 (zent 2 [.ref 0, .int (nI i)]) [] (0, 0) ((119, zSH, zRH, σ, τ))
    obtain ⟨hI, h60, hi⟩ := hP
    refine hG 100 _ _ _ _ _ ?_
    repeat (conv => whnf
            try dsimp only
            try simp (decide := true) only [zu_same, zu_ne1, zu_ne2, zu_row, zuL_same, zuL_ne1, zuL_ne2, zrow_n1, zx0, zx1, zx2, zx3, nI_1, Nat.reduceAdd, Nat.reduceMul, Int32.reduceAdd, Int32.reduceSub, Int32.reduceMul]
            first
            | refine ⟨vp_inb (by decide), ?_⟩
            | refine ⟨by with_reducible exact zi (by omega), ?_⟩
            | refine ⟨fun h => absurd h (by with_reducible exact nI_ge (by omega) (by omega)), fun _ => ?_⟩
            | refine ⟨fun _ => ?_, fun h => absurd (by with_reducible exact nI_le (by omega) (by omega)) h⟩
            | refine ⟨fun h => absurd h (by with_reducible exact nI_nlt (by omega) (by omega)), fun _ => ?_⟩
            | refine ⟨fun _ => ?_, fun h => absurd (by with_reducible exact nI_lt (by omega) (by omega)) h⟩
            | refine ⟨fun h => absurd h (by with_reducible exact nI_pos (by omega)), fun _ => ?_⟩
            | refine ⟨fun _ => ?_, fun h => absurd (by with_reducible exact nI_0le (by omega)) h⟩
            | refine ⟨fun h => absurd h (by decide), fun _ => ?_⟩
            | refine ⟨fun _ => ?_, fun h => absurd (by decide) h⟩
            | refine ⟨fun _ => ?_, fun h => absurd h (by decide)⟩
            | refine ⟨fun h => absurd (by decide) h, fun _ => ?_⟩
            | refine ⟨by decide, ?_⟩
            | refine ⟨rfl, ?_⟩)
    try (conv => whnf)
    refine ⟨(σ, τ, pc, i), rfl, rfl, ⟨hI.2.2.1.1, by omega, hi⟩, ?_⟩
    try dsimp only [cond_true, cond_false]
    repeat (conv => whnf
            try dsimp only
            try simp (decide := true) only [zu_same, zu_ne1, zu_ne2, zu_row, zuL_same, zuL_ne1, zuL_ne2, zrow_n1, zx0, zx1, zx2, zx3, nI_1, Nat.reduceAdd, Nat.reduceMul, Int32.reduceAdd, Int32.reduceSub, Int32.reduceMul]
            first
            | refine ⟨vp_inb (by decide), ?_⟩
            | refine ⟨by with_reducible exact zi (by omega), ?_⟩
            | refine ⟨fun h => absurd h (by with_reducible exact nI_ge (by omega) (by omega)), fun _ => ?_⟩
            | refine ⟨fun _ => ?_, fun h => absurd (by with_reducible exact nI_le (by omega) (by omega)) h⟩
            | refine ⟨fun h => absurd h (by with_reducible exact nI_nlt (by omega) (by omega)), fun _ => ?_⟩
            | refine ⟨fun _ => ?_, fun h => absurd (by with_reducible exact nI_lt (by omega) (by omega)) h⟩
            | refine ⟨fun h => absurd h (by with_reducible exact nI_pos (by omega)), fun _ => ?_⟩
            | refine ⟨fun _ => ?_, fun h => absurd (by with_reducible exact nI_0le (by omega)) h⟩
            | refine ⟨fun h => absurd h (by decide), fun _ => ?_⟩
            | refine ⟨fun _ => ?_, fun h => absurd (by decide) h⟩
            | refine ⟨fun _ => ?_, fun h => absurd h (by decide)⟩
            | refine ⟨fun h => absurd (by decide) h, fun _ => ?_⟩
            | refine ⟨by decide, ?_⟩
            | refine ⟨rfl, ?_⟩)
    try (conv => whnf)
    refine ⟨(σ, τ, pc), rfl, rfl, ⟨hI.2.2.1.1, h60⟩, ?_⟩
    try dsimp only [cond_true, cond_false]
    repeat (conv => whnf
            try dsimp only
            try simp (decide := true) only [zu_same, zu_ne1, zu_ne2, zu_row, zuL_same, zuL_ne1, zuL_ne2, zrow_n1, zx0, zx1, zx2, zx3, nI_1, Nat.reduceAdd, Nat.reduceMul, Int32.reduceAdd, Int32.reduceSub, Int32.reduceMul]
            first
            | refine ⟨vp_inb (by decide), ?_⟩
            | refine ⟨by with_reducible exact zi (by omega), ?_⟩
            | refine ⟨fun h => absurd h (by with_reducible exact nI_ge (by omega) (by omega)), fun _ => ?_⟩
            | refine ⟨fun _ => ?_, fun h => absurd (by with_reducible exact nI_le (by omega) (by omega)) h⟩
            | refine ⟨fun h => absurd h (by with_reducible exact nI_nlt (by omega) (by omega)), fun _ => ?_⟩
            | refine ⟨fun _ => ?_, fun h => absurd (by with_reducible exact nI_lt (by omega) (by omega)) h⟩
            | refine ⟨fun h => absurd h (by with_reducible exact nI_pos (by omega)), fun _ => ?_⟩
            | refine ⟨fun _ => ?_, fun h => absurd (by with_reducible exact nI_0le (by omega)) h⟩
            | refine ⟨fun h => absurd h (by decide), fun _ => ?_⟩
            | refine ⟨fun _ => ?_, fun h => absurd (by decide) h⟩
            | refine ⟨fun _ => ?_, fun h => absurd h (by decide)⟩
            | refine ⟨fun h => absurd (by decide) h, fun _ => ?_⟩
            | refine ⟨by decide, ?_⟩
            | refine ⟨rfl, ?_⟩)
    try (conv => whnf)
    refine ⟨(σ, τ, pc, 9, i, i, i), rfl, rfl, ⟨hI.2.2.1.1, h60, hi, hi, hi, by omega, by omega⟩, ?_⟩
    try dsimp only [cond_true, cond_false]
    rintro _ _ ⟨rfl, σ1, τ1, rfl, hN, h18, h19, h20, h21, h85, h84⟩
    repeat (conv => whnf
            try dsimp only
            try simp (decide := true) only [zu_same, zu_ne1, zu_ne2, zu_row, zuL_same, zuL_ne1, zuL_ne2, zrow_n1, zx0, zx1, zx2, zx3, nI_1, Nat.reduceAdd, Nat.reduceMul, Int32.reduceAdd, Int32.reduceSub, Int32.reduceMul]
            first
            | refine ⟨vp_inb (by decide), ?_⟩
            | refine ⟨by with_reducible exact zi (by omega), ?_⟩
            | refine ⟨fun h => absurd h (by with_reducible exact nI_ge (by omega) (by omega)), fun _ => ?_⟩
            | refine ⟨fun _ => ?_, fun h => absurd (by with_reducible exact nI_le (by omega) (by omega)) h⟩
            | refine ⟨fun h => absurd h (by with_reducible exact nI_nlt (by omega) (by omega)), fun _ => ?_⟩
            | refine ⟨fun _ => ?_, fun h => absurd (by with_reducible exact nI_lt (by omega) (by omega)) h⟩
            | refine ⟨fun h => absurd h (by with_reducible exact nI_pos (by omega)), fun _ => ?_⟩
            | refine ⟨fun _ => ?_, fun h => absurd (by with_reducible exact nI_0le (by omega)) h⟩
            | refine ⟨fun h => absurd h (by decide), fun _ => ?_⟩
            | refine ⟨fun _ => ?_, fun h => absurd (by decide) h⟩
            | refine ⟨fun _ => ?_, fun h => absurd h (by decide)⟩
            | refine ⟨fun h => absurd (by decide) h, fun _ => ?_⟩
            | refine ⟨by decide, ?_⟩
            | refine ⟨rfl, ?_⟩)
    try (conv => whnf)
    exact hK _ _ ⟨rfl, σ1, τ1, rfl, cI_node hI hN h60 hi hi hi (by omega) (by omega) h18 h19 h20 h21 h85 h84, hN.1⟩

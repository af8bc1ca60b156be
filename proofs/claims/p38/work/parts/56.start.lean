/-! ===== the law from its entry ===== -/
set_option maxRecDepth 100000
set_option maxHeartbeats 4000000
theorem lw_B5 (Gl : zK) (hG : zSt (zCL_lawB calB) [2, 40] Gl) {ti a b m : Nat} (l5 l6 l7 l8 l9 l10 l11 l12 l13 l14 l15 l16 l17 : Option Value) {sh : zSh} {rf : zRf} {s : zIn} {t : zLo} (h2 : Gl 2 [some (.ref zS), some (.int (nI (ti + 1))), some (.ref 0), some (.ref 1), some (.int (nI 5)), l5, l6, l7, l8, l9, l10, l11, l12, l13, l14, l15, l16, l17] [] (a, b) (m, sh, rf, s, t)) : Gl 40 [some (.ref zS), some (.int (nI ti)), some (.ref 0), some (.ref 1), some (.int (nI 5)), l5, l6, l7, l8, l9, l10, l11, l12, l13, l14, l15, l16, l17] [] (a, b) (m, sh, rf, s, t) := by
  refine hG 40 _ _ _ _ _ ?_
  repeat (first
    | (conv => whnf
       try dsimp only
       try simp (decide := true) only [show (5 : Int32) = nI 5 from rfl, zu_same, zu_ne1, zu_ne2, zu_row, zuL_same, zuL_ne1, zuL_ne2, zrow_n1, zx0, zx1, zx2, zx3, nI_1, Nat.reduceAdd, Nat.reduceMul, Int32.reduceAdd, Int32.reduceSub, Int32.reduceMul]
       first
       | refine ⟨zrm (by assumption), ?_⟩
       | refine ⟨vp_inb (by decide), ?_⟩
       | refine ⟨by with_reducible exact zi (by omega), ?_⟩
       | refine ⟨fun h => absurd h (by with_reducible exact nI_ge (by omega) (by omega)), fun _ => ?_⟩
       | refine ⟨fun _ => ?_, fun h => absurd (by with_reducible exact nI_le (by omega) (by omega)) h⟩
       | refine ⟨fun h => absurd h (by with_reducible exact nI_nlt (by omega) (by omega)), fun _ => ?_⟩
       | refine ⟨fun _ => ?_, fun h => absurd (by with_reducible exact nI_lt (by omega) (by omega)) h⟩
       | refine ⟨fun h => absurd h (by with_reducible exact nI_pos (by omega)), fun _ => ?_⟩
       | refine ⟨fun _ => ?_, fun h => absurd (by with_reducible exact nI_0le (by omega)) h⟩
       | refine ⟨fun h => absurd h (by decide), fun _ => ?_⟩
       | refine ⟨fun _ => ?_, fun h => absurd (by decide) h⟩
       | refine ⟨fun _ => ?_, fun h => absurd h (by decide)⟩
       | refine ⟨fun h => absurd (by decide) h, fun _ => ?_⟩
       | refine ⟨by decide, ?_⟩
       | refine ⟨rfl, ?_⟩)
    | (conv => whnf
       fail_if_success refine Exists.intro ?_ ?_
       simp only [show (5 : Int32) = nI 5 from rfl]))
  try (conv => whnf)
  try dsimp only
  try simp (decide := true) only [zu_same, zu_ne1, zu_ne2, zu_row, zuL_same, zuL_ne1, zuL_ne2, zrow_n1, zx0, zx1, zx2, zx3, nI_1, Nat.reduceAdd, Nat.reduceMul, Int32.reduceAdd, Int32.reduceSub, Int32.reduceMul]
  exact h2
theorem lw_A0 (Gl : zK) (hG : zSt (zCL_lawA calA) [2, 40] Gl) (h2 : Gl 2 [some (.ref zS), some (.int (nI 0)), none, none, none, none, none, none, none, none, none, none, none, none, none, none, none, none] [] (0, 0) (0, zSH, zRH, zs0, zt0)) : Gl 0 (zent 18 [.ref zS]) [] (0, 0) (0, zSH, zRH, zs0, zt0) := by
  refine hG 40 _ _ _ _ _ ?_
  repeat (conv => whnf
          try dsimp only
          try simp (decide := true) only [zu_same, zu_ne1, zu_ne2, zu_row, zuL_same, zuL_ne1, zuL_ne2, zrow_n1, zx0, zx1, zx2, zx3, nI_1, Nat.reduceAdd, Nat.reduceMul, Int32.reduceAdd, Int32.reduceSub, Int32.reduceMul]
          first
          | refine ⟨zrm (by assumption), ?_⟩
          | refine ⟨vp_inb (by decide), ?_⟩
          | refine ⟨by with_reducible exact zi (by omega), ?_⟩
          | refine ⟨fun h => absurd h (by with_reducible exact nI_ge (by omega) (by omega)), fun _ => ?_⟩
          | refine ⟨fun _ => ?_, fun h => absurd (by with_reducible exact nI_le (by omega) (by omega)) h⟩
          | refine ⟨fun h => absurd h (by with_reducible exact nI_nlt (by omega) (by omega)), fun _ => ?_⟩
          | refine ⟨fun _ => ?_, fun h => absurd (by with_reducible exact nI_lt (by omega) (by omega)) h⟩
          | refine ⟨fun h => absurd h (by with_reducible exact nI_pos (by omega)), fun _ => ?_⟩
          | refine ⟨fun _ => ?_, fun h => absurd (by with_reducible exact nI_0le (by omega)) h⟩
          | refine ⟨fun h => absurd h (by decide), fun _ => ?_⟩
          | refine ⟨fun _ => ?_, fun h => absurd (by decide) h⟩
          | refine ⟨fun _ => ?_, fun h => absurd h (by decide)⟩
          | refine ⟨fun h => absurd (by decide) h, fun _ => ?_⟩
          | refine ⟨by decide, ?_⟩
          | refine ⟨rfl, ?_⟩)
  try (conv => whnf)
  exact h2
theorem lw_hll {x1 : Value} (hx : ∀ n, zwV n x1) {L9 : zLc} : ∀ i v, znth (some (.ref zS) :: some x1 :: zrep 16) i = some v → znth (some (.ref zS) :: some x1 :: L9) i = some v ∧ zwV 0 v
  | 0, v, h => ⟨h, by cases h; exact Or.inr rfl⟩
  | 1, v, h => ⟨h, by cases h; exact hx 0⟩
  | i + 2, v, h => by
    have h' : znth (zrep 16) i = some v := h
    rw [znth_rep] at h'
    cases h'
theorem lw_all (Gl : zK) (hA : zSt (zCL_lawA calA) [2, 40] Gl) (hB5 : zSt (zCL_lawB calB) [2, 40] Gl) (hB : zSt (zCL_lawB calB) [40, 116, 1041] Gl) (hC : zSt (zCL_lawC calC) [116, 134] Gl) (hD' : zSt (zCL_lawD calD) [134, 226, 236, 299, 354, 375] Gl) (hE : zSt (zCL_lawE calE) [375, 408] Gl) (hF' : zSt (zCL_lawF calF) [408, 437] Gl) (hG : zSt (zCL_lawG calG) [437, 518, 550, 561, 690, 696] Gl) (hH : zSt (zCL_lawH calH) [561, 595, 660, 684, 690] Gl) (hI' : zSt (zCL_lawI calI) [696, 739, 931] Gl) (hJ : zSt (zCL_lawJ calJ) [739, 812, 846] Gl) (hK : zSt (zCL_lawK calK) [846, 864, 925, 931] Gl) (hN : zSt (zCL_lawN calN) [931, 968] Gl) (hM : zSt (zCL_lawM calM) [40, 968, 1023] Gl)
    (hfg : ∀ ll1 ll κ (μ : zM), (∀ i v, znth ll1 i = some v → znth ll i = some v ∧ zwV 0 v) → Gl 2 ll1 [] κ (0, μ.2) → Gl 2 ll [] κ μ) : Gl 0 (zent 18 [.ref zS]) [] (0, 0) (0, zSH, zRH, zs0, zt0) := by
  have h2 : ∀ (f ti : Nat) (a b : Nat) (l2 l3 l4 l5 l6 l7 l8 l9 l10 l11 l12 l13 l14 l15 l16 l17 : Option Value) (sh : zSh) (rf : zRf) (s : zIn) (t : zLo), ti + f = 3 → a ≤ 1000 * ti → b ≤ 10000 * ti → (sh zS).1 = 999 → Gl 2 [some (.ref zS), some (.int (nI ti)), l2, l3, l4, l5, l6, l7, l8, l9, l10, l11, l12, l13, l14, l15, l16, l17] [] (a, b) (0, sh, rf, s, t) := by
    intro f
    induction f with
    | zero =>
      intro ti a b l2 l3 l4 l5 l6 l7 l8 l9 l10 l11 l12 l13 l14 l15 l16 l17 sh rf s t hti ha hb h9
      exact lw_A Gl hA (by omega) (by omega) (by omega) _ _ _ _ _ _ _ _ _ _ _ _ _ _ _ _ h9 (fun _ _ _ _ _ _ _ _ _ _ _ _ _ _ _ _ _ _ _ _ _ _ q => absurd q (by omega))
    | succ f ih =>
      intro ti a b l2 l3 l4 l5 l6 l7 l8 l9 l10 l11 l12 l13 l14 l15 l16 l17 sh rf s t hti ha hb h9
      refine lw_A Gl hA (by omega) (by omega) (by omega) _ _ _ _ _ _ _ _ _ _ _ _ _ _ _ _ h9 ?_
      intro l5 l6 l7 l8 l9 l10 l11 l12 l13 l14 l15 l16 l17 a1 b1 dr1 sh rf s t σ τ hti3 ha1 hb1 hdr1 hS hD hI hF hk
      have steps : ∀ (g st m pc dr a b : Nat) (l5 l6 l7 l8 l9 l10 l11 l12 l13 l14 l15 l16 l17 : Option Value) (sh : zSh) (rf : zRf) (s : zIn) (t : zLo) (σ : zIn) (τ : zLo), st + g = 5 → m ≤ 153 + 2 * st → pc ≤ 18 + st → 0 < pc → dr ≤ dr1 + 30 * st → a ≤ a1 + 2 * st → b ≤ b1 + 20 * st → lS m 4 6 sh rf → lD 4 6 pc dr s t σ τ → cI σ τ 6 pc 4 → cFl σ 6 → (∀ v, v < 6 → kq (σ 89 v)) → Gl 40 [some (.ref zS), some (.int (nI ti)), some (.ref 0), some (.ref 1), some (.int (nI st)), l5, l6, l7, l8, l9, l10, l11, l12, l13, l14, l15, l16, l17] [] (a, b) (m, sh, rf, s, t) := by
        intro g
        induction g with
        | zero =>
          intro st m pc dr a b l5 l6 l7 l8 l9 l10 l11 l12 l13 l14 l15 l16 l17 sh rf s t σ τ hst hm hpc hpc0 hdr ha hb hS hD hI hF hk
          rw [show st = 5 by omega]
          refine lw_B5 Gl hB5 _ _ _ _ _ _ _ _ _ _ _ _ _ ?_
          refine hfg (some (.ref zS) :: some (.int (nI (ti + 1))) :: zrep 16) _ _ _ (lw_hll (x1 := .int (nI (ti + 1))) (fun n => trivial)) ?_
          exact ih (ti + 1) a b none none none none none none none none none none none none none none none none sh rf s t (by omega) (by omega) (by omega) hS.2.2.1
        | succ g ihg =>
          intro st m pc dr a b l5 l6 l7 l8 l9 l10 l11 l12 l13 l14 l15 l16 l17 sh rf s t σ τ hst hm hpc hpc0 hdr ha hb hS hD hI hF hk
          refine lw_step Gl hB hC hD' hE hF' hG hH hI' hJ hK hN hM (by omega) (by omega) hpc0 (by omega) (by omega) (by omega) (by omega) _ _ _ _ _ _ _ _ _ _ _ _ _ hS hD hI hF hk ?_
          intro l5 l6 l7 l8 l9 l10 l11 l12 l13 l14 l15 l16 l17 m2 pc2 dr2 a2 b2 sh rf s t σ τ hm2 hpc2 hpc3 hdr2 ha2 hb2 hS hD hI hF hk
          exact ihg (st + 1) m2 pc2 dr2 a2 b2 _ _ _ _ _ _ _ _ _ _ _ _ _ sh rf s t σ τ (by omega) (by omega) (by omega) hpc3 (by omega) (by omega) (by omega) hS hD hI hF hk
      exact steps 5 0 153 18 dr1 a1 b1 _ _ _ _ _ _ _ _ _ _ _ _ _ sh rf s t σ τ rfl (by omega) (by omega) (by decide) (by omega) (by omega) (by omega) hS hD hI hF hk
  refine lw_A0 Gl hA ?_
  exact h2 3 0 0 0 none none none none none none none none none none none none none none none none zSH zRH zs0 zt0 rfl (by omega) (by omega) rfl
/-- from the entry, for every script of at most 260 ints, the law comes to its end with true -/
theorem whole_start {p : Program} {e : Env} {s : State} {m : MethodId} {below : List Frame} {meth : Method} {c : Code} (l : Launch) (hflags : l.flags = flags0) {b L : Nat} {xs : Nat → Int32} (hL : L ≤ 260) (C0 : lw_At p s m meth c b L xs) : W p l e room_1 s m #[Value.ref b] below meth c s.heap [] 0 0 (lw_Z below #[Value.ref b] s) (entryFrame m ([Value.ref b] : List Value).toArray 18) := by
  obtain ⟨D, cA, F9⟩ := zLf_of hL C0
  have sA := zlaw_step (l := l) (e := e) (below := below) F9 (zCL_lawA calA) zpL_lawA [2, 40] zkL_lawA ⟨by decide +kernel, by decide +kernel, by decide +kernel⟩ rfl (zclA l F9)
  have sB := zlaw_step (l := l) (e := e) (below := below) F9 (zCL_lawB calB) zpL_lawB [40, 116, 1041] zkL_lawB ⟨by decide +kernel, by decide +kernel, by decide +kernel⟩ rfl (zclB l F9)
  have sC := zlaw_step (l := l) (e := e) (below := below) F9 (zCL_lawC calC) zpL_lawC [116, 134] zkL_lawC ⟨by decide +kernel, by decide +kernel, by decide +kernel⟩ rfl (zclC l F9)
  have sD := zlaw_step (l := l) (e := e) (below := below) F9 (zCL_lawD calD) zpL_lawD [134, 226, 236, 299, 354, 375] zkL_lawD ⟨by decide +kernel, by decide +kernel, by decide +kernel⟩ rfl (zclD l F9)
  have sE := zlaw_step (l := l) (e := e) (below := below) F9 (zCL_lawE calE) zpL_lawE [375, 408] zkL_lawE ⟨by decide +kernel, by decide +kernel, by decide +kernel⟩ rfl (zclE l F9)
  have sF := zlaw_step (l := l) (e := e) (below := below) F9 (zCL_lawF calF) zpL_lawF [408, 437] zkL_lawF ⟨by decide +kernel, by decide +kernel, by decide +kernel⟩ rfl (zclF l F9)
  have sG := zlaw_step (l := l) (e := e) (below := below) F9 (zCL_lawG calG) zpL_lawG [437, 518, 550, 561, 690, 696] zkL_lawG ⟨by decide +kernel, by decide +kernel, by decide +kernel⟩ rfl (zclG l F9)
  have sH := zlaw_step (l := l) (e := e) (below := below) F9 (zCL_lawH calH) zpL_lawH [561, 595, 660, 684, 690] zkL_lawH ⟨by decide +kernel, by decide +kernel, by decide +kernel⟩ rfl (zclH l F9)
  have sI := zlaw_step (l := l) (e := e) (below := below) F9 (zCL_lawI calI) zpL_lawI [696, 739, 931] zkL_lawI ⟨by decide +kernel, by decide +kernel, by decide +kernel⟩ rfl (zclI l F9)
  have sJ := zlaw_step (l := l) (e := e) (below := below) F9 (zCL_lawJ calJ) zpL_lawJ [739, 812, 846] zkL_lawJ ⟨by decide +kernel, by decide +kernel, by decide +kernel⟩ rfl (zclJ l F9)
  have sK := zlaw_step (l := l) (e := e) (below := below) F9 (zCL_lawK calK) zpL_lawK [846, 864, 925, 931] zkL_lawK ⟨by decide +kernel, by decide +kernel, by decide +kernel⟩ rfl (zclK l F9)
  have sN := zlaw_step (l := l) (e := e) (below := below) F9 (zCL_lawN calN) zpL_lawN [931, 968] zkL_lawN ⟨by decide +kernel, by decide +kernel, by decide +kernel⟩ rfl (zclN l F9)
  have sM := zlaw_step (l := l) (e := e) (below := below) F9 (zCL_lawM calM) zpL_lawM [40, 968, 1023] zkL_lawM ⟨by decide +kernel, by decide +kernel, by decide +kernel⟩ rfl (zclM l F9)
  have sB5 := zlaw_step (l := l) (e := e) (below := below) F9 (zCL_lawB calB) zpL_lawB [2, 40] zkL_lawB ⟨by decide +kernel, by decide +kernel, by decide +kernel⟩ rfl (zclB l F9)
  have key := lw_all (zLw p l e s m below meth c b D cA) sA sB5 sB sC sD sE sF sG sH sI sJ sK sN sM (fun ll1 ll κ μ h k => zLw_fg 0 (Nat.zero_le _) (fun r j x hr => absurd hr (Nat.not_lt_zero r)) h k)
  rw [lg_entry_eq]
  have hl := lv_entry ([.ref b]) (n := 18) (Nat.le_of_ble_eq_true rfl)
  exact key (fun _ => b) s.heap [] _ ⟨fun _ _ => rfl, rfl, Nat.le_refl _, rfl, Nat.le_of_ble_eq_true rfl⟩ (Nat.le_refl _) ⟨fun v hv => (List.not_mem_nil hv).elim, fun i v hv => (by
    have h9 := zent_mem [.ref zS] 18 i v hv
    simp only [List.mem_cons, List.not_mem_nil, or_false] at h9
    subst h9
    exact Or.inr rfl), fun r j b hr => absurd hr (Nat.not_lt_zero r)⟩ ⟨Nat.zero_le _, Nat.zero_le _⟩ (fun k q h => by simp [zw] at h) ⟨fun i j p q h => by simp [zw] at h, fun k q h => by simp [zw] at h⟩ va_S.rf ⟨hl.1, hl.2.1, fun i v hv => hl.2.2 _ (by have := zent_ok (fun _ => b) [.ref zS] 18 i 0 v hv; rwa [Nat.zero_add] at this)⟩

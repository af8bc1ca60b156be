/-! ===== the law: the checksum again, a case kept ===== -/
set_option maxRecDepth 100000
set_option maxHeartbeats 4000000
theorem dgF_cg {T1 T2 : Nat → Nat → Int32} {d : Int64} (h : ∀ j w, w < 3 → T1 j w = T2 j w) : ∀ (k : Nat), dgF T1 k d = dgF T2 k d
  | 0 => rfl
  | k + 1 => by
    unfold dgF
    rw [dgF_cg h k, h k 0 (by decide), h k 1 (by decide), h k 2 (by decide)]
theorem pGr_cg {T1 T2 : Nat → Int32} : ∀ (k : Nat), (∀ j, j < k → T1 j = T2 j) → pGr T1 k = pGr T2 k
  | 0, _ => rfl
  | k + 1, h => by
    unfold pGr
    rw [pGr_cg k (fun j hj => h j (by omega)), h k (by omega)]
theorem pBr_cg {T1 T2 : Nat → Int32} : ∀ (k : Nat), (∀ j, j < k → T1 j = T2 j) → pBr T1 k = pBr T2 k
  | 0, _ => rfl
  | k + 1, h => by
    unfold pBr
    rw [pBr_cg k (fun j hj => h j (by omega)), h k (by omega)]
theorem dgEq {σ1 σ0 : zIn} {τ : zLo} {pc : Nat} (h1 : gS σ1 τ 6 pc 4) (h0 : gS σ0 τ 6 pc 4) (f : ∀ r, r ≠ 0 → r < 101 → σ1 r = σ0 r) : cDg σ1 τ 6 pc 4 = cDg σ0 τ 6 pc 4 := by
  have eL : cL σ1 6 = cL σ0 6 := cL_cg f
  have eF : ∀ S, cF σ1 6 S = cF σ0 6 S := fun S => cF_cg f
  have e89 : σ1 89 = σ0 89 := f 89 (by decide) (by decide)
  have e88 : σ1 88 = σ0 88 := f 88 (by decide) (by decide)
  have e85 : σ1 85 = σ0 85 := f 85 (by decide) (by decide)
  have eMG : zMG σ1 = zMG σ0 := zMG_cg0 f
  have e103 : ∀ u, u < 6 → σ1 103 u = σ0 103 u := fun u hu => by rw [(gS_so h1).1 u hu, (gS_so h0).1 u hu, eF, e89]
  have e45 : ∀ j, j < (cL σ0 6).length → σ1 104 j = σ0 104 j ∧ σ1 105 j = σ0 105 j := fun j hj => by
    have a1 := (gS_so h1).2 j (by rw [eL]; exact hj)
    have a0 := (gS_so h0).2 j hj
    rw [eL, eF, e88, e85, e89, eMG] at a1
    exact ⟨a1.1.trans a0.1.symm, a1.2.trans a0.2.symm⟩
  have e112 : ∀ v, v < 6 → σ1 112 v = σ0 112 v := fun v hv => bt_ext fun i _ => by
    have m1 := gS_mo h1 v hv i
    have m0 := gS_mo h0 v hv i
    rw [cMv_cg f] at m1
    cases b1 : bt (σ1 112 v) i with
    | true => exact (m0.mpr (m1.mp b1)).symm
    | false =>
      cases b0 : bt (σ0 112 v) i with
      | false => rfl
      | true =>
        have := m1.mpr (m0.mp b0)
        rw [b1] at this
        cases this
  have eC : ∀ D, dgC (pTc σ1) (cL σ0 6).length D = dgC (pTc σ0) (cL σ0 6).length D := fun D => dgC_cg _ (fun j hj w _ => by
    unfold pTc
    rw [f 97 (by decide) (by decide), f 99 (by decide) (by decide), (e45 j hj).1, (e45 j hj).2])
  have eV : ∀ D, dgV (σ0 95) (σ1 103) (σ1 112) 6 D = dgV (σ0 95) (σ0 103) (σ0 112) 6 D := fun D => dgV_cg 6 (fun j hj => ⟨rfl, e103 j hj, e112 j hj⟩)
  have eT : ∀ c D, dgF (fun k w => σ1 (91 + w) k) c D = dgF (fun k w => σ0 (91 + w) k) c D := fun c D => dgF_cg (fun j w hw => by
    show σ1 (91 + w) j = σ0 (91 + w) j
    rw [f (91 + w) (by omega) (by omega)]) c
  have h60 : pc ≤ 60 := h0.1.1.2.2.1
  have eP : ∀ D, dgP (cE σ1 τ) (fun k => fSh (pW (zPT σ1) (σ1 103) k)) pc D = dgP (cE σ0 τ) (fun k => fSh (pW (zPT σ0) (σ0 103) k)) pc D := fun D => dgP_cg pc (fun k hk => ⟨fun e => by
    unfold cE
    rw [f (23 + k) (by omega) (by omega)], by
    show fSh (pW (zPT σ1) (σ1 103) k) = fSh (pW (zPT σ0) (σ0 103) k)
    rw [zPT_cg (fun r a b => f r (by omega) (by omega))]
    rw [pW_dep (P := zPT σ0) (pl := σ0 85) (pc := pc) h0.1.2.1.2.1 (A1 := σ1 103) (A2 := σ0 103) (k + 1) k (by omega) hk (fun v hv => e103 v (h0.1.2.1.2.2.2 k hk v hv))]⟩)
  have eG : pGr (σ1 104) (cL σ0 6).length = pGr (σ0 104) (cL σ0 6).length := pGr_cg _ (fun j hj => (e45 j hj).1)
  have eB : pBr (σ1 103) 6 = pBr (σ0 103) 6 := pBr_cg 6 e103
  unfold cDg
  rw [eL, f 90 (by decide) (by decide), f 95 (by decide) (by decide), eC, eV, eT, eP, eG, eB]
theorem gS_113 {σ σ1 : zIn} {τ : zLo} {pc : Nat} (h : gS σ τ 6 pc 4) (f : ∀ r, r < 113 → σ1 r = σ r) : gS σ1 τ 6 pc 4 := by
  refine ⟨cI_cg h.1 (fun r _ hr => f r (by omega)) (f 100 (by decide)) (by rw [f 103 (by decide)]; exact h.1.2.2.2.2.2.1), cFl_cg h.2.1 (fun r hr => f r (by omega)) (f 103 (by decide)) (f 104 (by decide)) (f 105 (by decide)) (f 112 (by decide)), ?_, ?_, ?_⟩
  · rw [f 0 (by decide)]
    exact h.2.2.1
  · rw [f 0 (by decide)]
    exact h.2.2.2.1
  · rw [f 0 (by decide)]
    exact h.2.2.2.2
theorem lw_N (Gl : zK) (hG : zSt (zCL_lawN calN) [931, 968] Gl) {q ti st m pc dr a b : Nat} {c5 c9 c10 : Int32} {Dg : Int64} (hκ : a ≤ 200000 ∧ b ≤ 2000000) {sh : zSh} {rf : zRf} {σ0 : zIn} {τ : zLo} (hS : lS m 4 6 sh rf) (h0 : gS σ0 τ 6 pc 4) (hDg : Dg = cDg σ0 τ 6 pc 4) {i v : Nat} (hi : i < 6) (hv : v < 6)
    (h968 : ∀ (l14 l15 l16 l17 : Option Value) (s : zIn) (t : zLo) (σb : zIn), gS σb τ 6 pc 4 → (∀ r, r ≠ 0 → r < 101 → σb r = σ0 r) → σb 118 1 = nI 6 → (∀ j, j < 16 → σb 115 j = σb 89 j) → wS m pc dr sh rf s t σb τ → Gl 968 [some (.ref zS), some (.int (nI ti)), some (.ref 0), some (.ref 1), some (.int (nI st)), some (.int c5), some (.long Dg), none, some (.int 63), some (.int c9), some (.int c10), some (.ref q), some (.int (nI i)), some (.int (nI v)), l14, l15, l16, l17] [] (a, b) (m, sh, rf, s, t)) :
    ∀ (l14 l15 l16 l17 : Option Value) (s : zIn) (t : zLo), wS m pc dr sh rf s t σ0 τ → Gl 931 [some (.ref zS), some (.int (nI ti)), some (.ref 0), some (.ref 1), some (.int (nI st)), some (.int c5), some (.long Dg), none, some (.int 63), some (.int c9), some (.int c10), some (.ref q), some (.int (nI i)), some (.int (nI v)), l14, l15, l16, l17] [] (a, b) (m, sh, rf, s, t) := by
  obtain ⟨⟨hm, -⟩, hBs, h999, ⟨g0, -, h121, -⟩, ⟨r0, r1, -, r6, -⟩, -, hv9⟩ := id hS
  intro l14 l15 l16 l17 s t hw
  refine hG 100 _ _ _ _ _ ?_
  repeat (conv => whnf
          try dsimp only
          try simp (decide := true) only [zu_same, zu_ne1, zu_ne2, zu_row, zuL_same, zuL_ne1, zuL_ne2, zrow_n1, zx0, zx1, zx2, zx3, nI_1, Nat.reduceAdd, Nat.reduceMul, Int32.reduceAdd, Int32.reduceSub, Int32.reduceMul]
          first
          | refine ⟨zrm (by assumption), ?_⟩
          | refine ⟨vp_inb (by decide), ?_⟩
          | refine ⟨by with_reducible exact zi (by omega), ?_⟩
          | refine ⟨fun h => absurd h (by with_reducible exact nI_ge (by omega) (by omega)), fun _ => ?_⟩
          | refine ⟨fun _ => ?_, fun h => absurd (by with_reducible exact nI_le (by omega) (by omega)) h⟩
          | refine ⟨fun h => absurd h (by with_reducible exact nI_nlt (by omega) (by omega)), fun _ => ?_⟩
          | refine ⟨fun _ => ?_, fun h => absurd (by with_reducible exact nI_lt (by omega) (by omega)) h⟩
          | refine ⟨fun h => absurd h (by with_reducible exact nI_pos (by omega)), fun _ => ?_⟩
          | refine ⟨fun _ => ?_, fun h => absurd (by with_reducible exact nI_0le (by omega)) h⟩
          | refine ⟨fun h => absurd h (by decide), fun _ => ?_⟩
          | refine ⟨fun _ => ?_, fun h => absurd (by decide) h⟩
          | refine ⟨fun _ => ?_, fun h => absurd h (by decide)⟩
          | refine ⟨fun h => absurd (by decide) h, fun _ => ?_⟩
          | refine ⟨by decide, ?_⟩
          | refine ⟨rfl, ?_⟩)
  try (conv => whnf)
  obtain ⟨-, σx, hDx, hqx⟩ := id hw
  have hg := wS_gS h0 hqx
  refine ⟨[.ref 0], σx, τ, rfl, rfl, hBs, hDx.1, (by show 120 ≤ m; omega), (σx, τ, 6, pc, 4), rfl, rfl, ⟨hg.1, hg.2.1⟩, ?_⟩
  try dsimp only
  rintro _ _ ⟨σ1, rfl, rfl, hg1, hf1, hf2⟩
  have hr1 : ∀ r, r ≠ 0 → r < 101 → σ1 r = σ0 r := fun r h h' => (hf2 hg.2.2.1 r h h').trans (hqx r (by omega) (by omega))
  have hf9 : ∀ r, r ≠ 0 → r < 101 → σ1 r = σx r := hf2 hg.2.2.1
  refine ⟨σ1, τ, rfl, rfl, fun s2 t2 hc hfr => ?_⟩
  have hD1 : lD 4 6 pc dr s2 t2 σ1 τ := lD_q hDx hc hfr ⟨hf9 100 (by decide) (by decide), hf9 15 (by decide) (by decide), hf9 16 (by decide) (by decide), hf9 87 (by decide) (by decide), hf9 88 (by decide) (by decide), hf9 89 (by decide) (by decide)⟩
  rw [dgEq hg1 h0 hr1, ← hDg]
  clear hc hfr hDx hqx hw hf1 hf2 hf9
  repeat (conv => whnf
          try dsimp only
          try simp (decide := true) only [zu_same, zu_ne1, zu_ne2, zu_row, zuL_same, zuL_ne1, zuL_ne2, zrow_n1, zx0, zx1, zx2, zx3, nI_1, Nat.reduceAdd, Nat.reduceMul, Int32.reduceAdd, Int32.reduceSub, Int32.reduceMul]
          first
          | refine ⟨zrm (by assumption), ?_⟩
          | refine ⟨vp_inb (by decide), ?_⟩
          | refine ⟨by with_reducible exact zi (by omega), ?_⟩
          | refine ⟨fun h => absurd h (by with_reducible exact nI_ge (by omega) (by omega)), fun _ => ?_⟩
          | refine ⟨fun _ => ?_, fun h => absurd (by with_reducible exact nI_le (by omega) (by omega)) h⟩
          | refine ⟨fun h => absurd h (by with_reducible exact nI_nlt (by omega) (by omega)), fun _ => ?_⟩
          | refine ⟨fun _ => ?_, fun h => absurd (by with_reducible exact nI_lt (by omega) (by omega)) h⟩
          | refine ⟨fun h => absurd h (by with_reducible exact nI_pos (by omega)), fun _ => ?_⟩
          | refine ⟨fun _ => ?_, fun h => absurd (by with_reducible exact nI_0le (by omega)) h⟩
          | refine ⟨fun h => absurd h (by decide), fun _ => ?_⟩
          | refine ⟨fun _ => ?_, fun h => absurd (by decide) h⟩
          | refine ⟨fun _ => ?_, fun h => absurd h (by decide)⟩
          | refine ⟨fun h => absurd (by decide) h, fun _ => ?_⟩
          | refine ⟨by decide, ?_⟩
          | refine ⟨rfl, ?_⟩)
  try (conv => whnf)
  try (refine ⟨fun h => absurd ((lg_cmp_eq _ _).mpr rfl) h, fun _ => ?_⟩)
  repeat (conv => whnf
          try dsimp only
          try simp (decide := true) only [zu_same, zu_ne1, zu_ne2, zu_row, zuL_same, zuL_ne1, zuL_ne2, zrow_n1, zx0, zx1, zx2, zx3, nI_1, Nat.reduceAdd, Nat.reduceMul, Int32.reduceAdd, Int32.reduceSub, Int32.reduceMul]
          first
          | refine ⟨zrm (by assumption), ?_⟩
          | refine ⟨vp_inb (by decide), ?_⟩
          | refine ⟨by with_reducible exact zi (by omega), ?_⟩
          | refine ⟨fun h => absurd h (by with_reducible exact nI_ge (by omega) (by omega)), fun _ => ?_⟩
          | refine ⟨fun _ => ?_, fun h => absurd (by with_reducible exact nI_le (by omega) (by omega)) h⟩
          | refine ⟨fun h => absurd h (by with_reducible exact nI_nlt (by omega) (by omega)), fun _ => ?_⟩
          | refine ⟨fun _ => ?_, fun h => absurd (by with_reducible exact nI_lt (by omega) (by omega)) h⟩
          | refine ⟨fun h => absurd h (by with_reducible exact nI_pos (by omega)), fun _ => ?_⟩
          | refine ⟨fun _ => ?_, fun h => absurd (by with_reducible exact nI_0le (by omega)) h⟩
          | refine ⟨fun h => absurd h (by decide), fun _ => ?_⟩
          | refine ⟨fun _ => ?_, fun h => absurd (by decide) h⟩
          | refine ⟨fun _ => ?_, fun h => absurd h (by decide)⟩
          | refine ⟨fun h => absurd (by decide) h, fun _ => ?_⟩
          | refine ⟨by decide, ?_⟩
          | refine ⟨rfl, ?_⟩)
  try (conv => whnf)
  refine ⟨[.ref 0, .int 1], σ1, τ, rfl, rfl, hBs, hD1.1, (by show 120 ≤ m; omega), (σ1, τ, 6), rfl, rfl, ⟨hg1.1.1.1, by decide⟩, ?_⟩
  try dsimp only
  rintro _ _ ⟨⟨c, rfl, hc1, hc4⟩, σ2, rfl, hlo, h118, h115⟩
  refine ⟨σ2, τ, rfl, rfl, fun s3 t3 hc hfr => ?_⟩
  have hg2 : gS σ2 τ 6 pc 4 := gS_113 hg1 hlo
  have hw : wS m pc dr sh rf s3 t3 σ2 τ := ⟨hS, σ2, lD_q hD1 hc hfr ⟨hlo 100 (by decide), hlo 15 (by decide), hlo 16 (by decide), hlo 87 (by decide), hlo 88 (by decide), hlo 89 (by decide)⟩, cTq_r⟩
  have h115' : ∀ j, j < 16 → σ2 115 j = σ2 89 j := fun j hj => by rw [hlo 89 (by decide)]; exact h115 j hj
  have hr2 : ∀ r, r ≠ 0 → r < 101 → σ2 r = σ0 r := fun r h h' => (hlo r (by omega)).trans (hr1 r h h')
  have hc9 : ¬ nI c < 1 := (show ¬ nI c < nI 1 from nI_nlt (by omega) (by omega))
  clear hc hfr hlo hD1 h115
  repeat (conv => whnf
          try dsimp only
          try simp (decide := true) only [zu_same, zu_ne1, zu_ne2, zu_row, zuL_same, zuL_ne1, zuL_ne2, zrow_n1, zx0, zx1, zx2, zx3, nI_1, Nat.reduceAdd, Nat.reduceMul, Int32.reduceAdd, Int32.reduceSub, Int32.reduceMul]
          first
          | refine ⟨zrm (by assumption), ?_⟩
          | refine ⟨vp_inb (by decide), ?_⟩
          | refine ⟨by with_reducible exact zi (by omega), ?_⟩
          | refine ⟨fun h => absurd h (by with_reducible exact nI_ge (by omega) (by omega)), fun _ => ?_⟩
          | refine ⟨fun _ => ?_, fun h => absurd (by with_reducible exact nI_le (by omega) (by omega)) h⟩
          | refine ⟨fun h => absurd h (by with_reducible exact nI_nlt (by omega) (by omega)), fun _ => ?_⟩
          | refine ⟨fun _ => ?_, fun h => absurd (by with_reducible exact nI_lt (by omega) (by omega)) h⟩
          | refine ⟨fun h => absurd h (by with_reducible exact nI_pos (by omega)), fun _ => ?_⟩
          | refine ⟨fun _ => ?_, fun h => absurd (by with_reducible exact nI_0le (by omega)) h⟩
          | refine ⟨fun h => absurd h (by decide), fun _ => ?_⟩
          | refine ⟨fun _ => ?_, fun h => absurd (by decide) h⟩
          | refine ⟨fun _ => ?_, fun h => absurd h (by decide)⟩
          | refine ⟨fun h => absurd (by decide) h, fun _ => ?_⟩
          | refine ⟨by decide, ?_⟩
          | refine ⟨rfl, ?_⟩)
  try (conv => whnf)
  refine ⟨fun h => absurd h hc9, fun _ => ?_⟩
  repeat (conv => whnf
          try dsimp only
          try simp (decide := true) only [zu_same, zu_ne1, zu_ne2, zu_row, zuL_same, zuL_ne1, zuL_ne2, zrow_n1, zx0, zx1, zx2, zx3, nI_1, Nat.reduceAdd, Nat.reduceMul, Int32.reduceAdd, Int32.reduceSub, Int32.reduceMul]
          first
          | refine ⟨zrm (by assumption), ?_⟩
          | refine ⟨vp_inb (by decide), ?_⟩
          | refine ⟨by with_reducible exact zi (by omega), ?_⟩
          | refine ⟨fun h => absurd h (by with_reducible exact nI_ge (by omega) (by omega)), fun _ => ?_⟩
          | refine ⟨fun _ => ?_, fun h => absurd (by with_reducible exact nI_le (by omega) (by omega)) h⟩
          | refine ⟨fun h => absurd h (by with_reducible exact nI_nlt (by omega) (by omega)), fun _ => ?_⟩
          | refine ⟨fun _ => ?_, fun h => absurd (by with_reducible exact nI_lt (by omega) (by omega)) h⟩
          | refine ⟨fun h => absurd h (by with_reducible exact nI_pos (by omega)), fun _ => ?_⟩
          | refine ⟨fun _ => ?_, fun h => absurd (by with_reducible exact nI_0le (by omega)) h⟩
          | refine ⟨fun h => absurd h (by decide), fun _ => ?_⟩
          | refine ⟨fun _ => ?_, fun h => absurd (by decide) h⟩
          | refine ⟨fun _ => ?_, fun h => absurd h (by decide)⟩
          | refine ⟨fun h => absurd (by decide) h, fun _ => ?_⟩
          | refine ⟨by decide, ?_⟩
          | refine ⟨rfl, ?_⟩)
  try (conv => whnf)
  obtain ⟨-, σx, hDx, hqx⟩ := id hw
  refine ⟨[.ref 0, .int 1, .int (nI v)], σx, τ, rfl, rfl, hBs, hDx.1, (by show 120 ≤ m; omega), (σx, τ, 6, pc, 4, v), rfl, rfl, ⟨wS_gS hg2 hqx, hv, by rw [hqx 118 (by decide) (by decide)]; exact h118, fun j hj => by rw [hqx 115 (by decide) (by decide), hqx 89 (by decide) (by decide)]; exact h115' j hj⟩, ?_⟩
  try dsimp only
  rintro _ _ ⟨rfl, σ1, rfl, h1q⟩
  refine ⟨σ1, τ, rfl, rfl, fun s2 t2 hc hfr => ?_⟩
  replace hw := wS_q hS hDx hqx hc hfr h1q
  try replace hq := wq_f hfr hq
  clear hc hfr hDx h1q
  rw [hqx 103 (by decide) (by decide)]
  clear hqx
  repeat (conv => whnf
          try dsimp only
          try simp (decide := true) only [zu_same, zu_ne1, zu_ne2, zu_row, zuL_same, zuL_ne1, zuL_ne2, zrow_n1, zx0, zx1, zx2, zx3, nI_1, Nat.reduceAdd, Nat.reduceMul, Int32.reduceAdd, Int32.reduceSub, Int32.reduceMul]
          first
          | refine ⟨zrm (by assumption), ?_⟩
          | refine ⟨vp_inb (by decide), ?_⟩
          | refine ⟨by with_reducible exact zi (by omega), ?_⟩
          | refine ⟨fun h => absurd h (by with_reducible exact nI_ge (by omega) (by omega)), fun _ => ?_⟩
          | refine ⟨fun _ => ?_, fun h => absurd (by with_reducible exact nI_le (by omega) (by omega)) h⟩
          | refine ⟨fun h => absurd h (by with_reducible exact nI_nlt (by omega) (by omega)), fun _ => ?_⟩
          | refine ⟨fun _ => ?_, fun h => absurd (by with_reducible exact nI_lt (by omega) (by omega)) h⟩
          | refine ⟨fun h => absurd h (by with_reducible exact nI_pos (by omega)), fun _ => ?_⟩
          | refine ⟨fun _ => ?_, fun h => absurd (by with_reducible exact nI_0le (by omega)) h⟩
          | refine ⟨fun h => absurd h (by decide), fun _ => ?_⟩
          | refine ⟨fun _ => ?_, fun h => absurd (by decide) h⟩
          | refine ⟨fun _ => ?_, fun h => absurd h (by decide)⟩
          | refine ⟨fun h => absurd (by decide) h, fun _ => ?_⟩
          | refine ⟨by decide, ?_⟩
          | refine ⟨rfl, ?_⟩)
  try (conv => whnf)
  obtain ⟨-, σx, hDx, hqx⟩ := id hw
  refine ⟨[.ref 0, .int (nI v)], σx, τ, rfl, rfl, hBs, hDx.1, (by show 120 ≤ m; omega), (σx, τ, 6, pc, 4, v), rfl, rfl, ⟨wS_gS hg2 hqx, hv⟩, ?_⟩
  try dsimp only
  refine ⟨σx, τ, rfl, rfl, fun s2 t2 hc hfr => ?_⟩
  replace hw := wS_q hS hDx hqx hc hfr cTq_r
  try replace hq := wq_f hfr hq
  clear hc hfr hDx
  rw [hqx 103 (by decide) (by decide)]
  clear hqx
  repeat (conv => whnf
          try dsimp only
          try simp (decide := true) only [zu_same, zu_ne1, zu_ne2, zu_row, zuL_same, zuL_ne1, zuL_ne2, zrow_n1, zx0, zx1, zx2, zx3, nI_1, Nat.reduceAdd, Nat.reduceMul, Int32.reduceAdd, Int32.reduceSub, Int32.reduceMul]
          first
          | refine ⟨zrm (by assumption), ?_⟩
          | refine ⟨vp_inb (by decide), ?_⟩
          | refine ⟨by with_reducible exact zi (by omega), ?_⟩
          | refine ⟨fun h => absurd h (by with_reducible exact nI_ge (by omega) (by omega)), fun _ => ?_⟩
          | refine ⟨fun _ => ?_, fun h => absurd (by with_reducible exact nI_le (by omega) (by omega)) h⟩
          | refine ⟨fun h => absurd h (by with_reducible exact nI_nlt (by omega) (by omega)), fun _ => ?_⟩
          | refine ⟨fun _ => ?_, fun h => absurd (by with_reducible exact nI_lt (by omega) (by omega)) h⟩
          | refine ⟨fun h => absurd h (by with_reducible exact nI_pos (by omega)), fun _ => ?_⟩
          | refine ⟨fun _ => ?_, fun h => absurd (by with_reducible exact nI_0le (by omega)) h⟩
          | refine ⟨fun h => absurd h (by decide), fun _ => ?_⟩
          | refine ⟨fun _ => ?_, fun h => absurd (by decide) h⟩
          | refine ⟨fun _ => ?_, fun h => absurd h (by decide)⟩
          | refine ⟨fun h => absurd (by decide) h, fun _ => ?_⟩
          | refine ⟨by decide, ?_⟩
          | refine ⟨rfl, ?_⟩)
  try (conv => whnf)
  exact h968 _ _ _ _ s2 t2 σ2 hg2 hr2 h118 h115' hw

/-! ===== the law: a step ===== -/
set_option maxRecDepth 100000
set_option maxHeartbeats 4000000
theorem lw_step (Gl : zK) (hB : zSt (zCL_lawB calB) [40, 116, 1041] Gl) (hC : zSt (zCL_lawC calC) [116, 134] Gl) (hD' : zSt (zCL_lawD calD) [134, 226, 236, 299, 354, 375] Gl) (hE : zSt (zCL_lawE calE) [375, 408] Gl) (hF' : zSt (zCL_lawF calF) [408, 437] Gl) (hG : zSt (zCL_lawG calG) [437, 518, 550, 561, 690, 696] Gl) (hH : zSt (zCL_lawH calH) [561, 595, 660, 684, 690] Gl) (hI' : zSt (zCL_lawI calI) [696, 739, 931] Gl) (hJ : zSt (zCL_lawJ calJ) [739, 812, 846] Gl) (hK : zSt (zCL_lawK calK) [846, 864, 925, 931] Gl) (hN : zSt (zCL_lawN calN) [931, 968] Gl) (hM : zSt (zCL_lawM calM) [40, 968, 1023] Gl) {ti st m pc dr a b : Nat} (hst : st < 5) (hpc : pc < 40) (hpc0 : 0 < pc) (hm : m < 50000) (hdr : dr ≤ 9000) (ha : a ≤ 100000) (hb : b ≤ 1000000) (l5 l6 l7 l8 l9 l10 l11 l12 l13 l14 l15 l16 l17 : Option Value) {sh : zSh} {rf : zRf} {s : zIn} {t : zLo} {σ : zIn} {τ : zLo} (hS : lS m 4 6 sh rf) (hD : lD 4 6 pc dr s t σ τ) (hI : cI σ τ 6 pc 4) (hF : cFl σ 6) (hk9 : ∀ v, v < 6 → kq (σ 89 v))
    (h40 : ∀ (l5 l6 l7 l8 l9 l10 l11 l12 l13 l14 l15 l16 l17 : Option Value) (m1 pc1 dr1 a1 b1 : Nat) (sh : zSh) (rf : zRf) (s : zIn) (t : zLo) (σ : zIn) (τ : zLo), m1 ≤ m + 2 → pc1 ≤ pc + 1 → 0 < pc1 → dr1 ≤ dr + 30 → a1 ≤ a + 2 → b1 ≤ b + 20 → lS m1 4 6 sh rf → lD 4 6 pc1 dr1 s t σ τ → cI σ τ 6 pc1 4 → cFl σ 6 → (∀ v, v < 6 → kq (σ 89 v)) → Gl 40 [some (.ref zS), some (.int (nI ti)), some (.ref 0), some (.ref 1), some (.int (nI (st + 1))), l5, l6, l7, l8, l9, l10, l11, l12, l13, l14, l15, l16, l17] [] (a1, b1) (m1, sh, rf, s, t)) :
    Gl 40 [some (.ref zS), some (.int (nI ti)), some (.ref 0), some (.ref 1), some (.int (nI st)), l5, l6, l7, l8, l9, l10, l11, l12, l13, l14, l15, l16, l17] [] (a, b) (m, sh, rf, s, t) := by
  refine lw_B Gl hB hst hpc hpc0 hm hdr ⟨by omega, by omega⟩ ⟨by omega, by omega⟩ _ _ _ _ _ _ _ _ _ _ _ _ _ hS hD hI hF hk9 ?_
  intro c5 m1 pc1 dr1 a1 b1 sh rf s t σ τ hm1 hpc1 hpc2 hdr1 ha1 hb1 hS hD hI hF hk
  have kk : a1 ≤ 200000 ∧ b1 ≤ 2000000 := ⟨by omega, by omega⟩
  have kk1 : a1 + 1 ≤ 200000 ∧ b1 + 16 ≤ 2000000 := ⟨by omega, by omega⟩
  refine lw_C Gl hC kk _ _ _ _ _ _ _ _ _ _ _ _ hS hD hI hF hk ?_
  intro s t σ0 hg hk0 hw
  have e134 := lw_D (Dg := cDg σ0 τ 6 pc1 4) (ti := ti) (st := st) (c5 := c5) (dr := dr1) Gl hD' kk hS hg ?_ (cL σ0 6).length 0 0 l12 l13 l14 l15 l16 l17 s t (by omega) (gLs hg) (fun i hi => by rw [bt_zero] at hi; cases hi) hw
  · exact e134
  intro l11 l12 l13 l14 l15 l16 l17 s t hw
  refine lw_E Gl hE kk kk1 (by omega) hS hg ?_ _ _ _ _ _ _ _ s t hw
  intro l13 l14 l15 l16 l17 q sh rf s t hw hq2 hq
  have e408 := lw_F (Dg := cDg σ0 τ 6 pc1 4) (ti := ti) (st := st) (c5 := c5) (dr := dr1) Gl hF' kk1 hw.1 hg hq2 ?_ l13 l14 l15 l16 l17 s t hw hq
  · exact e408
  intro l13 l14 l15 l16 l17 s t hw hq
  have e437 := lw_G (Dg := cDg σ0 τ 6 pc1 4) (ti := ti) (st := st) (c5 := c5) (dr := dr1) Gl hG kk1 hw.1 hg hq2 (fun i hi h690 => lw_H Gl hH kk1 hw.1 hg hq2 hi h690) ?_ l13 l14 l15 l16 l17 s t hw hq
  · exact e437
  intro l12 l13 l14 l15 l16 l17 s t hw
  have h931 : ∀ (c9 c10 : Int32) (i v dr9 : Nat) (l14 l15 l16 l17 : Option Value) (s : zIn) (t : zLo), i < 6 → v < 6 → dr9 ≤ dr1 + 5 → wS (m1 + 1) pc1 dr9 sh rf s t σ0 τ → Gl 931 [some (.ref zS), some (.int (nI ti)), some (.ref 0), some (.ref 1), some (.int (nI st)), some (.int c5), some (.long (cDg σ0 τ 6 pc1 4)), none, some (.int 63), some (.int c9), some (.int c10), some (.ref q), some (.int (nI i)), some (.int (nI v)), l14, l15, l16, l17] [] (a1 + 1, b1 + 16) (m1 + 1, sh, rf, s, t) := by
    intro c9 c10 i v dr9 l14 l15 l16 l17 s t hi hv hd9 hw
    refine lw_N Gl hN kk1 hw.1 hg rfl hi hv ?_ _ _ _ _ s t hw
    intro l14 l15 l16 l17 s t σb hgb hrb h118 h115 hw
    refine lw_M Gl hM kk1 hw.1 hgb (dgEq hgb hg hrb).symm (by rw [hrb 89 (by decide) (by decide)]; exact hk0) h118 h115 hi hv ?_ _ _ _ _ s t hw
    intro l6 l7 l8 l9 l10 l11 l12 l13 l14 l15 l16 l17 s t σ1 hD hI hF hk
    exact h40 _ _ _ _ _ _ _ _ _ _ _ _ _ (m1 + 1) pc1 dr9 (a1 + 1) (b1 + 16) sh rf s t σ1 τ (by omega) (by omega) (by omega) (by omega) (by omega) (by omega) hw.1 hD hI hF hk
  have e696 := lw_I (q := q) (c9 := pGr (σ0 104) (cL σ0 6).length) (Dg := cDg σ0 τ 6 pc1 4) (ti := ti) (st := st) (c5 := c5) (dr := dr1) Gl hI' kk1 hw.1 hg (by omega) ?_ ?_ l12 l13 l14 l15 l16 l17 s t hw
  · exact e696
  · intro c10 i v l14 l15 l16 l17 s t hi hv hneg hw
    refine lw_J Gl hJ kk1 hw.1 hg (by omega) hi hv hneg ?_ _ _ _ _ s t hw
    intro c14 c15 l16 l17 s t hw
    refine lw_K Gl hK kk1 hw.1 hg hi hv hneg ?_ _ _ s t hw
    intro l16 l17 s t hw
    exact h931 _ c10 i v _ _ _ _ _ s t hi hv (by omega) hw
  · intro c10 i v l14 l15 l16 l17 s t hi hv hneg hw
    exact h931 _ c10 i v _ _ _ _ _ s t hi hv (by omega) hw

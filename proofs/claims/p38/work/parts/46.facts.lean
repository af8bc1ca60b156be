/-! ===== the law: facts of what was found ===== -/
theorem sh6d : ∀ j, j < 64 → ∀ v, v < 6 → nI j >>> (nI v &&& 31) - nI j >>> (nI v &&& 31) / 2 * 2 = if bt (nI j) v = true then 1 else 0 := by decide +kernel
theorem m6 {x : Int32} (h : ∀ i, bt x i = true → i < 6) : ∃ j, j < 64 ∧ x = nI j := by
  refine ⟨x.toBitVec.toNat, ?_, ?_⟩
  · refine Nat.lt_pow_two_of_testBit (n := 6) _ (fun i hi => ?_)
    cases hb : x.toBitVec.toNat.testBit i with
    | false => rfl
    | true => exact absurd (h i hb) (by omega)
  · refine Int32.toBitVec_inj.mp ?_
    show x.toBitVec = BitVec.ofNat 32 _
    rw [BitVec.ofNat_toNat, BitVec.setWidth_eq]
theorem sh6 {x : Int32} (h : ∀ i, bt x i = true → i < 6) {v : Nat} (hv : v < 6) : (bt x v = true ∧ x >>> (nI v &&& 31) - x >>> (nI v &&& 31) / 2 * 2 = 1) ∨ (bt x v = false ∧ x >>> (nI v &&& 31) - x >>> (nI v &&& 31) / 2 * 2 = 0) := by
  obtain ⟨j, hj, rfl⟩ := m6 h
  have := sh6d j hj v hv
  cases hb : bt (nI j) v with
  | true =>
    rw [hb, if_pos rfl] at this
    exact Or.inl ⟨rfl, this⟩
  | false =>
    rw [hb, if_neg (by decide)] at this
    exact Or.inr ⟨rfl, this⟩
theorem full6d : ∀ j, j < 64 → (∀ v, v < 6 → bt (nI j) v = true) → nI j = 63 := by decide +kernel
theorem full6 {x : Int32} (h1 : ∀ v, v < 6 → bt x v = true) (h2 : ∀ i, bt x i = true → i < 6) : x = 63 := by
  obtain ⟨j, hj, rfl⟩ := m6 h2
  exact full6d j hj h1
theorem qT {σ0 σ : zIn} (hq : cTq σ0 σ) : pTc σ = pTc σ0 := by
  funext k w
  unfold pTc
  rw [hq 97 (by decide) (by decide), hq 99 (by decide) (by decide), hq 104 (by decide) (by decide), hq 105 (by decide) (by decide)]
theorem qL {σ0 σ : zIn} (hq : cTq σ0 σ) : cL σ 6 = cL σ0 6 := cL_cg (fun r _ hr => hq r (by omega) (by omega))
abbrev lR (σ : zIn) : Nat → Int32 := pRe 6 (σ 88) (σ 85)
theorem cirF {σ : zIn} {τ : zLo} {pc k w : Nat} (h : gS σ τ 6 pc 4) (hk : k < (cL σ 6).length) (hw : (cL σ 6).getD k 0 = w) : pTc σ k 0 = pCi 6 (lR σ) w ∧ pTc σ k 1 = (if bt (lR σ w) w = true then 1 else 0) ∧ ∃ t, t ≤ 40 ∧ pTc σ k 2 = nI t ∧ (bt (lR σ w) w = false → t = 0) ∧ (pTc σ k 3 = 0 ∨ (pTc σ k 3 = 1 ∧ t = 40 ∧ bt (lR σ w) w = true)) := by
  obtain ⟨-, -, ho⟩ := gS_or h
  obtain ⟨-, hs⟩ := gS_so h
  obtain ⟨-, o97, o99⟩ := ho k hk
  obtain ⟨s4, s5⟩ := hs k hk
  have hw' : (pOr 6 (pRe 6 (σ 88) (σ 85))).getD k 0 = w := hw
  rw [hw'] at o97 o99
  rw [hw] at s4 s5
  have hT := pSc_T (n := 6) (R := lR σ) (G := zMG σ) (S := σ 89) (v := w) (A := cF σ 6 (σ 89))
  obtain ⟨⟨t, ht, et⟩, h00, h3⟩ := hT
  refine ⟨o97, ?_, t, ht, s4.trans et, fun hr => ?_, ?_⟩
  · show (if σ 99 k = 0 then (0 : Int32) else 1) = _
    rw [o99]
    cases hb : bt (pRe 6 (σ 88) (σ 85) w) w with
    | true => rfl
    | false => rfl
  · have := h00 hr
    rw [this] at et
    exact ((nI_eq (by omega) (by omega)).mp et.symm)
  · show (if σ 105 k = 0 then (0 : Int32) else 1) = 0 ∨ ((if σ 105 k = 0 then (0 : Int32) else 1) = 1 ∧ _)
    rw [s5]
    rcases h3 with q | ⟨q1, q2, q3⟩
    · rw [q]
      exact Or.inl rfl
    · rw [q1]
      refine Or.inr ⟨rfl, ?_, q3⟩
      rw [et] at q2
      exact (nI_eq (by omega) (by omega)).mp q2
theorem worF {σ : zIn} {τ : zLo} {pc v f : Nat} (h : gS σ τ 6 pc 4) (hv : v < 6) (hl : v ∈ cL σ 6) (hf : σ 88 v = nI f) (hf6 : f < 60) (hnr : bt (lR σ v) v = false) (hb : ¬ σ 103 v = zBRK) : pW (zPT σ) (σ 103) f = σ 103 v := by
  have hW := h.1.2.1
  obtain ⟨k3, -⟩ := gS_so h
  have hn : ¬ σ 88 v < 0 := by rw [hf]; exact nI_pos (by omega)
  have e := pF_form hW (σ 89) (v := v) hl hn hnr (by show ¬ cF σ 6 (σ 89) v = zBRK; rw [← k3 v hv]; exact hb)
  have e' : cF σ 6 (σ 89) v = pW (zPT σ) (cF σ 6 (σ 89)) (σ 88 v).toNatClampNeg := e
  rw [k3 v hv, e', hf, nI_clamp (by omega)]
  have hd := pWf_dep hW hv hn (A1 := σ 103) (A2 := cF σ 6 (σ 89)) (fun u hu => k3 u ((pWf_tr hW).2 v hv u hu))
  have hd' : pW (zPT σ) (σ 103) (σ 88 v).toNatClampNeg = pW (zPT σ) (cF σ 6 (σ 89)) (σ 88 v).toNatClampNeg := hd
  rw [hf, nI_clamp (by omega)] at hd'
  exact hd'
theorem leF {σ : zIn} {τ : zLo} {pc v : Nat} (h : gS σ τ 6 pc 4) (hv : v < 6) : σ 95 v = pLe (σ 88) (σ 85) v := ((gS_or h).1 v hv).1
theorem leS {σ : zIn} {τ : zLo} {pc v : Nat} (h : gS σ τ 6 pc 4) (hv : v < 6) : ∀ u, bt (pLe (σ 88) (σ 85) v) u = true → bt (lR σ v) u = true := fun u hu => pWa_mono 6 _ 6 (Nat.le_refl 6) v hv u hu
theorem le6 {σ : zIn} {τ : zLo} {pc v : Nat} (h : gS σ τ 6 pc 4) (hv : v < 6) : ∀ u, bt (pLe (σ 88) (σ 85) v) u = true → u < 6 := pWf_le h.1.2.1 v hv
theorem gLs {σ : zIn} {τ : zLo} {pc : Nat} (h : gS σ τ 6 pc 4) : pLs 6 (lR σ) 0 (cL σ 6) := by
  have hT : pTr 6 (pRe 6 (σ 88) (σ 85)) := pWf_tr (G := zMG σ) h.1.2.1
  unfold cL lR
  exact pOr_ok (by decide) hT
theorem dropL {L : List Nat} {k w : Nat} (hk : k < L.length) (hw : L.getD k 0 = w) : L.drop k = w :: L.drop (k + 1) := by
  rw [List.drop_eq_getElem_cons hk]
  congr 1
  rw [← hw, List.getD_eq_getElem?_getD, List.getElem?_eq_getElem hk]
  rfl
theorem ci6 {R : Nat → Int32} {w : Nat} (hw : w < 6) : ∀ i, bt (pCi 6 R w) i = true → i < 6 := fun i hi => by
  rcases ((pCi_iff (by omega) (by decide)).mp hi).1 with q | q
  · omega
  · exact q.1
theorem and0 {a b : Int32} (h : ∀ u, bt a u = true → bt b u = false) : a &&& b = 0 := bt_ext fun i hi => by
  rw [bt_and, bt_zero]
  cases ha : bt a i with
  | false => rfl
  | true => rw [h i ha]; rfl
theorem leanIn {σ : zIn} {τ : zLo} {pc v w : Nat} {come : Int32} (h : gS σ τ 6 pc 4) (hv : v < 6) (hw : w < 6) (hm : bt (pCi 6 (lR σ) w) v = true) (hin : ∀ u, bt (lR σ w) u = true → bt (pCi 6 (lR σ) w) u = true ∨ bt come u = true) : pLe (σ 88) (σ 85) v &&& ((come ||| pCi 6 (lR σ) w) ^^^ -1) = 0 := by
  refine and0 (fun u hu => ?_)
  have h6 := le6 h hv u hu
  have hR := leS h hv u hu
  rw [bt_not (by omega), bt_or]
  have hwu : bt (lR σ w) u = true := by
    rcases ((pCi_iff (by omega) (by decide)).mp hm).2 with z | z
    · exact (pWf_tr h.1.2.1).1 w hw v hv u z hR
    · rw [z] at hR
      exact hR
  rcases hin u hwu with q | q
  · rw [q, Bool.or_true]; rfl
  · rw [q]; rfl
theorem wS_f {m pc dr : Nat} {sh : zSh} {rf : zRf} {s : zIn} {t : zLo} {σ0 : zIn} {τ : zLo} (h : wS m pc dr sh rf s t σ0 τ) : s 0 5 = nI 6 ∧ ∀ v, v < 6 → s (129 + v) 1 = σ0 88 v ∧ s (129 + v) 2 = σ0 89 v := by
  obtain ⟨-, σ, hD, hq⟩ := h
  refine ⟨hD.2.1.2.2.1, fun v hv => ?_⟩
  rw [(hD.2.2.2 v hv).2.1, (hD.2.2.2 v hv).2.2, hq 88 (by decide) (by decide), hq 89 (by decide) (by decide)]
  exact ⟨rfl, rfl⟩
theorem ge_k {σ : zIn} {k t : Nat} (h : pTc σ k 2 = nI t) : σ 104 k = nI t := h

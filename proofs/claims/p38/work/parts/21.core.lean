/-! ===== what holds of a model's cells ===== -/
def cF (σ : zIn) (n : Nat) (S : Nat → Int32) : Nat → Int32 := pF n (pRe n (σ 88) (σ 85)) (zMG σ) S
def cL (σ : zIn) (n : Nat) : List Nat := pOr n (pRe n (σ 88) (σ 85))
def fSh (x : Int32) : Int32 := if x = zBRK then 0 else x
def cI (σ : zIn) (τ : zLo) (n pc un : Nat) : Prop := cTu σ τ n pc ∧ pWf n pc (σ 85) (zMG σ) ∧ (σ 17 10 = nI pc ∧ σ 1 3 = nI un ∧ un ≤ 12) ∧ (∀ v, v < n → (∃ u, σ 87 v = nI u ∧ u < un) ∧ kp (σ 89 v)) ∧ (∀ u, u < un → (1 ≤ (σ 15 u).toInt ∧ (σ 15 u).toInt ≤ 100000) ∧ (1 ≤ (σ 16 u).toInt ∧ (σ 16 u).toInt ≤ 100000)) ∧ (∀ u, u < 16 → kb (σ 103 u)) ∧ ∀ f, f < pc → ∀ k, bL (τ 84 f) k = true → k ≤ f
theorem cI_nz {σ : zIn} {τ : zLo} {n pc un : Nat} (h : cI σ τ n pc un) : ∀ v, v < n → ∃ u, σ 87 v = nI u ∧ u < 12 ∧ ¬ (σ 16 u).toInt64 = 0 := fun v hv => by
  obtain ⟨⟨u, hu, hun⟩, -⟩ := h.2.2.2.1 v hv
  have h12 := h.2.2.1.2.2
  refine ⟨u, hu, by omega, zl_ne0 fun q => ?_⟩
  have := (h.2.2.2.2.1 u hun).2.1
  rw [q] at this
  exact absurd this (by decide)
theorem cI_f60 {σ : zIn} {τ : zLo} {n pc un : Nat} (h : cI σ τ n pc un) : ∀ v, v < n → ¬ σ 88 v < 0 → ∃ f, σ 88 v = nI f ∧ f < 60 := fun v hv hf => by
  obtain ⟨f, h1, h2⟩ := h.1.2.2.2.2.1 v hv hf
  have := h.1.2.2.1
  exact ⟨f, h1, by omega⟩
def cSo (σ : zIn) (n : Nat) : Prop := (∀ u, u < n → σ 103 u = cF σ n (σ 89) u) ∧ ∀ j, j < (cL σ n).length → σ 104 j = (pSc n (pRe n (σ 88) (σ 85)) (zMG σ) (σ 89) ((cL σ n).getD j 0) (cF σ n (σ 89))).2.1 ∧ σ 105 j = (pSc n (pRe n (σ 88) (σ 85)) (zMG σ) (σ 89) ((cL σ n).getD j 0) (cF σ n (σ 89))).2.2
def sAt (S : Nat → Int32) (i : Nat) (x : Int32) : Nat → Int32 := fun j => if j = i then x else S j
def cUp (σ : zIn) (i : Nat) : Int32 := fKept ((σ 89 i).toInt64 + 1000)
def cDn (σ : zIn) (i : Nat) : Int32 := fKept ((σ 89 i).toInt64 - 1000)
def cMv (σ : zIn) (n v i : Nat) : Prop := σ 88 i < 0 ∧ ¬ fSh (cF σ n (sAt (σ 89) i (cUp σ i)) v) = fSh (cF σ n (sAt (σ 89) i (cDn σ i)) v)
def cMo (σ : zIn) (n : Nat) : Prop := ∀ v, v < n → ∀ i, bt (σ 112 v) i = true ↔ i < n ∧ cMv σ n v i
def cFl (σ : zIn) (n : Nat) : Prop := (σ 0 13 = 0 ∨ (σ 0 13 = 1 ∧ cOr σ n ∧ pFt σ n)) ∧ (σ 0 14 = 0 ∨ (σ 0 14 = 1 ∧ σ 0 13 = 1 ∧ cSo σ n)) ∧ (σ 0 15 = 0 ∨ (σ 0 15 = 1 ∧ σ 0 14 = 1 ∧ cMo σ n))
/-- rows that were told are as they were (who has a fault may be new) -/
theorem cI_cg {σ σ1 : zIn} {τ : zLo} {n pc un : Nat} (H : cI σ τ n pc un) (h : ∀ r, r ≠ 0 → r < 90 → σ1 r = σ r) (h100 : σ1 100 = σ 100) (hk : ∀ u, u < 16 → kb (σ1 103 u)) : cI σ1 τ n pc un := by
  obtain ⟨⟨t1, t2, t3, t4, t5, t6⟩, w, c, v, u, -, p⟩ := H
  have hp := zPT_cg (fun r h1 h2 => h r (by omega) (by omega))
  refine ⟨⟨by rw [h 86 (by decide) (by decide)]; exact t1, t2, t3, ?_, by rw [h 88 (by decide) (by decide)]; exact t5, fun f hf => pIn_cg (fun r h1 h2 => h r (by omega) (by omega)) (t6 f hf)⟩, ?_, ?_, ?_, ?_, hk, p⟩
  · show pNu n pc (zPT σ1, σ1 88, σ1 87, σ1 15, σ1 16, σ1 100 6, σ1 100 7, σ1 90 7)
    rw [hp, h 88 (by decide) (by decide), h100]
    exact t4
  · show pWf n pc (σ1 85) (zPT σ1, σ1 88, σ1 87, σ1 15, σ1 16, σ1 100 6, σ1 100 7, σ1 90 7)
    rw [hp, h 88 (by decide) (by decide), h 85 (by decide) (by decide)]
    exact w
  · rw [h 17 (by decide) (by decide), h 1 (by decide) (by decide)]
    exact c
  · rw [h 87 (by decide) (by decide), h 89 (by decide) (by decide)]
    exact v
  · rw [h 15 (by decide) (by decide), h 16 (by decide) (by decide)]
    exact u
theorem cOr_cg {σ σ1 : zIn} {n : Nat} (H : cOr σ n) (h : ∀ r, r ≠ 0 → r < 100 → σ1 r = σ r) : cOr σ1 n := by
  unfold cOr
  rw [h 88 (by decide) (by decide), h 85 (by decide) (by decide), h 94 (by decide) (by decide), h 95 (by decide) (by decide), h 96 (by decide) (by decide), h 97 (by decide) (by decide), h 98 (by decide) (by decide), h 99 (by decide) (by decide)]
  exact H
theorem pFt_cg {σ σ1 : zIn} {n : Nat} (H : pFt σ n) (h : ∀ r, r ≠ 0 → r < 100 → σ1 r = σ r) : pFt σ1 n := by
  unfold pFt
  rw [h 88 (by decide) (by decide), h 90 (by decide) (by decide), h 91 (by decide) (by decide)]
  exact H
theorem cF_cg {σ σ1 : zIn} {n : Nat} {S : Nat → Int32} (h : ∀ r, r ≠ 0 → r < 101 → σ1 r = σ r) : cF σ1 n S = cF σ n S := by
  have hg : zMG σ1 = zMG σ := by
    unfold zMG
    rw [zPT_cg (fun r h1 h2 => h r (by omega) (by omega)), h 88 (by decide) (by decide), h 87 (by decide) (by decide), h 15 (by decide) (by decide), h 16 (by decide) (by decide), h 100 (by decide) (by decide), h 90 (by decide) (by decide)]
  unfold cF
  rw [hg, h 88 (by decide) (by decide), h 85 (by decide) (by decide)]
theorem zMG_cg0 {σ σ1 : zIn} (h : ∀ r, r ≠ 0 → r < 101 → σ1 r = σ r) : zMG σ1 = zMG σ := by
  unfold zMG
  rw [zPT_cg (fun r h1 h2 => h r (by omega) (by omega)), h 88 (by decide) (by decide), h 87 (by decide) (by decide), h 15 (by decide) (by decide), h 16 (by decide) (by decide), h 100 (by decide) (by decide), h 90 (by decide) (by decide)]
theorem cL_cg {σ σ1 : zIn} {n : Nat} (h : ∀ r, r ≠ 0 → r < 101 → σ1 r = σ r) : cL σ1 n = cL σ n := by
  unfold cL
  rw [h 88 (by decide) (by decide), h 85 (by decide) (by decide)]
theorem cSo_cg {σ σ1 : zIn} {n : Nat} (H : cSo σ n) (h : ∀ r, r ≠ 0 → r < 101 → σ1 r = σ r) (h3 : σ1 103 = σ 103) (h4 : σ1 104 = σ 104) (h5 : σ1 105 = σ 105) : cSo σ1 n := by
  unfold cSo
  rw [cF_cg h, cL_cg h, zMG_cg0 h, h3, h4, h5, h 88 (by decide) (by decide), h 85 (by decide) (by decide), h 89 (by decide) (by decide)]
  exact H
theorem cMv_cg {σ σ1 : zIn} {n v i : Nat} (h : ∀ r, r ≠ 0 → r < 101 → σ1 r = σ r) : cMv σ1 n v i ↔ cMv σ n v i := by
  unfold cMv cUp cDn
  rw [cF_cg h, cF_cg h, h 88 (by decide) (by decide), h 89 (by decide) (by decide)]
theorem cMo_cg {σ σ1 : zIn} {n : Nat} (H : cMo σ n) (h : ∀ r, r ≠ 0 → r < 101 → σ1 r = σ r) (h3 : σ1 112 = σ 112) : cMo σ1 n := by
  intro v hv i
  rw [h3, cMv_cg h]
  exact H v hv i
theorem cFl_cg {σ σ1 : zIn} {n : Nat} (H : cFl σ n) (h : ∀ r, r < 101 → σ1 r = σ r) (h3 : σ1 103 = σ 103) (h4 : σ1 104 = σ 104) (h5 : σ1 105 = σ 105) (h6 : σ1 112 = σ 112) : cFl σ1 n := by
  have h' : ∀ r, r ≠ 0 → r < 101 → σ1 r = σ r := fun r _ hr => h r hr
  have h'' : ∀ r, r ≠ 0 → r < 100 → σ1 r = σ r := fun r _ hr => h r (by omega)
  obtain ⟨a, b, c⟩ := H
  unfold cFl
  rw [h 0 (by decide)]
  exact ⟨a.imp id (fun q => ⟨q.1, cOr_cg q.2.1 h'', pFt_cg q.2.2 h''⟩), b.imp id (fun q => ⟨q.1, q.2.1, cSo_cg q.2.2 h' h3 h4 h5⟩), c.imp id (fun q => ⟨q.1, q.2.1, cMo_cg q.2.2 h' h6⟩)⟩
theorem pSw_hi {n : Nat} {R : Nat → Int32} {G : zMd} {S : Nat → Int32} {W : Int32} (hn : n ≤ 32) : ∀ (l : List Nat) (A : Nat → Int32), (∀ v, v ∈ l → v < n) → ∀ u, n ≤ u → pSw n R G S W l A u = A u
  | [], _, _, _, _ => rfl
  | v :: l, A, h, u, hu => by
    show pSw n R G S W l _ u = A u
    rw [pSw_hi hn l _ (fun w hw => h w (List.mem_cons_of_mem _ hw)) u hu]
    have hv := h v List.mem_cons_self
    split
    · refine pSc_out (by omega) hn ?_
      cases hb : bt (pCi n R v) u with
      | false => rfl
      | true =>
        rcases ((pCi_iff (by omega) hn).mp hb).1 with q | q <;> omega
    · rfl
theorem cL_lt {σ : zIn} {τ : zLo} {n pc un : Nat} (h : cI σ τ n pc un) : ∀ v, v ∈ cL σ n → v < n := fun v hv =>
  (pLs_mem _ _ (pOr_ok h.2.1.1 (pWf_tr h.2.1)) v hv).1
/-- a whole solve makes what is settled right -/
theorem cSo_of {σ σ1 : zIn} {τ : zLo} {n pc un : Nat} (H : cI σ τ n pc un) (h : ∀ r, r ≠ 0 → r < 101 → σ1 r = σ r) (hF : σ1 103 = pSw n (pRe n (σ 88) (σ 85)) (zMG σ) (σ 89) (-1) (pOr n (pRe n (σ 88) (σ 85))) (σ 103))
    (hT : ∀ j, j < (pOr n (pRe n (σ 88) (σ 85))).length → ¬ pCi n (pRe n (σ 88) (σ 85)) ((pOr n (pRe n (σ 88) (σ 85))).getD j 0) &&& -1 = 0 → σ1 104 j = (pSc n (pRe n (σ 88) (σ 85)) (zMG σ) (σ 89) ((pOr n (pRe n (σ 88) (σ 85))).getD j 0) (σ1 103)).2.1 ∧ σ1 105 j = (pSc n (pRe n (σ 88) (σ 85)) (zMG σ) (σ 89) ((pOr n (pRe n (σ 88) (σ 85))).getD j 0) (σ1 103)).2.2) : cSo σ1 n := by
  have hwf := H.2.1
  have hn := hwf.1
  have hA : ∀ u, u < n → σ1 103 u = cF σ n (σ 89) u := fun u hu => by
    rw [hF]
    exact pSw_all hwf (σ 89) (σ 103) u hu
  unfold cSo
  rw [cF_cg h, cL_cg h, zMG_cg0 h, h 88 (by decide) (by decide), h 85 (by decide) (by decide), h 89 (by decide) (by decide)]
  refine ⟨hA, fun j hj => ?_⟩
  have hm : (cL σ n).getD j 0 ∈ cL σ n := by
    rw [List.getD_eq_getElem?_getD, List.getElem?_eq_getElem hj]
    exact List.getElem_mem hj
  have hv := cL_lt H _ hm
  have hv32 : (cL σ n).getD j 0 < 32 := Nat.lt_of_lt_of_le hv hn
  have h9 := hT j hj (bt_and_ne (pCi_self hv32 hn) (bt_m1 hv32))
  have hag := (pSc_agree hwf (S1 := σ 89) (S2 := σ 89) hv (A1 := σ1 103) (A2 := cF σ n (σ 89)) (fun _ => rfl) (fun u hu _ => hA u ((pWf_tr hwf).2 _ hv u hu))).2
  rw [h9.1, h9.2]
  unfold cL at hag ⊢
  rw [show pRe n (zMG σ).2.1 (σ 85) = pRe n (σ 88) (σ 85) from rfl] at hag
  rw [hag]
  exact ⟨rfl, rfl⟩

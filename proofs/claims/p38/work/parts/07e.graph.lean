/-! ===== sets of variables as bits; what leans on what; the order of the circles ===== -/
def bt (a : Int32) (i : Nat) : Bool := a.toBitVec.getLsbD i
theorem bt_or (a b : Int32) (i : Nat) : bt (a ||| b) i = (bt a i || bt b i) := by
  unfold bt
  rw [Int32.toBitVec_or, BitVec.getLsbD_or]
theorem bt_and (a b : Int32) (i : Nat) : bt (a &&& b) i = (bt a i && bt b i) := by
  unfold bt
  rw [Int32.toBitVec_and, BitVec.getLsbD_and]
theorem bt_zero (i : Nat) : bt 0 i = false := by
  unfold bt
  exact BitVec.getLsbD_zero
theorem bt_ge {a : Int32} {i : Nat} (h : 32 ≤ i) : bt a i = false := by
  unfold bt
  exact BitVec.getLsbD_of_ge _ _ h
theorem bt_ext {a b : Int32} (h : ∀ i, i < 32 → bt a i = bt b i) : a = b := by
  apply Int32.toBitVec_inj.mp
  apply BitVec.eq_of_getLsbD_eq
  intro i hi
  exact h i hi
theorem bt_not {a : Int32} {i : Nat} (h : i < 32) : bt (a ^^^ -1) i = !bt a i := by
  unfold bt
  rw [Int32.toBitVec_xor, BitVec.getLsbD_xor]
  have e : (-1 : Int32).toBitVec.getLsbD i = true := by
    rw [show (-1 : Int32).toBitVec = BitVec.allOnes 32 from rfl, BitVec.getLsbD_allOnes]
    exact decide_eq_true h
  rw [e, Bool.xor_true]
def zone (v : Nat) : Int32 := 1 <<< (nI v &&& 31)
theorem bt_one {v i : Nat} (hv : v < 32) : bt (zone v) i = decide (i = v) := by
  by_cases hi : i < 32
  · have key : ∀ v, v < 32 → ∀ i, i < 32 → bt (zone v) i = decide (i = v) := by decide +kernel
    exact key v hv i hi
  · rw [bt_ge (by omega)]
    exact (decide_eq_false (by omega)).symm
/-- counting -/
def cnt (p : Nat → Bool) : Nat → Nat
  | 0 => 0
  | n + 1 => cnt p n + (if p n = true then 1 else 0)
theorem cnt_le {p q : Nat → Bool} : ∀ (n : Nat), (∀ i, i < n → p i = true → q i = true) → cnt p n ≤ cnt q n
  | 0, _ => Nat.le_refl 0
  | n + 1, h => by
    have ih := cnt_le n (fun i hi => h i (by omega))
    have h1 := h n (by omega)
    unfold cnt
    by_cases hp : p n = true
    · rw [if_pos hp, if_pos (h1 hp)]
      omega
    · rw [if_neg hp]
      omega
theorem cnt_lt {p q : Nat → Bool} : ∀ (n : Nat), (∀ i, i < n → p i = true → q i = true) → (∃ i, i < n ∧ q i = true ∧ ¬ p i = true) → cnt p n < cnt q n
  | 0, _, ⟨i, hi, _⟩ => absurd hi (Nat.not_lt_zero i)
  | n + 1, h, ⟨i, hi, hq, hp⟩ => by
    unfold cnt
    by_cases e : i = n
    · subst e
      have := cnt_le i (fun j hj => h j (by omega))
      rw [if_neg hp, if_pos hq]
      omega
    · have := cnt_lt n (fun j hj => h j (by omega)) ⟨i, by omega, hq, hp⟩
      by_cases hpn : p n = true
      · rw [if_pos hpn, if_pos (h n (by omega) hpn)]
        omega
      · rw [if_neg hpn]
        omega
theorem cnt_pos {p : Nat → Bool} : ∀ (n : Nat), 0 < cnt p n → ∃ i, i < n ∧ p i = true
  | 0, h => absurd h (Nat.lt_irrefl 0)
  | n + 1, h => by
    by_cases hp : p n = true
    · exact ⟨n, by omega, hp⟩
    · unfold cnt at h
      rw [if_neg hp] at h
      obtain ⟨i, hi, hq⟩ := cnt_pos n (by omega)
      exact ⟨i, by omega, hq⟩
theorem cnt_bound {p : Nat → Bool} : ∀ (n : Nat), cnt p n ≤ n
  | 0 => Nat.le_refl 0
  | n + 1 => by
    have := cnt_bound (p := p) n
    unfold cnt
    split <;> omega
/-! what a variable leans on, along ways -/
def pLe (fo pl : Nat → Int32) (v : Nat) : Int32 := if fo v < 0 then 0 else pl (fo v).toNatClampNeg
def pSt (n w : Nat) (r : Nat → Int32) (v : Nat) : Int32 := if v < n ∧ bt (r v) w = true then r v ||| r w else r v
def pWa (n : Nat) (r : Nat → Int32) : Nat → (Nat → Int32)
  | 0 => r
  | w + 1 => pSt n w (pWa n r w)
theorem pSt_iff {n w : Nat} {r : Nat → Int32} {v u : Nat} (hv : v < n) : bt (pSt n w r v) u = true ↔ bt (r v) u = true ∨ (bt (r v) w = true ∧ bt (r w) u = true) := by
  unfold pSt
  by_cases h : bt (r v) w = true
  · rw [if_pos ⟨hv, h⟩, bt_or, Bool.or_eq_true]
    constructor
    · rintro (q | q)
      · exact Or.inl q
      · exact Or.inr ⟨h, q⟩
    · rintro (q | q)
      · exact Or.inl q
      · exact Or.inr q.2
  · rw [if_neg (fun q => h q.2)]
    constructor
    · exact Or.inl
    · rintro (q | q)
      · exact q
      · exact absurd q.1 h
theorem pWa_tr (n : Nat) (r : Nat → Int32) : ∀ w, w ≤ n → ∀ k, k < w → ∀ v, v < n → ∀ u, bt (pWa n r w v) k = true → bt (pWa n r w k) u = true → bt (pWa n r w v) u = true
  | 0, _, k, hk, _, _, _, _, _ => absurd hk (Nat.not_lt_zero k)
  | w + 1, hw, k, hk, v, hv, u, h1, h2 => by
    have ih := pWa_tr n r w (by omega)
    have hkn : k < n := by omega
    have hwn : w < n := by omega
    rw [show pWa n r (w + 1) = pSt n w (pWa n r w) from rfl] at h1 h2 ⊢
    rw [pSt_iff hv] at h1 ⊢
    rw [pSt_iff hkn] at h2
    by_cases e : k = w
    · rw [e] at h1 h2
      exact Or.inr ⟨h1.elim id (fun q => q.1), h2.elim id (fun q => q.2)⟩
    · have hk' : k < w := by omega
      rcases h1 with h1 | h1 <;> rcases h2 with h2 | h2
      · exact Or.inl (ih k hk' v hv u h1 h2)
      · exact Or.inr ⟨ih k hk' v hv w h1 h2.1, h2.2⟩
      · exact Or.inr ⟨h1.1, ih k hk' w hwn u h1.2 h2⟩
      · exact Or.inr ⟨h1.1, h2.2⟩
theorem pWa_mono (n : Nat) (r : Nat → Int32) : ∀ w, w ≤ n → ∀ v, v < n → ∀ u, bt (r v) u = true → bt (pWa n r w v) u = true
  | 0, _, _, _, _, h => h
  | w + 1, hw, v, hv, u, h => (pSt_iff hv).mpr (Or.inl (pWa_mono n r w (by omega) v hv u h))
theorem pWa_lt (n : Nat) (r : Nat → Int32) (hr : ∀ v, v < n → ∀ u, bt (r v) u = true → u < n) : ∀ w, w ≤ n → ∀ v, v < n → ∀ u, bt (pWa n r w v) u = true → u < n
  | 0, _, v, hv, u, h => hr v hv u h
  | w + 1, hw, v, hv, u, h => by
    rcases (pSt_iff hv).mp h with q | q
    · exact pWa_lt n r hr w (by omega) v hv u q
    · exact pWa_lt n r hr w (by omega) w (by omega) u q.2
theorem pWa_zero (n : Nat) (r : Nat → Int32) (v : Nat) (hr : r v = 0) : ∀ w, pWa n r w v = 0
  | 0 => hr
  | w + 1 => by
    show pSt n w (pWa n r w) v = 0
    unfold pSt
    rw [pWa_zero n r v hr w, bt_zero, if_neg (fun q => Bool.noConfusion q.2)]
def pRe (n : Nat) (fo pl : Nat → Int32) : Nat → Int32 := pWa n (pLe fo pl) n
/-! circles -/
def pAb (R : Nat → Int32) (v : Nat) : Nat → Int32
  | 0 => zone v
  | u + 1 => if bt (R u) v = true then pAb R v u ||| zone u else pAb R v u
def pBe (R : Nat → Int32) (v : Nat) : Int32 := R v ||| zone v
def pCi (n : Nat) (R : Nat → Int32) (v : Nat) : Int32 := pAb R v n &&& pBe R v
theorem pAb_iff {R : Nat → Int32} {v : Nat} (hv : v < 32) : ∀ n, n ≤ 32 → ∀ u, bt (pAb R v n) u = true ↔ u = v ∨ (u < n ∧ bt (R u) v = true)
  | 0, _, u => by
    show bt (zone v) u = true ↔ _
    rw [bt_one hv, decide_eq_true_eq]
    constructor
    · exact Or.inl
    · rintro (q | q)
      · exact q
      · exact absurd q.1 (Nat.not_lt_zero u)
  | n + 1, hn, u => by
    have ih := pAb_iff (R := R) hv n (by omega) u
    unfold pAb
    by_cases h : bt (R n) v = true
    · rw [if_pos h, bt_or, Bool.or_eq_true, ih, bt_one (by omega), decide_eq_true_eq]
      constructor
      · rintro ((q | q) | q)
        · exact Or.inl q
        · exact Or.inr ⟨by omega, q.2⟩
        · exact Or.inr ⟨by omega, by rw [q]; exact h⟩
      · rintro (q | q)
        · exact Or.inl (Or.inl q)
        · by_cases e : u = n
          · exact Or.inr e
          · exact Or.inl (Or.inr ⟨by omega, q.2⟩)
    · rw [if_neg h, ih]
      constructor
      · rintro (q | q)
        · exact Or.inl q
        · exact Or.inr ⟨by omega, q.2⟩
      · rintro (q | q)
        · exact Or.inl q
        · by_cases e : u = n
          · rw [e] at q
            exact absurd q.2 h
          · exact Or.inr ⟨by omega, q.2⟩
theorem pBe_iff {R : Nat → Int32} {v u : Nat} (hv : v < 32) : bt (pBe R v) u = true ↔ bt (R v) u = true ∨ u = v := by
  unfold pBe
  rw [bt_or, Bool.or_eq_true, bt_one hv, decide_eq_true_eq]
theorem pCi_iff {n : Nat} {R : Nat → Int32} {v u : Nat} (hv : v < 32) (hn : n ≤ 32) : bt (pCi n R v) u = true ↔ (u = v ∨ (u < n ∧ bt (R u) v = true)) ∧ (bt (R v) u = true ∨ u = v) := by
  unfold pCi
  rw [bt_and, Bool.and_eq_true, pAb_iff hv n hn u, pBe_iff hv]
theorem pCi_self {n : Nat} {R : Nat → Int32} {v : Nat} (hv : v < 32) (hn : n ≤ 32) : bt (pCi n R v) v = true := (pCi_iff hv hn).mpr ⟨Or.inl rfl, Or.inr rfl⟩
/-- what is asked of the ways: closed, and among the variables -/
def pTr (n : Nat) (R : Nat → Int32) : Prop := (∀ v, v < n → ∀ u, u < n → ∀ x, bt (R v) u = true → bt (R u) x = true → bt (R v) x = true) ∧ ∀ v, v < n → ∀ u, bt (R v) u = true → u < n
theorem pRe_tr {n : Nat} {fo pl : Nat → Int32} (hl : ∀ v, v < n → ∀ u, bt (pLe fo pl v) u = true → u < n) : pTr n (pRe n fo pl) :=
  ⟨fun v hv u hu x h1 h2 => pWa_tr n _ n (Nat.le_refl n) u hu v hv x h1 h2, pWa_lt n _ hl n (Nat.le_refl n)⟩
/-- may it come next -/
def pOk (n : Nat) (R : Nat → Int32) (come : Int32) (v : Nat) : Bool := !bt come v && decide (R v &&& (pCi n R v ^^^ -1) &&& (come ^^^ -1) = 0)
theorem pOk_iff {n : Nat} {R : Nat → Int32} {come : Int32} {v : Nat} : pOk n R come v = true ↔ bt come v = false ∧ ∀ u, bt (R v) u = true → bt (pCi n R v) u = true ∨ bt come u = true := by
  unfold pOk
  rw [Bool.and_eq_true, Bool.not_eq_true', decide_eq_true_eq]
  refine and_congr_right fun _ => ⟨fun h u hu => ?_, fun h => bt_ext fun i hi => ?_⟩
  · have hu32 : u < 32 := Nat.lt_of_not_le fun q => by rw [bt_ge q] at hu; cases hu
    have := congrArg (fun a => bt a u) h
    simp only [bt_and, bt_not hu32, bt_zero, hu, Bool.true_and] at this
    cases h1 : bt (pCi n R v) u with
    | true => exact Or.inl rfl
    | false =>
      cases h2 : bt come u with
      | true => exact Or.inr rfl
      | false => rw [h1, h2] at this; cases this
  · rw [bt_and, bt_and, bt_not hi, bt_not hi, bt_zero]
    cases hb : bt (R v) i with
    | false => rfl
    | true =>
      rcases h i hb with q | q
      · rw [q]; rfl
      · rw [q]
        cases bt (pCi n R v) i <;> rfl
/-- closed under what is leaned on -/
def pCl (n : Nat) (R : Nat → Int32) (come : Int32) : Prop := ∀ v, v < n → bt come v = true → ∀ u, bt (R v) u = true → bt come u = true
theorem pOk_ex {n : Nat} {R : Nat → Int32} (hn : n ≤ 32) (hR : pTr n R) {come : Int32} (hc : pCl n R come) : ∀ (m v : Nat), v < n → bt come v = false → cnt (fun u => bt (pBe R v) u && !bt come u) n ≤ m → ∃ w, w < n ∧ pOk n R come w = true
  | 0, v, hv, hcv, hm => by
    have : 0 < cnt (fun u => bt (pBe R v) u && !bt come u) n := by
      have h := cnt_lt (p := fun _ => false) (q := fun u => bt (pBe R v) u && !bt come u) n (fun i _ q => Bool.noConfusion q) ⟨v, hv, by
        have := (pBe_iff (R := R) (v := v) (u := v) (by omega)).mpr (Or.inr rfl)
        simp [this, hcv], Bool.false_ne_true⟩
      omega
    omega
  | m + 1, v, hv, hcv, hm => by
    by_cases hall : ∀ u, bt (R v) u = true → bt (pCi n R v) u = true ∨ bt come u = true
    · exact ⟨v, hv, pOk_iff.mpr ⟨hcv, hall⟩⟩
    · obtain ⟨u, hu⟩ := Classical.not_forall.mp hall
      have hu1 : bt (R v) u = true := Classical.byContradiction fun q => hu (fun z => absurd z q)
      have hu2 : ¬ (bt (pCi n R v) u = true ∨ bt come u = true) := fun q => hu (fun _ => q)
      have hun : u < n := hR.2 v hv u hu1
      have hcu : bt come u = false := by
        cases h : bt come u with
        | false => rfl
        | true => exact absurd (Or.inr h) hu2
      have hnr : ¬ bt (R u) v = true := fun q => hu2 (Or.inl ((pCi_iff (by omega) hn).mpr ⟨Or.inr ⟨hun, q⟩, Or.inl hu1⟩))
      refine pOk_ex hn hR hc m u hun hcu ?_
      have hlt := cnt_lt (p := fun x => bt (pBe R u) x && !bt come x) (q := fun x => bt (pBe R v) x && !bt come x) n (fun x hx q => by
        simp only [Bool.and_eq_true] at q ⊢
        refine ⟨?_, q.2⟩
        rcases (pBe_iff (by omega)).mp q.1 with z | z
        · exact (pBe_iff (by omega)).mpr (Or.inl (hR.1 v hv u hun x hu1 z))
        · exact (pBe_iff (by omega)).mpr (Or.inl (by rw [z]; exact hu1))) ⟨v, hv, by
          have := (pBe_iff (R := R) (v := v) (u := v) (by omega)).mpr (Or.inr rfl)
          simp [this, hcv], fun q => by
          simp only [Bool.and_eq_true] at q
          rcases (pBe_iff (by omega)).mp q.1 with z | z
          · exact hnr z
          · rw [← z] at hnr
            rw [← z] at hu1
            exact hnr hu1⟩
      omega
/-- the first that may come, from v on -/
def pNx (n : Nat) (R : Nat → Int32) (come : Int32) : Nat → Nat → Option Nat
  | 0, _ => none
  | f + 1, v => if pOk n R come v = true then some v else pNx n R come f (v + 1)
theorem pNx_some {n : Nat} {R : Nat → Int32} {come : Int32} : ∀ (f v w : Nat), pNx n R come f v = some w → v ≤ w ∧ w < v + f ∧ pOk n R come w = true
  | 0, _, _, h => by cases h
  | f + 1, v, w, h => by
    unfold pNx at h
    by_cases e : pOk n R come v = true
    · rw [if_pos e] at h
      cases h
      exact ⟨Nat.le_refl v, by omega, e⟩
    · rw [if_neg e] at h
      obtain ⟨h1, h2, h3⟩ := pNx_some f (v + 1) w h
      exact ⟨by omega, by omega, h3⟩
theorem pNx_none {n : Nat} {R : Nat → Int32} {come : Int32} : ∀ (f v : Nat), pNx n R come f v = none → ∀ w, v ≤ w → w < v + f → ¬ pOk n R come w = true
  | 0, _, _, w, h1, h2 => by omega
  | f + 1, v, h, w, h1, h2 => by
    unfold pNx at h
    by_cases e : pOk n R come v = true
    · rw [if_pos e] at h
      cases h
    · rw [if_neg e] at h
      by_cases ew : w = v
      · rw [ew]
        exact e
      · exact pNx_none f (v + 1) h w (by omega) (by omega)
/-- the circles' lowest variables, in their order -/
def pAr (n : Nat) (R : Nat → Int32) : Nat → Int32 → List Nat
  | 0, _ => []
  | k + 1, come => match pNx n R come n 0 with
    | none => []
    | some v => v :: pAr n R k (come ||| pCi n R v)
def pOr (n : Nat) (R : Nat → Int32) : List Nat := pAr n R n 0
/-- what holds of a list of circles from what has come on -/
def pLs (n : Nat) (R : Nat → Int32) : Int32 → List Nat → Prop
  | come, [] => ∀ v, v < n → bt come v = true
  | come, v :: l => v < n ∧ bt come v = false ∧ (∀ u, bt (R v) u = true → bt (pCi n R v) u = true ∨ bt come u = true) ∧ (∀ u, bt (pCi n R v) u = true → bt come u = false) ∧ pLs n R (come ||| pCi n R v) l
theorem pCl_next {n : Nat} {R : Nat → Int32} (hn : n ≤ 32) (hR : pTr n R) {come : Int32} (hc : pCl n R come) {v : Nat} (hv : v < n) (hs : ∀ u, bt (R v) u = true → bt (pCi n R v) u = true ∨ bt come u = true) : pCl n R (come ||| pCi n R v) := by
  intro x hx h u hu
  rw [bt_or, Bool.or_eq_true] at h ⊢
  rcases h with h | h
  · exact Or.inl (hc x hx h u hu)
  · rcases ((pCi_iff (by omega) hn).mp h).2 with z | z
    · exact (hs u (hR.1 v hv x hx u z hu)).symm
    · rw [z] at hu
      exact (hs u hu).symm
theorem pCi_new {n : Nat} {R : Nat → Int32} (hn : n ≤ 32) {come : Int32} (hc : pCl n R come) {v : Nat} (hv : v < n) (hcv : bt come v = false) : ∀ u, bt (pCi n R v) u = true → bt come u = false := by
  intro u hu
  cases h : bt come u with
  | false => rfl
  | true =>
    rcases ((pCi_iff (by omega) hn).mp hu).1 with z | z
    · rw [z, hcv] at h
      cases h
    · have := hc u z.1 h v z.2
      rw [hcv] at this
      cases this
theorem pAr_ok {n : Nat} {R : Nat → Int32} (hn : n ≤ 32) (hR : pTr n R) : ∀ (k : Nat) (come : Int32), pCl n R come → cnt (fun u => !bt come u) n ≤ k → pLs n R come (pAr n R k come)
  | 0, come, _, hk => by
    intro v hv
    cases h : bt come v with
    | true => rfl
    | false =>
      have := cnt_lt (p := fun _ => false) (q := fun u => !bt come u) n (fun i _ q => Bool.noConfusion q) ⟨v, hv, by simp [h], Bool.false_ne_true⟩
      omega
  | k + 1, come, hc, hk => by
    unfold pAr
    cases hx : pNx n R come n 0 with
    | none =>
      intro v hv
      cases h : bt come v with
      | true => rfl
      | false =>
        obtain ⟨w, hw, hok⟩ := pOk_ex hn hR hc _ v hv h (Nat.le_refl _)
        exact absurd hok (pNx_none n 0 hx w (Nat.zero_le w) (by omega))
    | some v =>
      obtain ⟨-, h2, h3⟩ := pNx_some n 0 v hx
      have hv : v < n := by omega
      obtain ⟨hcv, hs⟩ := pOk_iff.mp h3
      refine ⟨hv, hcv, hs, pCi_new hn hc hv hcv, pAr_ok hn hR k _ (pCl_next hn hR hc hv hs) ?_⟩
      have := cnt_lt (p := fun u => !bt (come ||| pCi n R v) u) (q := fun u => !bt come u) n (fun i _ q => by
        rw [bt_or] at q
        cases h : bt come i with
        | false => rfl
        | true => rw [h] at q; cases q) ⟨v, hv, by simp [hcv], fun q => by
        rw [bt_or, pCi_self (by omega) hn, Bool.or_true] at q
        cases q⟩
      omega
theorem pOr_ok {n : Nat} {R : Nat → Int32} (hn : n ≤ 32) (hR : pTr n R) : pLs n R 0 (pOr n R) :=
  pAr_ok hn hR n 0 (fun v _ h => by rw [bt_zero] at h; cases h) (cnt_bound n)

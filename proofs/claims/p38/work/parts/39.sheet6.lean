/-! ===== a new sheet ===== -/
section ZQE
variable {l : Launch} {D : va_G} {cA : Nat → ClassId}
theorem zct_QE {X : Bool} {y : MethodName} {b : ByteArray} {n : Nat} {ret : Option FieldType} {rm : Room} {Y : Type} {A : Y → List Value} {M : Y → zM} {P : Y → Prop} {Qm : Y → Option Value → zM → Prop} (C : zC) (ps : List (Nat × Nat)) (cuts : List Nat) (hy : plainName y.cls = true) (htab : C.1.all (zck y.cls ps b n C) = true) (hini : y.name = "<init>" ∨ C.1.all (zpf C) = true) (hkr : zkr C.2.2.2.2.2.2 ret) (hnt : C.2.2.2.2.2.1.all (fun q => Nat.blt q.1 99999) = true ∧ C.2.2.1.all (fun q => Nat.blt q.1 299999) = true)
    (hn : ∀ x ad, (lg_sl ((A x).map (zc ad))).length ≤ n)
    (hcalls : ∀ {p : Program} {e : Env} {s : State} {m : MethodId} {args : Array Value} {below : List Frame} {meth : Method} {c : Code} {A : Nat → Prop} {H0 : Heap} {ad0 : Nat → Nat} {n0 : Nat} {Q : State → Prop}, zFx p s m args c b D cA y.cls → c.maxLocals = n → zNOk s → (∀ q, H0.size ≤ q → A q) → zHX X A H0 ad0 s → zCalls (zG p l e rm s m args below meth c n D cA A H0 ad0 n0 Q) (zGX p l e rm s m args below meth c n D cA A H0 ad0 n0 Q) rm b C.2.2.2.2.1)
    (body : ∀ (x : Y) (Ret : Option Value → zM → Prop), P x → (∀ r μ1, Qm x r μ1 → Ret r μ1) → ∀ Gl : zK, (∀ f pc ll st κ μ, zrun C (rm.cells, rm.slots) cuts Gl Ret (f + 1) pc ll st κ μ → Gl pc ll st κ μ) → (∀ pc ll st κ μ μ1, zsame μ μ1 → Gl pc ll st κ μ1 → Gl pc ll st κ μ) → Gl 0 (zent n (A x)) [] (0, 0) (M x)) : zCt X l D cA y b n ret rm (zDQ A M P Qm) := by
  refine zct_ofE (C := C) (ps := ps) (cuts := cuts) zDQ_mono hy htab hini hkr hnt ?_ hcalls ?_
  · rintro av μ K ⟨x, rfl, -⟩ ad
    exact hn x ad
  · rintro av μ Ret ⟨x, rfl, rfl, h3, h4⟩ Gl hG hE
    exact body x Ret h3 h4 Gl hG hE
end ZQE
abbrev spJX7_init : zSp := zlift 1 spX7_init
theorem ctJX7_init (l : Launch) (D : va_G) (cA : Nat → ClassId) : zCt false l D cA yX7_init cX7_init 2 none rmX7_init spJX7_init := zct_lift 1 (ctX7_init l D cA)
/-- a sheet's cells behind its model's making -/
def nSh : zSh := fun k => if k = 0 then (8, 0) else if k < 120 then zSH (k - 1) else (999, 0)
def nRf : zRf := fun k => if k = 0 then fun _ => none else fun j => (zRH (k - 1) j).map (1 + ·)
def nIn : zIn := fun k => if k = 0 then fun _ => 0 else zs0 (k - 1)
def nLo : zLo := fun _ _ => 0
theorem nSh_p {k : Nat} (e : ¬ k = 0) (h : k < 120) : nSh k = zSH (k - 1) := by
  unfold nSh
  rw [if_neg e, if_pos h]
theorem nRf_p {k : Nat} (e : ¬ k = 0) (j : Nat) : nRf k j = (zRH (k - 1) j).map (1 + ·) := by
  unfold nRf
  rw [if_neg e]
theorem nIn_p {k : Nat} (e : ¬ k = 0) : nIn k = zs0 (k - 1) := by
  unfold nIn
  rw [if_neg e]
theorem zBs_r0 {sh : zSh} {rf : zRf} {j : Nat} {x : Option Nat} (h : zBs sh rf) : zBs sh (zuR rf 0 j x) := fun k hk => by
  rw [zuR_ne (by omega)]
  exact h k hk
theorem zBc_new {s s1 : zIn} {t t1 : zLo} {σ : zIn} {τ : zLo} {m : Nat} (h : zBc s t σ τ) (hm : 120 ≤ m) (e1 : ∀ r, r ≠ m → s1 r = s r) (e2 : ∀ r, r ≠ m → t1 r = t r) : zBc s1 t1 σ τ := fun k hk => by
  rw [e1 (1 + k) (by omega), e2 (1 + k) (by omega)]
  exact h k hk
/-- what stands in a sheet that is being made -/
def nB (sh : zSh) (rf : zRf) (s : zIn) (t : zLo) : Prop := zBs sh rf ∧ zBc s t zs0 zt0 ∧ (sh zS).1 = 999 ∧ sh 0 = (8, 0) ∧ rf 0 0 = some 1 ∧ s 0 3 = 1 ∧ s 0 5 = 0 ∧ s 0 7 = 0 ∧ s 0 9 = 0
theorem nB_new {sh : zSh} {rf : zRf} {s : zIn} {t : zLo} {m : Nat} {x : Nat × Nat} (h : nB sh rf s t) (hm : 120 ≤ m) (hm2 : m < 100000) : nB (zuS sh m x) (zrowR rf m (fun _ => none)) (zrow s m (fun _ => 0)) (zrowL t m (fun _ => 0)) := by
  obtain ⟨a, b, c, d, e, f⟩ := h
  refine ⟨zBs_new a hm zuS_ne (fun j hj => if_neg hj), zBc_new b hm (fun r hr => zrow_ne hr) (fun r hr => if_neg hr), ?_, (zuS_ne 0 (by omega)).trans d, ?_, ?_⟩
  · rw [zuS_ne zS (by unfold zS; omega)]
    exact c
  · rw [show zrowR rf m (fun _ => none) 0 = rf 0 from if_neg (by omega)]
    exact e
  · rw [zrow_ne (by omega)]
    exact f
theorem nB_r {sh : zSh} {rf : zRf} {s : zIn} {t : zLo} {j : Nat} {x : Option Nat} (h : nB sh rf s t) (hj : j ≠ 0) : nB sh (zuR rf 0 j x) s t :=
  ⟨zBs_r0 h.1, h.2.1, h.2.2.1, h.2.2.2.1, (zuR_ne2 hj.symm).trans h.2.2.2.2.1, h.2.2.2.2.2⟩
theorem nB_u {sh : zSh} {rf : zRf} {s : zIn} {t : zLo} {j : Nat} {x : Int32} (h : nB sh rf s t) (h3 : j ≠ 3) (h5 : j ≠ 5) (h7 : j ≠ 7) (h9 : j ≠ 9) : nB sh rf (zu s 0 j x) t := by
  obtain ⟨a, b, c, d, e, f3, f5, f7, f9⟩ := h
  exact ⟨a, zBc_zu (Or.inl rfl) b, c, d, e, (zu_ne2 h3.symm).trans f3, (zu_ne2 h5.symm).trans f5, (zu_ne2 h7.symm).trans f7, (zu_ne2 h9.symm).trans f9⟩
theorem zR0 {rf : zRf} {m : Nat} {f : Nat → Option Nat} (hm : 120 ≤ m) : zrowR rf m f 0 = rf 0 := if_neg (by omega)
theorem cI_zs0 : cI zs0 zt0 0 0 1 := by
  refine ⟨⟨rfl, by decide, by decide, ⟨fun k hk => absurd hk (Nat.not_lt_zero k), fun k hk => absurd hk (Nat.not_lt_zero k), fun v hv => absurd hv (Nat.not_lt_zero v), by decide⟩, fun v hv => absurd hv (Nat.not_lt_zero v), fun f hf => absurd hf (Nat.not_lt_zero f)⟩, ⟨by decide, fun k hk => absurd hk (Nat.not_lt_zero k), fun v hv => absurd hv (Nat.not_lt_zero v), fun k hk => absurd hk (Nat.not_lt_zero k)⟩, ⟨rfl, rfl, by decide⟩, fun v hv => absurd hv (Nat.not_lt_zero v), fun u hu => ?_, fun u _ => Or.inl kp0, fun f hf => absurd hf (Nat.not_lt_zero f)⟩
  rw [show u = 0 by omega]
  decide
def spX8_init : zSp := zDQ (X := zSh × zRf × zIn × zLo × Nat) (fun x => match x with | (sh, rf, s, t, dr) => [.ref 0, .ref zS, .int (nI dr)]) (fun x => match x with | (sh, rf, s, t, dr) => znew (0, sh, rf, s, t) (8, 0)) (fun x => match x with | (sh, rf, s, t, dr) => (sh zS).1 = 999) (fun x r9 μ9 => match x with | (sh, rf, s, t, dr) => r9 = none ∧ ∃ (sh1 : zSh) (rf1 : zRf) (s1 : zIn) (t1 : zLo), μ9 = (126, sh1, rf1, s1, t1) ∧ lS 126 1 0 sh1 rf1 ∧ lD 1 0 0 dr s1 t1 zs0 zt0)
abbrev rmX8_init : Room := ({ frames := 3, cells := 220, slots := 6400, locals := 72 } : Room)
set_option maxRecDepth 100000 in
set_option maxHeartbeats 4000000 in
theorem ctX8_init (l : Launch) (D : va_G) (cA : Nat → ClassId) : zCt false l D cA yX8_init cX8_init 4 (none) rmX8_init spX8_init := by
  refine zct_QE (zCX8_init [(1, 2, 0, spObj, 0, 0), (9, 2, 0, spJX7_init, rmX7_init.cells, rmX7_init.slots)]) zpX8_init [12, 26, 35, 44, 58, 67, 84] (by decide +kernel) zkX8_init (Or.inl rfl) trivial ⟨by decide +kernel, by decide +kernel⟩ (fun x ad => Nat.le_of_ble_eq_true rfl) ?_ ?_
  · intro p e s m args below meth c A H0 ad0 n0 Q F hml hNw hA hX
    exact ⟨zco_obj F hml ⟨zlX8_init_1, zlib_obj⟩ ⟨Nat.le_of_ble_eq_true rfl, Nat.le_of_ble_eq_true rfl⟩, zco_I hX hA F hml hNw (ctJX7_init l D cA) ⟨⟨zlX8_init_9, zwX7_init.1.1, zwX7_init.1.2⟩, zwX7_init.2⟩ zdX7_init ⟨Nat.le_of_ble_eq_true rfl, Nat.le_of_ble_eq_true rfl⟩ (by rintro av μ K ⟨avr, μr, rfl, -, -, x, rfl, -⟩; exact ⟨_, _, rfl⟩), trivial⟩
  · rintro ⟨sh, rf, s, t, dr⟩ Ret hP hK Gl hG hE
    try dsimp only at hP hK
    show Gl 0 (zent 4 [.ref 0, .ref zS, .int (nI dr)]) [] (0, 0) (znew (0, sh, rf, s, t) (8, 0))
    have h84 : ∀ (sh : zSh) (rf : zRf) (s : zIn) (t : zLo), nB sh rf s t → (sh 120 = (104, 12) ∧ sh 121 = (104, 16) ∧ sh 122 = (104, 60) ∧ sh 125 = (100, 6)) ∧ (rf 0 4 = some 120 ∧ rf 0 6 = some 121 ∧ rf 0 8 = some 122 ∧ rf 0 1 = some zS) ∧ s 0 2 = nI dr → Gl 84 [some (.ref 0), some (.ref zS), some (.int (nI dr)), none] [.ref 125] (207, 6142) (126, sh, rf, s, t) := by
      intro sh rf s t hB hf
      obtain ⟨⟨a1, a2, a3, a4⟩, ⟨b4, b6, b8, b1⟩, c2⟩ := hf
      obtain ⟨hBs, hBc, h999, h0, r0, s3, s5, s7, s9⟩ := id hB
      refine hG 100 _ _ _ _ _ ?_
      repeat (first
        | (conv => whnf
           try dsimp only
           try simp (decide := true) only [zx4, zx5, h0, a1, a4, b4, zu_same, zu_ne1, zu_ne2, zu_row, zuL_same, zuL_ne1, zuL_ne2, zrow_n1, zx0, zx1, zx2, zx3, nI_1, Nat.reduceAdd, Nat.reduceMul, Int32.reduceAdd, Int32.reduceSub, Int32.reduceMul]
           first
           | refine ⟨vp_inb (by decide), ?_⟩
           | refine ⟨by with_reducible exact zi (by omega), ?_⟩
           | refine ⟨fun h => absurd h (by with_reducible exact nI_ge (by omega) (by omega)), fun _ => ?_⟩
           | refine ⟨fun _ => ?_, fun h => absurd (by with_reducible exact nI_le (by omega) (by omega)) h⟩
           | refine ⟨fun h => absurd h (by with_reducible exact nI_nlt (by omega) (by omega)), fun _ => ?_⟩
           | refine ⟨fun _ => ?_, fun h => absurd (by with_reducible exact nI_lt (by omega) (by omega)) h⟩
           | refine ⟨fun h => absurd h (by with_reducible exact nI_pos (by omega)), fun _ => ?_⟩
           | refine ⟨fun _ => ?_, fun h => absurd (by with_reducible exact nI_0le (by omega)) h⟩
           | refine ⟨fun h => absurd h (by decide), fun _ => ?_⟩
           | refine ⟨fun _ => ?_, fun h => absurd (by decide) h⟩
           | refine ⟨fun _ => ?_, fun h => absurd h (by decide)⟩
           | refine ⟨fun h => absurd (by decide) h, fun _ => ?_⟩
           | refine ⟨by decide, ?_⟩
           | refine ⟨rfl, ?_⟩)
        | (conv => whnf
           fail_if_success refine Exists.intro ?_ ?_
           simp only [zx4, zx5, h0, a1, a4, b4]))
      try (conv => whnf)
      refine hK _ _ ⟨rfl, sh, _, _, t, rfl, ⟨⟨by decide, by decide, by decide, by decide, by decide⟩, zBs_zuR hBs (by decide), h999, ⟨h0, a1, a2, a3⟩, by rw [zuR_ne (by decide)]; exact ⟨r0, b1, b4, b6, b8⟩, fun u hu => ?_, fun v hv => absurd hv (Nat.not_lt_zero v)⟩, ⟨zBc_zu (Or.inr (by decide)) (zBc_zu (Or.inr (by decide)) (zBc_zu (Or.inr (by decide)) (zBc_zu (Or.inr (by decide)) (zBc_zu (Or.inr (by decide)) (zBc_zu (Or.inr (by decide)) hBc))))), by simp (decide := true) only [zu_ne1]; exact ⟨c2, s3, s5, s7, s9⟩, fun u hu => ?_, fun v hv => absurd hv (Nat.not_lt_zero v)⟩⟩
      · rw [show u = 0 by omega]
        exact ⟨zuR_same, a4⟩
      · rw [show u = 0 by omega]
        exact ⟨(zu_ne2 (by decide)).trans zu_same, zu_same⟩
    have h67 : ∀ (sh : zSh) (rf : zRf) (s : zIn) (t : zLo), nB sh rf s t → (sh 120 = (104, 12) ∧ sh 121 = (104, 16) ∧ sh 122 = (104, 60)) ∧ rf 0 4 = some 120 ∧ rf 0 6 = some 121 ∧ rf 0 8 = some 122 → Gl 67 [some (.ref 0), some (.ref zS), some (.int (nI dr)), none] [.ref 124, .ref 0] (206, 6136) (125, sh, rf, s, t) := by
      intro sh rf s t hB hf
      obtain ⟨⟨a1, a2, a3⟩, b4, b6, b8⟩ := hf
      have h0 := hB.2.2.2.1
      refine hG 100 _ _ _ _ _ ?_
      repeat (first
        | (conv => whnf
           try dsimp only
           try simp (decide := true) only [h0, zu_same, zu_ne1, zu_ne2, zu_row, zuL_same, zuL_ne1, zuL_ne2, zrow_n1, zx0, zx1, zx2, zx3, nI_1, Nat.reduceAdd, Nat.reduceMul, Int32.reduceAdd, Int32.reduceSub, Int32.reduceMul]
           first
           | refine ⟨vp_inb (by decide), ?_⟩
           | refine ⟨by with_reducible exact zi (by omega), ?_⟩
           | refine ⟨fun h => absurd h (by with_reducible exact nI_ge (by omega) (by omega)), fun _ => ?_⟩
           | refine ⟨fun _ => ?_, fun h => absurd (by with_reducible exact nI_le (by omega) (by omega)) h⟩
           | refine ⟨fun h => absurd h (by with_reducible exact nI_nlt (by omega) (by omega)), fun _ => ?_⟩
           | refine ⟨fun _ => ?_, fun h => absurd (by with_reducible exact nI_lt (by omega) (by omega)) h⟩
           | refine ⟨fun h => absurd h (by with_reducible exact nI_pos (by omega)), fun _ => ?_⟩
           | refine ⟨fun _ => ?_, fun h => absurd (by with_reducible exact nI_0le (by omega)) h⟩
           | refine ⟨fun h => absurd h (by decide), fun _ => ?_⟩
           | refine ⟨fun _ => ?_, fun h => absurd (by decide) h⟩
           | refine ⟨fun _ => ?_, fun h => absurd h (by decide)⟩
           | refine ⟨fun h => absurd (by decide) h, fun _ => ?_⟩
           | refine ⟨by decide, ?_⟩
           | refine ⟨rfl, ?_⟩)
        | (conv => whnf
           fail_if_success refine Exists.intro ?_ ?_
           simp only [h0]))
      try (conv => whnf)
      try dsimp only
      try simp (decide := true) only [zu_same, zu_ne1, zu_ne2, zu_row, zuL_same, zuL_ne1, zuL_ne2, zrow_n1, zx0, zx1, zx2, zx3, nI_1, Nat.reduceAdd, Nat.reduceMul, Int32.reduceAdd, Int32.reduceSub, Int32.reduceMul]
      refine h84 (zuS sh 125 (100, 6)) (zrowR (zuR (zuR rf 0 13 (some 124)) 0 1 (some zS)) 125 (fun _ => none)) (zrow (zu s 0 2 (nI dr)) 125 (fun _ => 0)) (zrowL t 125 (fun _ => 0)) (nB_new (nB_u (nB_r (nB_r hB (by decide)) (by decide)) (by decide) (by decide) (by decide) (by decide)) (by decide) (by decide)) ⟨⟨(zuS_ne _ (by decide)).trans a1, (zuS_ne _ (by decide)).trans a2, (zuS_ne _ (by decide)).trans a3, zuS_same⟩, ?_, ?_⟩
      · rw [zR0 (by decide)]
        exact ⟨(zuR_ne2 (by decide)).trans ((zuR_ne2 (by decide)).trans b4), (zuR_ne2 (by decide)).trans ((zuR_ne2 (by decide)).trans b6), (zuR_ne2 (by decide)).trans ((zuR_ne2 (by decide)).trans b8), zuR_same⟩
      · rw [zrow_n1 (by decide)]
        exact zu_same
    have h58 : ∀ (sh : zSh) (rf : zRf) (s : zIn) (t : zLo), nB sh rf s t → (sh 120 = (104, 12) ∧ sh 121 = (104, 16) ∧ sh 122 = (104, 60)) ∧ rf 0 4 = some 120 ∧ rf 0 6 = some 121 ∧ rf 0 8 = some 122 → Gl 58 [some (.ref 0), some (.ref zS), some (.int (nI dr)), none] [.ref 123, .ref 0] (205, 6120) (124, sh, rf, s, t) := by
      intro sh rf s t hB hf
      obtain ⟨⟨a1, a2, a3⟩, b4, b6, b8⟩ := hf
      have h0 := hB.2.2.2.1
      refine hG 100 _ _ _ _ _ ?_
      repeat (first
        | (conv => whnf
           try dsimp only
           try simp (decide := true) only [h0, zu_same, zu_ne1, zu_ne2, zu_row, zuL_same, zuL_ne1, zuL_ne2, zrow_n1, zx0, zx1, zx2, zx3, nI_1, Nat.reduceAdd, Nat.reduceMul, Int32.reduceAdd, Int32.reduceSub, Int32.reduceMul]
           first
           | refine ⟨vp_inb (by decide), ?_⟩
           | refine ⟨by with_reducible exact zi (by omega), ?_⟩
           | refine ⟨fun h => absurd h (by with_reducible exact nI_ge (by omega) (by omega)), fun _ => ?_⟩
           | refine ⟨fun _ => ?_, fun h => absurd (by with_reducible exact nI_le (by omega) (by omega)) h⟩
           | refine ⟨fun h => absurd h (by with_reducible exact nI_nlt (by omega) (by omega)), fun _ => ?_⟩
           | refine ⟨fun _ => ?_, fun h => absurd (by with_reducible exact nI_lt (by omega) (by omega)) h⟩
           | refine ⟨fun h => absurd h (by with_reducible exact nI_pos (by omega)), fun _ => ?_⟩
           | refine ⟨fun _ => ?_, fun h => absurd (by with_reducible exact nI_0le (by omega)) h⟩
           | refine ⟨fun h => absurd h (by decide), fun _ => ?_⟩
           | refine ⟨fun _ => ?_, fun h => absurd (by decide) h⟩
           | refine ⟨fun _ => ?_, fun h => absurd h (by decide)⟩
           | refine ⟨fun h => absurd (by decide) h, fun _ => ?_⟩
           | refine ⟨by decide, ?_⟩
           | refine ⟨rfl, ?_⟩)
        | (conv => whnf
           fail_if_success refine Exists.intro ?_ ?_
           simp only [h0]))
      try (conv => whnf)
      refine h67 (zuS sh 124 (104, 16)) (zrowR (zuR rf 0 11 (some 123)) 124 (fun _ => none)) (zrow (s) 124 (fun _ => 0)) (zrowL t 124 (fun _ => 0)) (nB_new (nB_r hB (by decide)) (by decide) (by decide)) ⟨⟨(zuS_ne _ (by decide)).trans a1, (zuS_ne _ (by decide)).trans a2, (zuS_ne _ (by decide)).trans a3⟩, ?_⟩
      rw [zR0 (by decide)]
      exact ⟨(zuR_ne2 (by decide)).trans b4, (zuR_ne2 (by decide)).trans b6, (zuR_ne2 (by decide)).trans b8⟩
    have h44 : ∀ (sh : zSh) (rf : zRf) (s : zIn) (t : zLo), nB sh rf s t → (sh 120 = (104, 12) ∧ sh 121 = (104, 16) ∧ sh 122 = (104, 60)) ∧ rf 0 4 = some 120 ∧ rf 0 6 = some 121 → Gl 44 [some (.ref 0), some (.ref zS), some (.int (nI dr)), none] [.ref 122, .ref 0] (204, 6104) (123, sh, rf, s, t) := by
      intro sh rf s t hB hf
      obtain ⟨⟨a1, a2, a3⟩, b4, b6⟩ := hf
      have h0 := hB.2.2.2.1
      refine hG 100 _ _ _ _ _ ?_
      repeat (first
        | (conv => whnf
           try dsimp only
           try simp (decide := true) only [h0, zu_same, zu_ne1, zu_ne2, zu_row, zuL_same, zuL_ne1, zuL_ne2, zrow_n1, zx0, zx1, zx2, zx3, nI_1, Nat.reduceAdd, Nat.reduceMul, Int32.reduceAdd, Int32.reduceSub, Int32.reduceMul]
           first
           | refine ⟨vp_inb (by decide), ?_⟩
           | refine ⟨by with_reducible exact zi (by omega), ?_⟩
           | refine ⟨fun h => absurd h (by with_reducible exact nI_ge (by omega) (by omega)), fun _ => ?_⟩
           | refine ⟨fun _ => ?_, fun h => absurd (by with_reducible exact nI_le (by omega) (by omega)) h⟩
           | refine ⟨fun h => absurd h (by with_reducible exact nI_nlt (by omega) (by omega)), fun _ => ?_⟩
           | refine ⟨fun _ => ?_, fun h => absurd (by with_reducible exact nI_lt (by omega) (by omega)) h⟩
           | refine ⟨fun h => absurd h (by with_reducible exact nI_pos (by omega)), fun _ => ?_⟩
           | refine ⟨fun _ => ?_, fun h => absurd (by with_reducible exact nI_0le (by omega)) h⟩
           | refine ⟨fun h => absurd h (by decide), fun _ => ?_⟩
           | refine ⟨fun _ => ?_, fun h => absurd (by decide) h⟩
           | refine ⟨fun _ => ?_, fun h => absurd h (by decide)⟩
           | refine ⟨fun h => absurd (by decide) h, fun _ => ?_⟩
           | refine ⟨by decide, ?_⟩
           | refine ⟨rfl, ?_⟩)
        | (conv => whnf
           fail_if_success refine Exists.intro ?_ ?_
           simp only [h0]))
      try (conv => whnf)
      refine h58 (zuS sh 123 (101, 16)) (zrowR (zuR rf 0 8 (some 122)) 123 (fun _ => none)) (zrow (zu s 0 10 100) 123 (fun _ => 0)) (zrowL t 123 (fun _ => 0)) (nB_new (nB_u (nB_r hB (by decide)) (by decide) (by decide) (by decide) (by decide)) (by decide) (by decide)) ⟨⟨(zuS_ne _ (by decide)).trans a1, (zuS_ne _ (by decide)).trans a2, (zuS_ne _ (by decide)).trans a3⟩, ?_⟩
      rw [zR0 (by decide)]
      exact ⟨(zuR_ne2 (by decide)).trans b4, (zuR_ne2 (by decide)).trans b6, zuR_same⟩
    have h35 : ∀ (sh : zSh) (rf : zRf) (s : zIn) (t : zLo), nB sh rf s t → (sh 120 = (104, 12) ∧ sh 121 = (104, 16)) ∧ rf 0 4 = some 120 → Gl 35 [some (.ref 0), some (.ref zS), some (.int (nI dr)), none] [.ref 121, .ref 0] (203, 6044) (122, sh, rf, s, t) := by
      intro sh rf s t hB hf
      obtain ⟨⟨a1, a2⟩, b4⟩ := hf
      have h0 := hB.2.2.2.1
      refine hG 100 _ _ _ _ _ ?_
      repeat (first
        | (conv => whnf
           try dsimp only
           try simp (decide := true) only [h0, zu_same, zu_ne1, zu_ne2, zu_row, zuL_same, zuL_ne1, zuL_ne2, zrow_n1, zx0, zx1, zx2, zx3, nI_1, Nat.reduceAdd, Nat.reduceMul, Int32.reduceAdd, Int32.reduceSub, Int32.reduceMul]
           first
           | refine ⟨vp_inb (by decide), ?_⟩
           | refine ⟨by with_reducible exact zi (by omega), ?_⟩
           | refine ⟨fun h => absurd h (by with_reducible exact nI_ge (by omega) (by omega)), fun _ => ?_⟩
           | refine ⟨fun _ => ?_, fun h => absurd (by with_reducible exact nI_le (by omega) (by omega)) h⟩
           | refine ⟨fun h => absurd h (by with_reducible exact nI_nlt (by omega) (by omega)), fun _ => ?_⟩
           | refine ⟨fun _ => ?_, fun h => absurd (by with_reducible exact nI_lt (by omega) (by omega)) h⟩
           | refine ⟨fun h => absurd h (by with_reducible exact nI_pos (by omega)), fun _ => ?_⟩
           | refine ⟨fun _ => ?_, fun h => absurd (by with_reducible exact nI_0le (by omega)) h⟩
           | refine ⟨fun h => absurd h (by decide), fun _ => ?_⟩
           | refine ⟨fun _ => ?_, fun h => absurd (by decide) h⟩
           | refine ⟨fun _ => ?_, fun h => absurd h (by decide)⟩
           | refine ⟨fun h => absurd (by decide) h, fun _ => ?_⟩
           | refine ⟨by decide, ?_⟩
           | refine ⟨rfl, ?_⟩)
        | (conv => whnf
           fail_if_success refine Exists.intro ?_ ?_
           simp only [h0]))
      try (conv => whnf)
      refine h44 (zuS sh 122 (104, 60)) (zrowR (zuR rf 0 6 (some 121)) 122 (fun _ => none)) (zrow (s) 122 (fun _ => 0)) (zrowL t 122 (fun _ => 0)) (nB_new (nB_r hB (by decide)) (by decide) (by decide)) ⟨⟨(zuS_ne _ (by decide)).trans a1, (zuS_ne _ (by decide)).trans a2, zuS_same⟩, ?_⟩
      rw [zR0 (by decide)]
      exact ⟨(zuR_ne2 (by decide)).trans b4, zuR_same⟩
    have h26 : ∀ (sh : zSh) (rf : zRf) (s : zIn) (t : zLo), nB sh rf s t → sh 120 = (104, 12) → Gl 26 [some (.ref 0), some (.ref zS), some (.int (nI dr)), none] [.ref 120, .ref 0] (202, 6028) (121, sh, rf, s, t) := by
      intro sh rf s t hB hf
      have h0 := hB.2.2.2.1
      refine hG 100 _ _ _ _ _ ?_
      repeat (first
        | (conv => whnf
           try dsimp only
           try simp (decide := true) only [h0, zu_same, zu_ne1, zu_ne2, zu_row, zuL_same, zuL_ne1, zuL_ne2, zrow_n1, zx0, zx1, zx2, zx3, nI_1, Nat.reduceAdd, Nat.reduceMul, Int32.reduceAdd, Int32.reduceSub, Int32.reduceMul]
           first
           | refine ⟨vp_inb (by decide), ?_⟩
           | refine ⟨by with_reducible exact zi (by omega), ?_⟩
           | refine ⟨fun h => absurd h (by with_reducible exact nI_ge (by omega) (by omega)), fun _ => ?_⟩
           | refine ⟨fun _ => ?_, fun h => absurd (by with_reducible exact nI_le (by omega) (by omega)) h⟩
           | refine ⟨fun h => absurd h (by with_reducible exact nI_nlt (by omega) (by omega)), fun _ => ?_⟩
           | refine ⟨fun _ => ?_, fun h => absurd (by with_reducible exact nI_lt (by omega) (by omega)) h⟩
           | refine ⟨fun h => absurd h (by with_reducible exact nI_pos (by omega)), fun _ => ?_⟩
           | refine ⟨fun _ => ?_, fun h => absurd (by with_reducible exact nI_0le (by omega)) h⟩
           | refine ⟨fun h => absurd h (by decide), fun _ => ?_⟩
           | refine ⟨fun _ => ?_, fun h => absurd (by decide) h⟩
           | refine ⟨fun _ => ?_, fun h => absurd h (by decide)⟩
           | refine ⟨fun h => absurd (by decide) h, fun _ => ?_⟩
           | refine ⟨by decide, ?_⟩
           | refine ⟨rfl, ?_⟩)
        | (conv => whnf
           fail_if_success refine Exists.intro ?_ ?_
           simp only [h0]))
      try (conv => whnf)
      refine h35 (zuS sh 121 (104, 16)) (zrowR (zuR rf 0 4 (some 120)) 121 (fun _ => none)) (zrow (s) 121 (fun _ => 0)) (zrowL t 121 (fun _ => 0)) (nB_new (nB_r hB (by decide)) (by decide) (by decide)) ⟨⟨(zuS_ne _ (by decide)).trans hf, zuS_same⟩, ?_⟩
      rw [zR0 (by decide)]
      exact zuR_same
    have h12 : Gl 12 [some (.ref 0), some (.ref zS), some (.int (nI dr)), none] [.ref 1, .ref 0] (201, 6016) (120, nSh, nRf, nIn, nLo) := by
      have hB : nB nSh (zuR nRf 0 0 (some 1)) (zu nIn 0 3 1) nLo := ⟨zBs_r0 (fun k hk => ⟨(nSh_p (by omega) (by omega)).trans (by rw [Nat.add_sub_cancel_left]), fun j => (nRf_p (by omega) j).trans (by rw [Nat.add_sub_cancel_left])⟩), zBc_zu (Or.inl rfl) (fun k hk => ⟨(nIn_p (by omega)).trans (by rw [Nat.add_sub_cancel_left]), rfl⟩), rfl, rfl, zuR_same, zu_same, rfl, rfl, rfl⟩
      refine hG 100 _ _ _ _ _ ?_
      repeat (conv => whnf
              try dsimp only
              try simp (decide := true) only [zu_same, zu_ne1, zu_ne2, zu_row, zuL_same, zuL_ne1, zuL_ne2, zrow_n1, zx0, zx1, zx2, zx3, nI_1, Nat.reduceAdd, Nat.reduceMul, Int32.reduceAdd, Int32.reduceSub, Int32.reduceMul]
              first
              | refine ⟨vp_inb (by decide), ?_⟩
              | refine ⟨by with_reducible exact zi (by omega), ?_⟩
              | refine ⟨fun h => absurd h (by with_reducible exact nI_ge (by omega) (by omega)), fun _ => ?_⟩
              | refine ⟨fun _ => ?_, fun h => absurd (by with_reducible exact nI_le (by omega) (by omega)) h⟩
              | refine ⟨fun h => absurd h (by with_reducible exact nI_nlt (by omega) (by omega)), fun _ => ?_⟩
              | refine ⟨fun _ => ?_, fun h => absurd (by with_reducible exact nI_lt (by omega) (by omega)) h⟩
              | refine ⟨fun h => absurd h (by with_reducible exact nI_pos (by omega)), fun _ => ?_⟩
              | refine ⟨fun _ => ?_, fun h => absurd (by with_reducible exact nI_0le (by omega)) h⟩
              | refine ⟨fun h => absurd h (by decide), fun _ => ?_⟩
              | refine ⟨fun _ => ?_, fun h => absurd (by decide) h⟩
              | refine ⟨fun _ => ?_, fun h => absurd h (by decide)⟩
              | refine ⟨fun h => absurd (by decide) h, fun _ => ?_⟩
              | refine ⟨by decide, ?_⟩
              | refine ⟨rfl, ?_⟩)
      try (conv => whnf)
      exact h26 (zuS nSh 120 (104, 12)) (zrowR (zuR nRf 0 0 (some 1)) 120 (fun _ => none)) (zrow (zu nIn 0 3 1) 120 (fun _ => 0)) (zrowL nLo 120 (fun _ => 0)) (nB_new hB (by decide) (by decide)) zuS_same
    refine hG 100 _ _ _ _ _ ?_
    repeat (conv => whnf
            try dsimp only
            try simp (decide := true) only [zu_same, zu_ne1, zu_ne2, zu_row, zuL_same, zuL_ne1, zuL_ne2, zrow_n1, zx0, zx1, zx2, zx3, nI_1, Nat.reduceAdd, Nat.reduceMul, Int32.reduceAdd, Int32.reduceSub, Int32.reduceMul]
            first
            | refine ⟨vp_inb (by decide), ?_⟩
            | refine ⟨by with_reducible exact zi (by omega), ?_⟩
            | refine ⟨fun h => absurd h (by with_reducible exact nI_ge (by omega) (by omega)), fun _ => ?_⟩
            | refine ⟨fun _ => ?_, fun h => absurd (by with_reducible exact nI_le (by omega) (by omega)) h⟩
            | refine ⟨fun h => absurd h (by with_reducible exact nI_nlt (by omega) (by omega)), fun _ => ?_⟩
            | refine ⟨fun _ => ?_, fun h => absurd (by with_reducible exact nI_lt (by omega) (by omega)) h⟩
            | refine ⟨fun h => absurd h (by with_reducible exact nI_pos (by omega)), fun _ => ?_⟩
            | refine ⟨fun _ => ?_, fun h => absurd (by with_reducible exact nI_0le (by omega)) h⟩
            | refine ⟨fun h => absurd h (by decide), fun _ => ?_⟩
            | refine ⟨fun _ => ?_, fun h => absurd (by decide) h⟩
            | refine ⟨fun _ => ?_, fun h => absurd h (by decide)⟩
            | refine ⟨fun h => absurd (by decide) h, fun _ => ?_⟩
            | refine ⟨by decide, ?_⟩
            | refine ⟨rfl, ?_⟩)
    try (conv => whnf)
    refine ⟨_, rfl, ?_⟩
    repeat (conv => whnf
            try dsimp only
            try simp (decide := true) only [zu_same, zu_ne1, zu_ne2, zu_row, zuL_same, zuL_ne1, zuL_ne2, zrow_n1, zx0, zx1, zx2, zx3, nI_1, Nat.reduceAdd, Nat.reduceMul, Int32.reduceAdd, Int32.reduceSub, Int32.reduceMul]
            first
            | refine ⟨vp_inb (by decide), ?_⟩
            | refine ⟨by with_reducible exact zi (by omega), ?_⟩
            | refine ⟨fun h => absurd h (by with_reducible exact nI_ge (by omega) (by omega)), fun _ => ?_⟩
            | refine ⟨fun _ => ?_, fun h => absurd (by with_reducible exact nI_le (by omega) (by omega)) h⟩
            | refine ⟨fun h => absurd h (by with_reducible exact nI_nlt (by omega) (by omega)), fun _ => ?_⟩
            | refine ⟨fun _ => ?_, fun h => absurd (by with_reducible exact nI_lt (by omega) (by omega)) h⟩
            | refine ⟨fun h => absurd h (by with_reducible exact nI_pos (by omega)), fun _ => ?_⟩
            | refine ⟨fun _ => ?_, fun h => absurd (by with_reducible exact nI_0le (by omega)) h⟩
            | refine ⟨fun h => absurd h (by decide), fun _ => ?_⟩
            | refine ⟨fun _ => ?_, fun h => absurd (by decide) h⟩
            | refine ⟨fun _ => ?_, fun h => absurd h (by decide)⟩
            | refine ⟨fun h => absurd (by decide) h, fun _ => ?_⟩
            | refine ⟨by decide, ?_⟩
            | refine ⟨rfl, ?_⟩)
    try (conv => whnf)
    refine ⟨[.ref 0], (1, zSH, zQ0, zs0, zt0), rfl, ⟨fun v hv => ?_, fun r j b hr hb => ?_, rfl⟩, ⟨Nat.le_refl 2, fun k hk => ?_⟩, (), rfl, rfl, trivial, ⟨Or.inr rfl, fun v hv => (by cases hv), zw_core⟩, ?_⟩
    · rw [List.mem_singleton.mp hv]
      exact Nat.zero_lt_one
    · have hr1 : r < 1 := hr
      rw [show r = 0 by omega] at hb
      cases hb
    · have hk1 : k < 1 := hk
      rw [show k = 0 by omega]
      exact ⟨rfl, fun j => rfl, rfl, rfl⟩
    repeat (conv => whnf
            try dsimp only
            try simp (decide := true) only [zu_same, zu_ne1, zu_ne2, zu_row, zuL_same, zuL_ne1, zuL_ne2, zrow_n1, zx0, zx1, zx2, zx3, nI_1, Nat.reduceAdd, Nat.reduceMul, Int32.reduceAdd, Int32.reduceSub, Int32.reduceMul]
            first
            | refine ⟨vp_inb (by decide), ?_⟩
            | refine ⟨by with_reducible exact zi (by omega), ?_⟩
            | refine ⟨fun h => absurd h (by with_reducible exact nI_ge (by omega) (by omega)), fun _ => ?_⟩
            | refine ⟨fun _ => ?_, fun h => absurd (by with_reducible exact nI_le (by omega) (by omega)) h⟩
            | refine ⟨fun h => absurd h (by with_reducible exact nI_nlt (by omega) (by omega)), fun _ => ?_⟩
            | refine ⟨fun _ => ?_, fun h => absurd (by with_reducible exact nI_lt (by omega) (by omega)) h⟩
            | refine ⟨fun h => absurd h (by with_reducible exact nI_pos (by omega)), fun _ => ?_⟩
            | refine ⟨fun _ => ?_, fun h => absurd (by with_reducible exact nI_0le (by omega)) h⟩
            | refine ⟨fun h => absurd h (by decide), fun _ => ?_⟩
            | refine ⟨fun _ => ?_, fun h => absurd (by decide) h⟩
            | refine ⟨fun _ => ?_, fun h => absurd h (by decide)⟩
            | refine ⟨fun h => absurd (by decide) h, fun _ => ?_⟩
            | refine ⟨by decide, ?_⟩
            | refine ⟨rfl, ?_⟩)
    try (conv => whnf)
    refine hE _ _ _ _ _ (120, nSh, nRf, nIn, nLo) ⟨rfl, fun k hk => ?_, rfl⟩ h12
    have hk1 : k < 120 := hk
    by_cases e : k = 0
    · rw [e]
      exact ⟨rfl, rfl, rfl, rfl⟩
    · have hc : 1 ≤ k ∧ k < 1 + 119 := ⟨by omega, by omega⟩
      refine ⟨(if_pos hc).trans ?_, ?_, (if_pos hc).trans ?_, (if_pos hc).trans ?_⟩
      · exact (nSh_p e hk1).symm
      · funext j
        exact (if_pos hc).trans (nRf_p e j).symm
      · exact (nIn_p e).symm
      · rfl

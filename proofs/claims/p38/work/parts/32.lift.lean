/-! ===== the model at names 1 .., and the script ===== -/
theorem zlk_m {α : Type} : ∀ {L : List (Nat × α)} {n : Nat} {x : α}, zlk L n = some x → ∃ k, (k, x) ∈ L
  | [], _, _, h => by cases h
  | (k, a) :: l, n, x, h => by
    unfold zlk at h
    split at h
    · cases h
      exact ⟨k, List.mem_cons_self⟩
    · obtain ⟨k2, h2⟩ := zlk_m h
      exact ⟨k2, List.mem_cons_of_mem _ h2⟩
theorem zrl_m : ∀ {l : List Nat} {j b : Nat}, zrl l j = some b → b ∈ l
  | [], _, _, h => by cases h
  | a :: l, 0, b, h => by
    have e : a = b := Option.some.inj h
    rw [e]
    exact List.mem_cons_self
  | _ :: l, j + 1, b, h => List.mem_cons_of_mem _ (zrl_m (l := l) h)
theorem zRH_lt {r j b : Nat} (h : zRH r j = some b) : b < 119 := by
  unfold zRH at h
  split at h
  · rename_i l hl
    obtain ⟨k, hk⟩ := zlk_m hl
    have h1 : zRHt.all (fun q => q.2.all (fun b => Nat.blt b 119)) = true := by decide +kernel
    have h2 := List.all_eq_true.mp h1 _ hk
    exact Nat.blt_eq.mp (List.all_eq_true.mp h2 _ (zrl_m h))
  · split at h
    · split at h
      · rename_i hj
        have := Nat.blt_eq.mp hj
        cases h
        omega
      · cases h
    · split at h
      · rename_i hj
        have := Nat.blt_eq.mp hj
        cases h
        omega
      · cases h
    · split at h
      · rename_i hj
        have := Nat.blt_eq.mp hj
        cases h
        omega
      · cases h
    · cases h
def zBs (sh : zSh) (rf : zRf) : Prop := ∀ k, k < 119 → sh (1 + k) = zSH k ∧ ∀ j, rf (1 + k) j = (zRH k j).map (1 + ·)
def zBc (s : zIn) (t : zLo) (σ : zIn) (τ : zLo) : Prop := ∀ k, k < 119 → s (1 + k) = σ k ∧ t (1 + k) = τ k
def zwB : Value → Bool
  | .ref r => Nat.blt r 119
  | _ => true
def zwR : Option Value → Bool
  | some v => zwB v
  | none => true
def zJ (sp : zSp) : zSp := fun av μ K => ∃ (avr : List Value) (σ : zIn) (τ : zLo), av = avr.map (zsh 1) ∧ avr.all zwB = true ∧ zBs μ.2.1 μ.2.2.1 ∧ zBc μ.2.2.2.1 μ.2.2.2.2 σ τ ∧ 120 ≤ μ.1 ∧ sp avr (119, zSH, zRH, σ, τ) (fun r μ1 => ∃ (σ1 : zIn) (τ1 : zLo), μ1 = (119, zSH, zRH, σ1, τ1) ∧ zwR r = true ∧
  ∀ (s2 : zIn) (t2 : zLo), zBc s2 t2 σ1 τ1 → (∀ k, k = 0 ∨ 120 ≤ k → s2 k = μ.2.2.2.1 k ∧ t2 k = μ.2.2.2.2 k) → K (r.map (zsh 1)) (μ.1, μ.2.1, μ.2.2.1, s2, t2))
theorem zwB_s {v : Value} (h : zwB v = true) : zwVs 119 v := by
  cases v <;> first | exact Nat.blt_eq.mp h | trivial
theorem zw_core {σ : zIn} {τ : zLo} : zrws (119, zSH, zRH, σ, τ) := fun r j b _ h => zRH_lt h
theorem zct_J {l : Launch} {D : va_G} {cA : Nat → ClassId} {y : MethodName} {bc : ByteArray} {n : Nat} {ret : Option FieldType} {rm : Room} {sp : zSp} (h : zCt false l D cA y bc n ret rm sp) : zCt false l D cA y bc n ret rm (zJ sp) := by
  have h1 := zct_lift 1 h
  refine ⟨?_, fun ad μ av Ret sz hsp => h1.2 ad μ av Ret sz ?_⟩
  · rintro av μ K K' hk ⟨avr, σ, τ, q1, q2, q3, q4, q5, q6⟩
    refine ⟨avr, σ, τ, q1, q2, q3, q4, q5, h.1 _ _ _ _ (fun r μ1 q => ?_) q6⟩
    obtain ⟨σ1, τ1, g1, g2, g3⟩ := q
    exact ⟨σ1, τ1, g1, g2, fun s2 t2 a b => hk _ _ (g3 s2 t2 a b)⟩
  · obtain ⟨avr, σ, τ, q1, q2, q3, q4, q5, q6⟩ := hsp
    refine ⟨avr, (119, zSH, zRH, σ, τ), q1, ⟨fun v hv => zwB_s (List.all_eq_true.mp q2 v hv), zw_core, rfl⟩, ⟨by show 1 + 119 ≤ μ.1; omega, fun k hk => ⟨(q3 k hk).1, (q3 k hk).2, (q4 k hk).1, (q4 k hk).2⟩⟩, h.1 _ _ _ _ (fun r μ1 q => ?_) q6⟩
    obtain ⟨σ1, τ1, rfl, g2, g3⟩ := q
    refine ⟨⟨Or.inl rfl, fun v hv => ?_, zw_core⟩, ?_⟩
    · rw [hv] at g2
      exact zwB_s g2
    · have key := g3 (fun k => if 1 ≤ k ∧ k < 1 + 119 then σ1 (k - 1) else μ.2.2.2.1 k) (fun k => if 1 ≤ k ∧ k < 1 + 119 then τ1 (k - 1) else μ.2.2.2.2 k) (fun k hk => by
        refine ⟨(if_pos ⟨by omega, by omega⟩).trans ?_, (if_pos ⟨by omega, by omega⟩).trans ?_⟩ <;> rw [Nat.add_sub_cancel_left]) (fun k hk => ⟨if_neg (by omega), if_neg (by omega)⟩)
      have e : zput 1 μ (119, zSH, zRH, σ1, τ1) = (μ.1, μ.2.1, μ.2.2.1, (fun k => if 1 ≤ k ∧ k < 1 + 119 then σ1 (k - 1) else μ.2.2.2.1 k), (fun k => if 1 ≤ k ∧ k < 1 + 119 then τ1 (k - 1) else μ.2.2.2.2 k)) := by
        unfold zput
        refine Prod.ext (Nat.max_eq_left (by show 1 + 119 ≤ μ.1; omega)) (Prod.ext ?_ (Prod.ext ?_ rfl))
        · funext k
          show (if 1 ≤ k ∧ k < 1 + 119 then zSH (k - 1) else μ.2.1 k) = μ.2.1 k
          split
          · rename_i hk
            have := (q3 (k - 1) (by omega)).1
            rw [show 1 + (k - 1) = k by omega] at this
            exact this.symm
          · rfl
        · funext k j
          show (if 1 ≤ k ∧ k < 1 + 119 then (zRH (k - 1) j).map (1 + ·) else μ.2.2.1 k j) = μ.2.2.1 k j
          split
          · rename_i hk
            have := (q3 (k - 1) (by omega)).2 j
            rw [show 1 + (k - 1) = k by omega] at this
            exact this.symm
          · rfl
      rw [e]
      exact key
theorem zrvJ {sp : zSp} (h : ∀ av μ K, sp av μ K → ∃ rest, av = .ref 0 :: rest) : ∀ av μ K, zJ sp av μ K → ∃ r As, av = .ref r :: As ∧ (μ.2.1 r).1 = 7 := by
  rintro av μ K ⟨avr, σ, τ, rfl, -, q3, -, -, q6⟩
  obtain ⟨rest, rfl⟩ := h _ _ _ q6
  refine ⟨1, rest.map (zsh 1), rfl, ?_⟩
  have := (q3 0 (by decide)).1
  rw [show (1 : Nat) + 0 = 1 from rfl] at this
  rw [this]
  rfl
theorem zBc_zu {s : zIn} {t : zLo} {σ : zIn} {τ : zLo} {r j : Nat} {x : Int32} (hr : r = 0 ∨ 120 ≤ r) (h : zBc s t σ τ) : zBc (zu s r j x) t σ τ := fun k hk => by
  rw [zu_row (by omega)]
  exact h k hk
/-! the script -/
def zCe (C : zC) (S : List (Nat × Int32)) : zC := (C.1, C.2.1, S ++ C.2.2.1, C.2.2.2)
theorem zlk_app {S T : List (Nat × Int32)} {n : Nat} (h : S.all (fun q => Nat.blt n q.1) = true) : zlk (S ++ T) n = zlk T n := by
  induction S with
  | nil => rfl
  | cons q S ih =>
    obtain ⟨k, v⟩ := q
    simp only [List.all_cons, Bool.and_eq_true] at h
    have hk : n < k := Nat.blt_eq.mp h.1
    show (match Nat.beq k n with | true => some v | false => zlk (S ++ T) n) = zlk T n
    have e : Nat.beq k n = false := by
      cases hb : Nat.beq k n with
      | false => rfl
      | true => exact absurd (Nat.eq_of_beq_eq_true hb) (by omega)
    rw [e]
    exact ih h.2
theorem zck_ce {own : String} {ps : List (Nat × Nat)} {cc : ByteArray} {nL : Nat} {C : zC} {S : List (Nat × Int32)} {q : Nat × (Jvm.ClassFile.Instr × Nat × List Nat)} (h : S.all (fun w => Nat.blt q.1 w.1) = true) : zck own ps cc nL (zCe C S) q = zck own ps cc nL C q := by
  have e := zlk_app (T := C.2.2.1) h
  unfold zck zCe
  dsimp only
  rw [e]
theorem zce_tab {own : String} {ps : List (Nat × Nat)} {cc : ByteArray} {nL : Nat} {C : zC} {S : List (Nat × Int32)} (h : C.1.all (zck own ps cc nL C) = true) (hS : S.all (fun w => Nat.ble 299999 w.1) = true) (hT : C.1.all (fun q => Nat.blt q.1 299999) = true) : (zCe C S).1.all (zck own ps cc nL (zCe C S)) = true := by
  refine List.all_eq_true.mpr fun q hq => ?_
  rw [zck_ce]
  · exact List.all_eq_true.mp h q hq
  · refine List.all_eq_true.mpr fun w hw => ?_
    have h1 := Nat.le_of_ble_eq_true (List.all_eq_true.mp hS w hw)
    have h2 := Nat.blt_eq.mp (List.all_eq_true.mp hT q hq)
    exact Nat.blt_eq.mpr (by omega)
section ZSC
variable {l : Launch} {D : va_G} {cA : Nat → ClassId}
theorem zct_ofS {y : MethodName} {b : ByteArray} {n : Nat} {ret : Option FieldType} {rm : Room} {sp : zSp} {C : zC} {ps : List (Nat × Nat)} {cuts : List Nat} (hm : zmono sp) (hy : plainName y.cls = true) (htab : C.1.all (zck y.cls ps b n C) = true) (hini : y.name = "<init>" ∨ C.1.all (zpf C) = true) (hkr : zkr C.2.2.2.2.2.2 ret) (hnt : C.2.2.2.2.2.1.all (fun q => Nat.blt q.1 99999) = true ∧ C.2.2.1.all (fun q => Nat.blt q.1 299999) = true) (hT : C.1.all (fun q => Nat.blt q.1 299999) = true) (hno : C.2.2.2.2.1 = [])
    (hn : ∀ av μ K, sp av μ K → ∀ ad, (lg_sl (av.map (zc ad))).length ≤ n)
    (body : ∀ (av : List Value) (μ : zM) (Ret : Option Value → zM → Prop), sp av μ Ret → ∀ (L : Nat) (xs : Nat → Int32), L ≤ 100000 → ∃ S : List (Nat × Int32), S.all (fun w => Nat.ble 299999 w.1) = true ∧ (∀ j v, (300000 + j, v) ∈ S → j < L ∧ xs j = v) ∧ (∀ v, (299999, v) ∈ S → Int32.ofNat L = v) ∧
      ∀ Gl : zK, (∀ f pc ll st κ μ, zrun (zCe C S) (rm.cells, rm.slots) cuts Gl Ret (f + 1) pc ll st κ μ → Gl pc ll st κ μ) → Gl 0 (zent n av) [] (0, 0) μ) : zCt true l D cA y b n ret rm sp := by
  refine ⟨hm, fun ad μ av Ret sz hsp => ?_⟩
  refine Met.ofW (cc := b) (maxL := n) (ret := ret) hy rfl ?_
  intro p e s m args below meth c s₁ B hml hv
  obtain ⟨rfl, ⟨hz1, hz2, hz3⟩, hsz, hav, hrw, hP, hK, hD0, hNw⟩ := hv
  have hts0 := atoms_spec (ws := Cond.code y b n ret :: zW) B.pre
  have hown : s.vm.findClass y.cls = some m.cls := findClass_of_methodNamed B.named
  have F : zFx p s m (av.map (zc ad)).toArray c b D cA y.cls := ⟨B.exec, B.bytes, hown, fun w hw => hts0 w (List.mem_cons_of_mem _ hw), hK⟩
  subst hsz
  have hA : ∀ q, s.heap.size ≤ q → zAr cA ad μ s.heap.size q := fun q h => Or.inr h
  have hD : va_D (zAr cA ad μ s.heap.size) (zw cA ad μ) := hD0.self
  obtain ⟨⟨L, xs, hL, hva⟩, hbl, hap⟩ := hz3.1 rfl
  have hnA : ¬ zAr cA ad μ s.heap.size (ad zS) := by
    rintro (⟨k, e9, hk⟩ | hq)
    · have hk1 : k < μ.1 := by simpa [zw] using (List.getElem?_eq_some_iff.mp hk).1
      rw [zw_get hk1] at hk
      exact hap k hk1 (congrArg Prod.fst (Option.some.inj hk))
    · exact absurd hq (Nat.not_le.mpr hbl)
  obtain ⟨S, hS, hsc, hsl, hbody⟩ := body av μ Ret hsp L xs hL
  have hlow : ∀ n v, 299999 ≤ n → zlk (zCe C S).2.2.1 n = some v → (n, v) ∈ S := fun n v hn h => by
    rcases List.mem_append.mp (zlk_mem h) with q | q
    · exact q
    · have := Nat.blt_eq.mp (List.all_eq_true.mp hnt.2 _ q)
      omega
  have htab' : ∀ q ∈ (zCe C S).1, zck y.cls ps b n (zCe C S) q = true := fun q hq => List.all_eq_true.mp (zce_tab htab hS hT) q hq
  have hini' : meth.name = "<init>" ∨ (zCe C S).1.all (zpf (zCe C S)) = true := hini.imp_left fun h => by
    rw [← h]
    exact (name_of_methodNamed B.named B.method).1
  have key := hbody (zG p l e rm s m (av.map (zc ad)).toArray below meth c n D cA (zAr cA ad μ s.heap.size) s.heap ad μ.1 (MQ below (zPost rm D cA ad μ Ret s.heap.size) (av.map (zc ad)).toArray s rm.cells rm.slots (zAr cA ad μ s.heap.size)))
    (fun f pc ll st κ μ1 h => zrun_ok (C := zCe C S) (R := rm) (cuts := cuts) (Ret := Ret) (fun pc ll st κ μ2 K hz kk => zst_ok F hNw.2.1 htab' hini' hA (by rw [show (zCe C S).2.2.2.2.1 = [] from hno]; exact trivial) (fun I r pc ll κ μ3 hz hd hR => zret_ok hkr B.exec B.bytes B.returns B.notSynchronized rfl rfl I r pc ll κ μ3 hz hd hR) (fun j v h9 => by
      obtain ⟨h1, h2⟩ := hsc j v (hlow _ v (Nat.le_trans (Nat.le_of_ble_eq_true rfl) (Nat.le_add_right 300000 j)) h9)
      exact ⟨L, xs, hva, hbl, hnA, h1, h2⟩) (fun v h9 => ⟨L, xs, hva, hbl, hnA, hsl v (hlow _ v (Nat.le_refl _) h9)⟩) (fun b pc ll r κ μ3 I nx tg _ _ q => (zoutR_no (C := zCe C S) hnt.1 q).elim) (fun k i e9 pc ll κ μ3 h9 => by rw [show (zCe C S).2.2.2.2.2.1 = C.2.2.2.2.2.1 from rfl, zlk_no hnt.1 (Nat.le_refl _)] at h9; cases h9) hz kk) (f + 1) pc ll st κ μ1 h)
  rw [lg_entry_eq]
  have hl := lv_entry (av.map (zc ad)) (n := n) (hn av μ Ret hsp ad)
  exact key ad s.heap [] _ ⟨fun _ _ => rfl, rfl, Nat.le_add_right _ _, hz2, hz1⟩ (Nat.le_refl _) ⟨fun v hv => (List.not_mem_nil hv).elim, fun i v hv => hav v (zent_mem av n i v hv), hrw⟩ ⟨Nat.zero_le _, Nat.zero_le _⟩ hP hD va_S.rf ⟨hl.1, hl.2.1, fun i v hv => hl.2.2 _ (by have := zent_ok ad av n i 0 v hv; rwa [Nat.zero_add] at this)⟩
end ZSC
abbrev rmL_cell : Room := ({ frames := 0, cells := 0, slots := 0, locals := 0 } : Room)
def spL_cell : zSp := zDQ (X := zM × Nat) (fun x => [.ref zS, .int (nI x.2)]) (fun x => x.1) (fun x => x.2 < 1000 ∧ (x.1.2.1 zS).1 = 999) (fun x r9 μ9 => (∃ y, r9 = some (.int y)) ∧ μ9 = x.1)
theorem zlk_scr {L k : Nat} {x : Int32} {T : List (Nat × Int32)} : zlk ((299999, Int32.ofNat L) :: (300000 + k, x) :: T) (300000 + k) = some x := by
  have e1 : Nat.beq 299999 (300000 + k) = false := by
    cases hb : Nat.beq 299999 (300000 + k) with
    | false => rfl
    | true => exact absurd (Nat.eq_of_beq_eq_true hb) (by omega)
  have e2 : Nat.beq (300000 + k) (300000 + k) = true := Nat.beq_refl _
  unfold zlk
  rw [e1]
  unfold zlk
  rw [e2]
set_option maxRecDepth 100000 in
set_option maxHeartbeats 4000000 in
theorem ctL_cell (l : Launch) (D : va_G) (cA : Nat → ClassId) : zCt true l D cA yL_cell cL_cell 2 (some .int) rmL_cell spL_cell := by
  refine zct_ofS (C := zCL_cell []) (ps := zpL_cell) (cuts := []) zDQ_mono (by decide +kernel) zkL_cell (Or.inr (by decide +kernel)) trivial ⟨by decide +kernel, by decide +kernel⟩ (by decide +kernel) rfl ?_ ?_
  · rintro av μ K ⟨x, rfl, -⟩ ad
    exact Nat.le_of_ble_eq_true rfl
  · rintro av μ Ret ⟨⟨_, k⟩, rfl, rfl, ⟨hk, h999⟩, hK⟩ L xs hL
    dsimp only at hk h999 hK
    obtain ⟨z, hz⟩ : ∃ z, μ.2.1 zS = (999, z) := ⟨_, Prod.ext h999 rfl⟩
    by_cases hkL : k < L
    · refine ⟨[(299999, Int32.ofNat L), (300000 + k, xs k)], by simp [Nat.ble_eq]; omega, fun j v hj => ?_, fun v hv => ?_, fun Gl hG => ?_⟩
      · simp only [List.mem_cons, List.not_mem_nil, or_false, Prod.mk.injEq] at hj
        rcases hj with ⟨h1, -⟩ | ⟨h1, h2⟩
        · omega
        · rw [show j = k by omega]
          exact ⟨hkL, h2.symm⟩
      · simp only [List.mem_cons, List.not_mem_nil, or_false, Prod.mk.injEq] at hv
        rcases hv with ⟨-, h2⟩ | ⟨h1, -⟩
        · exact h2.symm
        · omega
      · show Gl 0 (zent 2 [.ref zS, .int (nI k)]) [] (0, 0) μ
        refine hG 40 _ _ _ _ _ ?_
        repeat (first
          | (conv => whnf
             try dsimp only
             try simp (decide := true) only [hz, show Int32.ofNat L = nI L from rfl, zu_same, zu_ne1, zu_ne2, zu_row, zuL_same, zuL_ne1, zuL_ne2, zrow_n1, zx0, zx1, zx2, zx3, nI_1, Nat.reduceAdd, Nat.reduceMul, Int32.reduceAdd, Int32.reduceSub, Int32.reduceMul]
             first
             | refine ⟨vp_inb (by decide), ?_⟩
             | refine ⟨by with_reducible exact zi (by omega), ?_⟩
             | refine ⟨fun h => absurd h (by with_reducible exact nI_ge (by omega) (by omega)), fun _ => ?_⟩
             | refine ⟨fun _ => ?_, fun h => absurd (by with_reducible exact nI_le (by omega) (by omega)) h⟩
             | refine ⟨fun h => absurd h (by with_reducible exact nI_nlt (by omega) (by omega)), fun _ => ?_⟩
             | refine ⟨fun _ => ?_, fun h => absurd (by with_reducible exact nI_lt (by omega) (by omega)) h⟩
             | refine ⟨fun h => absurd h (by with_reducible exact nI_pos (by omega)), fun _ => ?_⟩
             | refine ⟨fun _ => ?_, fun h => absurd (by with_reducible exact nI_0le (by omega)) h⟩
             | refine ⟨fun h => absurd h (by decide), fun _ => ?_⟩
             | refine ⟨fun _ => ?_, fun h => absurd (by decide) h⟩
             | refine ⟨fun _ => ?_, fun h => absurd h (by decide)⟩
             | refine ⟨fun h => absurd (by decide) h, fun _ => ?_⟩
             | refine ⟨by decide, ?_⟩
             | refine ⟨rfl, ?_⟩)
          | (conv => whnf
             fail_if_success refine Exists.intro ?_ ?_
             simp only [hz, show Int32.ofNat L = nI L from rfl]))
        try (conv => whnf)
        have hsc : zlk (zCe (zCL_cell []) [(299999, nI L), (300000 + k, xs k)]).2.2.1 (300000 + (nI k).toNatClampNeg) = some (xs k) := by
          rw [nI_clamp (by omega)]
          exact zlk_scr
        rw [hsc]
        conv => whnf
        refine ⟨nI_pos (by omega), ?_⟩
        repeat (conv => whnf
                try dsimp only
                try simp (decide := true) only [zu_same, zu_ne1, zu_ne2, zu_row, zuL_same, zuL_ne1, zuL_ne2, zrow_n1, zx0, zx1, zx2, zx3, nI_1, Nat.reduceAdd, Nat.reduceMul, Int32.reduceAdd, Int32.reduceSub, Int32.reduceMul]
                first
                | refine ⟨vp_inb (by decide), ?_⟩
                | refine ⟨by with_reducible exact zi (by omega), ?_⟩
                | refine ⟨fun h => absurd h (by with_reducible exact nI_ge (by omega) (by omega)), fun _ => ?_⟩
                | refine ⟨fun _ => ?_, fun h => absurd (by with_reducible exact nI_le (by omega) (by omega)) h⟩
                | refine ⟨fun h => absurd h (by with_reducible exact nI_nlt (by omega) (by omega)), fun _ => ?_⟩
                | refine ⟨fun _ => ?_, fun h => absurd (by with_reducible exact nI_lt (by omega) (by omega)) h⟩
                | refine ⟨fun h => absurd h (by with_reducible exact nI_pos (by omega)), fun _ => ?_⟩
                | refine ⟨fun _ => ?_, fun h => absurd (by with_reducible exact nI_0le (by omega)) h⟩
                | refine ⟨fun h => absurd h (by decide), fun _ => ?_⟩
                | refine ⟨fun _ => ?_, fun h => absurd (by decide) h⟩
                | refine ⟨fun _ => ?_, fun h => absurd h (by decide)⟩
                | refine ⟨fun h => absurd (by decide) h, fun _ => ?_⟩
                | refine ⟨by decide, ?_⟩
                | refine ⟨rfl, ?_⟩)
        try (conv => whnf)
        exact hK _ _ ⟨⟨_, rfl⟩, rfl⟩
    · refine ⟨[(299999, Int32.ofNat L)], by simp [Nat.ble_eq], fun j v hj => ?_, fun v hv => ?_, fun Gl hG => ?_⟩
      · simp only [List.mem_cons, List.not_mem_nil, or_false, Prod.mk.injEq] at hj
        omega
      · simp only [List.mem_cons, List.not_mem_nil, or_false, Prod.mk.injEq] at hv
        exact hv.2.symm
      · show Gl 0 (zent 2 [.ref zS, .int (nI k)]) [] (0, 0) μ
        refine hG 40 _ _ _ _ _ ?_
        repeat (first
          | (conv => whnf
             try dsimp only
             try simp (decide := true) only [hz, show Int32.ofNat L = nI L from rfl, zu_same, zu_ne1, zu_ne2, zu_row, zuL_same, zuL_ne1, zuL_ne2, zrow_n1, zx0, zx1, zx2, zx3, nI_1, Nat.reduceAdd, Nat.reduceMul, Int32.reduceAdd, Int32.reduceSub, Int32.reduceMul]
             first
             | refine ⟨vp_inb (by decide), ?_⟩
             | refine ⟨by with_reducible exact zi (by omega), ?_⟩
             | refine ⟨fun h => absurd h (by with_reducible exact nI_ge (by omega) (by omega)), fun _ => ?_⟩
             | refine ⟨fun _ => ?_, fun h => absurd (by with_reducible exact nI_le (by omega) (by omega)) h⟩
             | refine ⟨fun h => absurd h (by with_reducible exact nI_nlt (by omega) (by omega)), fun _ => ?_⟩
             | refine ⟨fun _ => ?_, fun h => absurd (by with_reducible exact nI_lt (by omega) (by omega)) h⟩
             | refine ⟨fun h => absurd h (by with_reducible exact nI_pos (by omega)), fun _ => ?_⟩
             | refine ⟨fun _ => ?_, fun h => absurd (by with_reducible exact nI_0le (by omega)) h⟩
             | refine ⟨fun h => absurd h (by decide), fun _ => ?_⟩
             | refine ⟨fun _ => ?_, fun h => absurd (by decide) h⟩
             | refine ⟨fun _ => ?_, fun h => absurd h (by decide)⟩
             | refine ⟨fun h => absurd (by decide) h, fun _ => ?_⟩
             | refine ⟨by decide, ?_⟩
             | refine ⟨rfl, ?_⟩)
          | (conv => whnf
             fail_if_success refine Exists.intro ?_ ?_
             simp only [hz, show Int32.ofNat L = nI L from rfl]))
        try (conv => whnf)
        exact hK _ _ ⟨⟨_, rfl⟩, rfl⟩

/-! ===== a contract at names b ..: the same over a part of a larger memory ===== -/
theorem zmet_conv {l : Launch} {y : MethodName} {ws : List Cond} {rm : Room} {Pc Pc' : Array Value → State → Prop} {Qc Qc' : Array Value → State → Outcome → State → Prop} {mc ms : Nat} {free free' : Addr → Prop} (h : Met l y ws rm Pc Qc mc ms free) (hP : ∀ a s, Pc' a s → Pc a s) (hQ : ∀ a s o t, Pc' a s → Qc a s o t → Qc' a s o t) (hf : ∀ a s, Pc' a s → ∀ q, free q → free' q) : Met l y ws rm Pc' Qc' mc ms free' := by
  intro p e ha hc hk s m args below hfr happ hp hK
  obtain ⟨n, o, h1, h2, h3, h4, L, h5, h6⟩ := h p e ha hc hk s m args below hfr happ (hP _ _ hp) hK
  exact ⟨n, o, h1, h2, h3, hQ _ _ _ _ hp h4, L, h5, fun q hq => hf _ _ hp _ (h6 q hq)⟩
theorem zcell_ext2 {cA : Nat → ClassId} {ad ad1 : Nat → Nat} {μ μ1 : zM} {k k1 : Nat} (h1 : μ1.2.1 k1 = μ.2.1 k) (h2 : ∀ j, (μ1.2.2.1 k1 j).map ad1 = (μ.2.2.1 k j).map ad) (h3 : μ1.2.2.2.1 k1 = μ.2.2.2.1 k) (h4 : μ1.2.2.2.2 k1 = μ.2.2.2.2 k) : zcell cA ad1 μ1 k1 = zcell cA ad μ k := by
  have hf : ∀ (ts : List Nat) (i : Nat), zfs ad1 μ1 k1 ts i = zfs ad μ k ts i := by
    intro ts
    induction ts with
    | nil => intro i; rfl
    | cons t ts ih =>
      intro i
      simp only [zfs, ih]
      refine congrArg (· :: _) ?_
      unfold zfv
      split
      · rw [h4]
      · rw [h2]
      · rw [h3]
  unfold zcell
  rw [h1]
  simp only [hf]
  split
  · rfl
  · refine congrArg (fun q => Sum.inl (cA _, q)) ?_
    unfold zar
    split
    · rw [h4]
    · rfl
    · exact congrArg (fun q => (_, Sum.inr (Sum.inr (Sum.inr (Sum.inr q))))) (funext h2)
    · rw [h3]
def zsh (b : Nat) : Value → Value
  | .ref r => .ref (b + r)
  | v => v
/-- the part of a memory at the names b .. is the memory μr -/
def zsub (b : Nat) (μ μr : zM) : Prop := b + μr.1 ≤ μ.1 ∧ ∀ k, k < μr.1 → μ.2.1 (b + k) = μr.2.1 k ∧ (∀ j, μ.2.2.1 (b + k) j = (μr.2.2.1 k j).map (b + ·)) ∧ μ.2.2.2.1 (b + k) = μr.2.2.2.1 k ∧ μ.2.2.2.2 (b + k) = μr.2.2.2.2 k
/-- the part put back -/
def zput (b : Nat) (μ μr : zM) : zM := (max μ.1 (b + μr.1), (fun k => if b ≤ k ∧ k < b + μr.1 then μr.2.1 (k - b) else μ.2.1 k),
  (fun k j => if b ≤ k ∧ k < b + μr.1 then (μr.2.2.1 (k - b) j).map (b + ·) else μ.2.2.1 k j), (fun k => if b ≤ k ∧ k < b + μr.1 then μr.2.2.2.1 (k - b) else μ.2.2.2.1 k), (fun k => if b ≤ k ∧ k < b + μr.1 then μr.2.2.2.2 (k - b) else μ.2.2.2.2 k))
/-- strict: no name of the script -/
def zwVs (n : Nat) : Value → Prop
  | .ref r => r < n
  | _ => True
def zrws (μ : zM) : Prop := ∀ r j b, r < μ.1 → μ.2.2.1 r j = some b → b < μ.1
theorem zwVs.w {n : Nat} {v : Value} (h : zwVs n v) : zwV n v := by
  cases v <;> first | trivial | exact Or.inl h
def zlift (b : Nat) (sp : zSp) : zSp := fun av μ K => ∃ avr μr, av = avr.map (zsh b) ∧ ((∀ v ∈ avr, zwVs μr.1 v) ∧ zrws μr ∧ (μr.2.1 zS).1 = 999) ∧ zsub b μ μr ∧ sp avr μr (fun r μ1 => ((μ1.1 = μr.1 ∨ b + μr.1 = μ.1) ∧ (∀ v, r = some v → zwVs μ1.1 v) ∧ zrws μ1) ∧ K (r.map (zsh b)) (zput b μ μ1))
/-- a contract that knows of no script holds where there is one -/
theorem zct_X {X : Bool} {l : Launch} {D : va_G} {cA : Nat → ClassId} {y : MethodName} {bc : ByteArray} {n : Nat} {ret : Option FieldType} {rm : Room} {sp : zSp} (h : zCt false l D cA y bc n ret rm sp) : zCt X l D cA y bc n ret rm sp :=
  ⟨h.1, fun ad μ av Ret sz hsp => zmet_conv (h.2 ad μ av Ret sz hsp) (fun a s q => ⟨q.1, ⟨q.2.1.1, q.2.1.2.1, (fun x => by cases x), q.2.1.2.2.2⟩, q.2.2⟩) (fun _ _ _ _ _ q => q) (fun _ _ _ _ q => q)⟩
theorem zct_lift {l : Launch} {D : va_G} {cA : Nat → ClassId} {y : MethodName} {bc : ByteArray} {n : Nat} {ret : Option FieldType} {rm : Room} {sp : zSp} (b : Nat) (h : zCt false l D cA y bc n ret rm sp) : zCt false l D cA y bc n ret rm (zlift b sp) := by
  refine ⟨?_, ?_⟩
  · rintro av μ K K' hk ⟨avr, μr, h1, h2, h3, h4⟩
    exact ⟨avr, μr, h1, h2, h3, h.1 _ _ _ _ (fun v μ1 q => ⟨q.1, hk _ _ q.2⟩) h4⟩
  rintro ad μ av Ret sz ⟨avr, μr, rfl, ⟨hav, hrw, h999⟩, ⟨hsz, hsub⟩, hsp⟩
  have hcell : ∀ k, k < μr.1 → zcell cA (fun k => ad (b + k)) μr k = zcell cA ad μ (b + k) := by
    intro k hk
    obtain ⟨e1, e2, e3, e4⟩ := hsub k hk
    refine zcell_ext2 e1.symm (fun j => ?_) e3.symm e4.symm
    rw [e2 j, Option.map_map]
    rfl
  have hsubA : ∀ q, zAr cA (fun k => ad (b + k)) μr sz q → zAr cA ad μ sz q := by
    rintro q (⟨k, e, hk⟩ | hq)
    · have hk1 : k < μr.1 := by simpa [zw] using (List.getElem?_eq_some_iff.mp hk).1
      rw [zw_get hk1] at hk
      cases hk
      exact Or.inl ⟨b + k, _, zw_get (by omega)⟩
    · exact Or.inr hq
  have hpre : ∀ a s, va_Pc ((avr.map (zsh b)).map (zc ad)) (zPre false rm D cA ad μ (avr.map (zsh b)) sz) a s → va_Pc (avr.map (zc (fun k => ad (b + k)))) (zPre false rm D cA (fun k => ad (b + k)) μr avr sz) a s := by
    rintro a s ⟨g1, ⟨g0, -, -, gth⟩, g2, g3, g4, g5, g6, g7, g8⟩
    refine ⟨?_, ⟨by omega, h999, (fun x => by cases x), gth.narrow hsubA⟩, g2, fun v hv => (hav v hv).w, fun r j b hr hb => Or.inl (hrw r j b hr hb), ?_, g6, ?_, g8⟩
    · rw [g1, List.map_map]
      refine congrArg List.toArray (List.map_congr_left fun v _ => ?_)
      cases v <;> rfl
    · intro k q hq
      have hk : k < μr.1 := by
        have := (List.getElem?_eq_some_iff.mp hq).1
        simpa [zw] using this
      rw [zw_get hk] at hq
      cases hq
      rw [hcell k hk]
      exact g5 (b + k) _ (zw_get (by omega))
    · refine ⟨fun i j x y hx hy hxy => ?_, fun _ _ _ => trivial⟩
      have hi : i < μr.1 := by simpa [zw] using (List.getElem?_eq_some_iff.mp hx).1
      have hj : j < μr.1 := by simpa [zw] using (List.getElem?_eq_some_iff.mp hy).1
      rw [zw_get hi] at hx
      rw [zw_get hj] at hy
      cases hx
      cases hy
      have := g7.1 (b + i) (b + j) _ _ (zw_get (by omega)) (zw_get (by omega)) hxy
      omega
  refine zmet_conv (h.2 (fun k => ad (b + k)) μr avr _ sz hsp) hpre ?_ (fun _ _ _ q => hsubA q)
  rintro a s o t ⟨g1, ⟨g0, g09, -⟩, g2, g3, g4, g5, g6, g7, g8⟩ ⟨⟨r, μ1, ad2, q1, ⟨⟨⟨q2a, q5, q6⟩, q2⟩, q2n⟩, q3, q4, ⟨-, qb, -⟩, -, -, q7, q8⟩, q9⟩
  subst q1
  obtain ⟨ad1, had1⟩ : ∃ ad1 : Nat → Nat, ad1 = fun k => if b ≤ k ∧ k < b + μ1.1 then ad2 (k - b) else ad k := ⟨_, rfl⟩
  have in1 : ∀ k, k < μ1.1 → ad1 (b + k) = ad2 k := fun k hk => by
    rw [had1]
    simp only [if_pos (show b ≤ b + k ∧ b + k < b + μ1.1 by omega), Nat.add_sub_cancel_left]
  have out1 : ∀ k, ¬ (b ≤ k ∧ k < b + μ1.1) → ad1 k = ad k := fun k hk => by
    rw [had1]
    simp only [if_neg hk]
  have old1 : ∀ k, k < μ.1 → ad1 k = ad k := fun k hk => by
    by_cases hin : b ≤ k ∧ k < b + μ1.1
    · have hlt : k - b < μr.1 := by rcases q2a with e | e <;> omega
      have := in1 (k - b) (by omega)
      rw [show b + (k - b) = k by omega] at this
      rw [this, q4 (k - b) hlt]
      show ad (b + (k - b)) = ad k
      rw [show b + (k - b) = k by omega]
    · exact out1 k hin
  -- an address of a name that is not the part's is none of the callee's
  have apart : ∀ k, k < μ.1 → ¬ (b ≤ k ∧ k < b + μ1.1) → ¬ zAr cA (fun k => ad (b + k)) μr sz (ad k) := by
    rintro k hk hout (⟨i, e, hi⟩ | hq)
    · have hi1 : i < μr.1 := by simpa [zw] using (List.getElem?_eq_some_iff.mp hi).1
      rw [zw_get hi1] at hi
      have e1 : ad (b + i) = ad k := congrArg Prod.fst (Option.some.inj hi)
      have := g7.1 (b + i) k _ _ (zw_get (by omega)) (zw_get hk) e1
      omega
    · have := (g5 k _ (zw_get hk)).lt
      have h9 : ad k < s.heap.size := this
      omega
  have hcin : ∀ k, k < μ1.1 → zcell cA ad1 (zput b μ μ1) (b + k) = zcell cA ad2 μ1 k := by
    intro k hk
    have hin : b ≤ b + k ∧ b + k < b + μ1.1 := by omega
    refine zcell_ext2 ?_ (fun j => ?_) ?_ ?_
    · show (if b ≤ b + k ∧ b + k < b + μ1.1 then _ else _) = _
      rw [if_pos hin, Nat.add_sub_cancel_left]
    · show (if b ≤ b + k ∧ b + k < b + μ1.1 then _ else _ : Option Nat).map ad1 = _
      rw [if_pos hin, Nat.add_sub_cancel_left, Option.map_map]
      cases hj : μ1.2.2.1 k j with
      | none => rfl
      | some x => exact congrArg some (in1 x (q6 k j x hk hj))
    · show (if b ≤ b + k ∧ b + k < b + μ1.1 then _ else _) = _
      rw [if_pos hin, Nat.add_sub_cancel_left]
    · show (if b ≤ b + k ∧ b + k < b + μ1.1 then _ else _) = _
      rw [if_pos hin, Nat.add_sub_cancel_left]
  have hcout : ∀ k, k < μ.1 → ¬ (b ≤ k ∧ k < b + μ1.1) → zcell cA ad1 (zput b μ μ1) k = zcell cA ad μ k := by
    intro k hk hout
    refine zcell_ext ?_ ?_ ?_ ?_ (fun j x hx => (g4 k j x hk hx).elim (old1 x) (fun q => by rw [q]; exact out1 zS (by omega)))
    · show (if _ then _ else _) = _
      rw [if_neg hout]
    · funext j
      show (if _ then _ else _) = _
      rw [if_neg hout]
    · show (if _ then _ else _) = _
      rw [if_neg hout]
    · show (if _ then _ else _) = _
      rw [if_neg hout]
  have split : ∀ k, k < (zput b μ μ1).1 → (∃ i, i < μ1.1 ∧ k = b + i) ∨ (k < μ.1 ∧ ¬ (b ≤ k ∧ k < b + μ1.1)) := by
    intro k hk
    have hk1 : k < max μ.1 (b + μ1.1) := hk
    by_cases hin : b ≤ k ∧ k < b + μ1.1
    · exact Or.inl ⟨k - b, by omega, by omega⟩
    · exact Or.inr ⟨by omega, hin⟩
  refine ⟨⟨r.map (zsh b), zput b μ μ1, ad1, ?_, ⟨q2, fun b9 h9 => ?_⟩, Nat.le_max_left _ _, old1, ⟨out1 zS (by omega), Nat.max_le.mpr ⟨by omega, by omega⟩, ?_⟩, ?_, ?_, ?_, ?_⟩, q9.1, fun q hq hn => q9.2 q hq (fun z => hn (hsubA q z))⟩
  rotate_left
  · cases r with
    | none => cases h9
    | some v => cases v <;> first | exact q2n _ rfl | cases h9
  rotate_right
  · cases r with
    | none => rfl
    | some v =>
      refine congrArg (fun v => Outcome.returned (some v)) ?_
      cases v with
      | ref x => exact congrArg Value.ref (in1 x (q5 _ rfl)).symm
      | _ => rfl
  · show (if b ≤ zS ∧ zS < b + μ1.1 then _ else μ.2.1 zS : Nat × Nat).1 = 999
    rw [if_neg (by omega)]
    exact g09
  · intro v hv
    cases r with
    | none => cases hv
    | some w =>
      cases hv
      cases w with
      | ref x =>
        have h9 : x < μ1.1 := q5 _ rfl
        exact Or.inl (Nat.lt_of_lt_of_le (Nat.add_lt_add_left h9 b) (Nat.le_max_right _ _))
      | _ => trivial
  · intro k j x hk hx
    show x < max μ.1 (b + μ1.1) ∨ x = zS
    rcases split k hk with ⟨i, hi, rfl⟩ | ⟨hk1, hout⟩
    · have hx1 : (if b ≤ b + i ∧ b + i < b + μ1.1 then (μ1.2.2.1 (b + i - b) j).map (b + ·) else μ.2.2.1 (b + i) j) = some x := hx
      rw [if_pos (by omega), Nat.add_sub_cancel_left] at hx1
      cases hj : μ1.2.2.1 i j with
      | none => rw [hj] at hx1; cases hx1
      | some z =>
        rw [hj] at hx1
        cases hx1
        have := q6 i j z hi hj
        exact Or.inl (Nat.lt_of_lt_of_le (show b + z < b + μ1.1 by omega) (Nat.le_max_right _ _))
    · have hx1 : (if b ≤ k ∧ k < b + μ1.1 then (μ1.2.2.1 (k - b) j).map (b + ·) else μ.2.2.1 k j) = some x := hx
      rw [if_neg hout] at hx1
      exact (g4 k j x hk1 hx1).imp_left (fun q => Nat.lt_of_lt_of_le q (Nat.le_max_left _ _))
  · intro k q hq
    have hk : k < (zput b μ μ1).1 := by simpa [zw] using (List.getElem?_eq_some_iff.mp hq).1
    rw [zw_get hk] at hq
    cases hq
    rcases split k hk with ⟨i, hi, rfl⟩ | ⟨hk1, hout⟩
    · rw [hcin i hi, in1 i hi]
      exact q7 i _ (zw_get hi)
    · rw [hcout k hk1 hout, out1 k hout]
      exact (g5 k _ (zw_get hk1)).kept (q9.2 _ ((g5 k _ (zw_get hk1)).lt) (apart k hk1 hout))
  · refine ⟨fun i j x y hx hy hxy => ?_, fun k q hq => ?_⟩
    · have hi : i < (zput b μ μ1).1 := by simpa [zw] using (List.getElem?_eq_some_iff.mp hx).1
      have hj : j < (zput b μ μ1).1 := by simpa [zw] using (List.getElem?_eq_some_iff.mp hy).1
      rw [zw_get hi] at hx
      rw [zw_get hj] at hy
      cases hx
      cases hy
      have hxy : ad1 i = ad1 j := hxy
      rcases split i hi with ⟨i', hi', rfl⟩ | ⟨hi1, hout⟩ <;> rcases split j hj with ⟨j', hj', rfl⟩ | ⟨hj1, hout2⟩
      · rw [in1 i' hi', in1 j' hj'] at hxy
        have := q8.1 i' j' _ _ (zw_get hi') (zw_get hj') hxy
        omega
      · rw [in1 i' hi', out1 j hout2] at hxy
        exact absurd (by rw [← hxy]; exact q8.2 i' _ (zw_get hi')) (apart j hj1 hout2)
      · rw [in1 j' hj', out1 i hout] at hxy
        exact absurd (by rw [hxy]; exact q8.2 j' _ (zw_get hj')) (apart i hi1 hout)
      · rw [out1 i hout, out1 j hout2] at hxy
        exact g7.1 i j _ _ (zw_get hi1) (zw_get hj1) hxy
    · have hk : k < (zput b μ μ1).1 := by simpa [zw] using (List.getElem?_eq_some_iff.mp hq).1
      rw [zw_get hk] at hq
      cases hq
      rcases split k hk with ⟨i, hi, rfl⟩ | ⟨hk1, hout⟩
      · rw [in1 i hi]
        exact hsubA (ad2 i) (q8.2 i (ad2 i, zcell cA ad2 μ1 i) (zw_get hi))
      · rw [out1 k hout]
        exact Or.inl ⟨k, _, zw_get hk1⟩

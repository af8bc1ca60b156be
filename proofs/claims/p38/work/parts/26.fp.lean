/-! ===== the slope's double ===== -/
theorem fp_n64 {a : UInt64} (h : Jvm.FP.Core.val64 a ≠ .nan) : vf_n64 a := by
  unfold vf_n64
  rw [UInt64.le_iff_toNat_le, UInt64.toNat_and, show (0x7fffffffffffffff : UInt64).toNat = 2 ^ 63 - 1 from rfl, Nat.and_two_pow_sub_one_eq_mod]
  exact (Jvm.FP.Core.ne_nan a).mp h
/-- 2000.0 -/
def fpC : UInt64 := FP.dmul (UInt64.ofNat 4611686018427387904) (FP.i2d 1000)
theorem fpC_v : Jvm.FP.Core.val64 fpC = .fin false (2000 * 2 ^ 42) (-42) := by decide +kernel
theorem fpC_n : vf_n64 fpC := by
  unfold vf_n64
  decide +kernel
theorem fp_i2d (x : Int32) : Jvm.FP.Core.val64 (FP.i2d x) = Jvm.FP.Core.roundRatio Jvm.FP.Core.b64 (decide (x.toInt < 0)) x.toInt.natAbs 1 0 := Jvm.FP.Core.val64_i2d x
theorem fp_big {x : Int32} (h : ¬ x = 0) : 2048 ≤ Jvm.FP.Core.zmag Jvm.FP.Core.b64 (Jvm.FP.Core.val64 (FP.i2d x)) := by
  rw [fp_i2d]
  have hA : 1 ≤ x.toInt.natAbs := by
    have : x.toInt ≠ 0 := fun q => h (Int32.toInt_inj.mp q)
    omega
  refine Jvm.FP.Core.zmag_roundRatio_ge (V := .fin false 2048 Jvm.FP.Core.b64.qmin) (e0 := Jvm.FP.Core.b64.qmin) Jvm.FP.Core.good_b64 (by decide) ?_ (Int.le_refl _) (by decide) ?_
  · refine ⟨by decide, Int.le_refl _, by decide, Or.inl rfl⟩
  · show 2048 * 2 ^ (Jvm.FP.Core.b64.qmin - Jvm.FP.Core.b64.qmin).toNat * 2 ^ (Jvm.FP.Core.b64.qmin - Jvm.FP.Core.b64.qmin).toNat * 1 ≤ x.toInt.natAbs * 2 ^ (0 - Jvm.FP.Core.b64.qmin).toNat
    rw [Int.sub_self]
    refine Nat.le_trans (by decide +kernel : 2048 * 2 ^ (0 : Int).toNat * 2 ^ (0 : Int).toNat * 1 ≤ 1 * 2 ^ (0 - Jvm.FP.Core.b64.qmin).toNat) (Nat.mul_le_mul_right _ hA)
theorem fp_quot {f : Jvm.FP.Core.Fmt} {s t : Bool} {c d : Nat} {q r : Int} (hd : ¬ d = 0) : Jvm.FP.Core.quotient f (.fin s c q) (.fin t d r) = Jvm.FP.Core.roundRatio f (s != t) c d (q - r) := by
  simp [Jvm.FP.Core.quotient, hd]
theorem fp_q {x : Int32} (h : ¬ x = 0) : Jvm.FP.Core.val64 (FP.ddiv (FP.i2d x) fpC) ≠ .nan ∧ 1 ≤ Jvm.FP.Core.zmag Jvm.FP.Core.b64 (Jvm.FP.Core.val64 (FP.ddiv (FP.i2d x) fpC)) := by
  have hb := fp_big h
  rw [show Jvm.FP.Core.val64 (FP.ddiv (FP.i2d x) fpC) = Jvm.FP.Core.quotient Jvm.FP.Core.b64 (Jvm.FP.Core.val64 (FP.i2d x)) (Jvm.FP.Core.val64 fpC) from Jvm.FP.Core.val64_ddiv _ _, fpC_v]
  have hf := Jvm.FP.Core.val64_fits (FP.i2d x)
  have hc := Jvm.FP.Core.roundRatio_cases Jvm.FP.Core.b64 (decide (x.toInt < 0)) x.toInt.natAbs 1 0
  rw [← fp_i2d] at hc
  rcases hc with ⟨c, q, e⟩ | e
  · rw [e] at hb hf ⊢
    have hz : 2048 ≤ c * 2 ^ (q - Jvm.FP.Core.b64.qmin).toNat := hb
    have hq : Jvm.FP.Core.b64.qmin ≤ q := hf.2.1
    rw [fp_quot (by decide)]
    refine ⟨Jvm.FP.Core.roundRatio_ne_nan _ _ _ _ _, ?_⟩
    have := Jvm.FP.Core.zmag_roundRatio_ge (f := Jvm.FP.Core.b64) (s := (decide (x.toInt < 0) != false)) (A := c) (B := 2000 * 2 ^ 42) (e := q - -42) (V := .fin false 1 Jvm.FP.Core.b64.qmin) (e0 := Jvm.FP.Core.b64.qmin) Jvm.FP.Core.good_b64 (by decide) ⟨by decide, Int.le_refl _, by decide, Or.inl rfl⟩ (Int.le_refl _) (by omega) (by
      show 1 * 2 ^ (Jvm.FP.Core.b64.qmin - Jvm.FP.Core.b64.qmin).toNat * 2 ^ (Jvm.FP.Core.b64.qmin - Jvm.FP.Core.b64.qmin).toNat * (2000 * 2 ^ 42) ≤ c * 2 ^ (q - -42 - Jvm.FP.Core.b64.qmin).toNat
      rw [Int.sub_self, show (q - -42 - Jvm.FP.Core.b64.qmin).toNat = (q - Jvm.FP.Core.b64.qmin).toNat + 42 by omega, Nat.pow_add]
      refine Nat.le_trans (by decide +kernel : 1 * 2 ^ (0 : Int).toNat * 2 ^ (0 : Int).toNat * (2000 * 2 ^ 42) ≤ 2048 * 2 ^ 42) (Nat.le_trans (Nat.mul_le_mul_right _ hz) (Nat.le_of_eq (Nat.mul_assoc _ _ _))))
    refine Nat.le_trans ?_ this
    show 1 ≤ 1 * 2 ^ (Jvm.FP.Core.b64.qmin - Jvm.FP.Core.b64.qmin).toNat
    rw [Int.sub_self]
    decide
  · rw [e]
    refine ⟨Jvm.FP.Core.Datum.noConfusion, ?_⟩
    show 1 ≤ Jvm.FP.Core.b64.tails * 2 ^ (Jvm.FP.Core.b64.exps - 2)
    exact Nat.mul_pos (Jvm.FP.Core.tails_pos _) (Nat.two_pow_pos _)
theorem fp_div (x : Int32) : vf_n64 (FP.ddiv (FP.i2d x) fpC) ∧ (Op.cmpValue (FP.dcmp (FP.ddiv (FP.i2d x) fpC) 0) .l = 0 ↔ x = 0) := by
  by_cases h : x = 0
  · rw [h]
    refine ⟨?_, ?_⟩
    · unfold vf_n64
      decide +kernel
    · refine ⟨fun _ => rfl, fun _ => ?_⟩
      decide +kernel
  · obtain ⟨h1, h2⟩ := fp_q h
    refine ⟨fp_n64 h1, ⟨fun q => ?_, fun q => absurd q h⟩⟩
    exfalso
    have h0 : Jvm.FP.Core.val64 0 ≠ .nan := by decide +kernel
    have ho : FP.dcmp (FP.ddiv (FP.i2d x) fpC) 0 = some (compare (Jvm.FP.Core.zval Jvm.FP.Core.b64 (Jvm.FP.Core.val64 (FP.ddiv (FP.i2d x) fpC))) (Jvm.FP.Core.zval Jvm.FP.Core.b64 (Jvm.FP.Core.val64 0))) := Jvm.FP.Core.order_zval Jvm.FP.Core.good_b64 (Jvm.FP.Core.val64_fits _) (Jvm.FP.Core.val64_fits _) h1 h0
    have hz0 : Jvm.FP.Core.zval Jvm.FP.Core.b64 (Jvm.FP.Core.val64 0) = 0 := by decide +kernel
    rw [ho, hz0] at q
    have hz : ¬ Jvm.FP.Core.zval Jvm.FP.Core.b64 (Jvm.FP.Core.val64 (FP.ddiv (FP.i2d x) fpC)) = 0 := by
      unfold Jvm.FP.Core.zval Jvm.FP.Core.signed
      split <;> omega
    generalize Jvm.FP.Core.zval Jvm.FP.Core.b64 (Jvm.FP.Core.val64 (FP.ddiv (FP.i2d x) fpC)) = z at q hz
    rcases Int.lt_trichotomy z 0 with hlt | heq | hgt
    · rw [show compare z 0 = .lt from Int.compare_eq_lt.mpr hlt] at q
      exact absurd q (by decide)
    · exact hz heq
    · rw [show compare z 0 = .gt from Int.compare_eq_gt.mpr hgt] at q
      exact absurd q (by decide)

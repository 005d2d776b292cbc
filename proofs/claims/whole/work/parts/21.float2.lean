/-! doubles: differences, quotients of longs, powers of two -/
theorem val_neg_dsub {x y : UInt64} (hx : FP.Core.DFin x) (hy : FP.Core.DFin y) (h : zV x ≠ zV y) : FP.dneg (FP.dsub x y) = FP.dsub y x := by
  have n1 : FP.Core.val64 (FP.dsub x y) ≠ .nan := (FP.Core.notNaN_iff _).mp (FP.Core.dsub_out hx.notNaN hy)
  refine FP.Core.val64_inj (by rw [FP.val64_dneg]; exact FP.Core.negate_ne_nan n1) ?_
  rw [FP.val64_dneg, show FP.Core.val64 (FP.dsub x y) = _ from FP.Core.val64_dsub x y, show FP.Core.val64 (FP.dsub y x) = _ from FP.Core.val64_dsub y x, FP.Core.negate_round]
  congr 1
  have fx := FP.Core.val64_fits x
  have fy := FP.Core.val64_fits y
  unfold zV at h
  obtain ⟨s, a, q, e1⟩ := hx
  obtain ⟨t, d, r, e2⟩ := hy
  rw [e1] at fx h ⊢
  rw [e2] at fy h ⊢
  have b1 := fx.2.1
  have b2 := fy.2.1
  have hne : FP.Core.sumUnits s a q (!t) d r (min q r) ≠ 0 := by
    intro h9
    apply h
    unfold FP.Core.sumUnits at h9
    rw [FP.Core.signed_not] at h9
    show FP.Core.signed s (FP.Core.inUnits a q _) = FP.Core.signed t (FP.Core.inUnits d r _)
    rw [FP.Core.inUnits_move a (q := q) (e := FP.Core.b64.qmin) (r := min q r) (by omega) (by omega), FP.Core.inUnits_move d (q := r) (e := FP.Core.b64.qmin) (r := min q r) (by omega) (by omega)]
    rw [FP.Core.signed_mul, FP.Core.signed_mul]
    congr 1
    omega
  have hsw : FP.Core.sumUnits t d r (!s) a q (min r q) = -FP.Core.sumUnits s a q (!t) d r (min q r) := by
    rw [Int.min_comm r q]
    unfold FP.Core.sumUnits
    rw [FP.Core.signed_not, FP.Core.signed_not]
    omega
  show FP.Core.Datum.fin _ _ _ = FP.Core.Datum.fin _ _ _
  rw [hsw]
  generalize FP.Core.sumUnits s a q (!t) d r (min q r) = v at hne ⊢
  unfold FP.Core.sumSign
  rw [if_neg hne, if_neg (by omega : ¬ -v = 0), Int.natAbs_neg, Int.min_comm r q]
  congr 1
  by_cases h9 : v < 0
  · simp [h9]; omega
  · simp [h9]; omega
theorem sub_sign {x y : UInt64} (hx : FP.Core.DFin x) (hy : FP.Core.DFin y) : zV (FP.dsub x y) < 0 ↔ zV x < zV y := by
  have fx := FP.Core.val64_fits x
  have fy := FP.Core.val64_fits y
  have hy' : ∃ s c q, FP.Core.negate (FP.Core.val64 y) = .fin s c q := by
    obtain ⟨s, c, q, h9⟩ := hy
    exact ⟨_, _, _, by rw [h9]; rfl⟩
  have zn := FP.Core.zval_negate FP.Core.b64 (FP.Core.val64 y)
  unfold zV
  rw [show FP.Core.val64 (FP.dsub x y) = _ from FP.Core.val64_dsub x y]
  constructor
  · intro h
    refine Int.lt_of_not_ge (fun h9 => ?_)
    have h1 := FP.Core.sum_ge FP.Core.good_b64 hx hy' fx (FP.Core.negate_fits fy) (V := .fin false 0 FP.Core.b64.qmin) (FP.Core.zero_fits FP.Core.good_b64 _) (by intro h; cases h) (by
      rw [zn, show FP.Core.zval FP.Core.b64 (.fin false 0 FP.Core.b64.qmin) = 0 by decide +kernel]; omega)
    rw [show FP.Core.zval FP.Core.b64 (.fin false 0 FP.Core.b64.qmin) = 0 by decide +kernel] at h1
    omega
  · intro h
    have h1 := FP.Core.sum_le FP.Core.good_b64 hx hy' fx (FP.Core.negate_fits fy) (V := .fin true 1 FP.Core.b64.qmin) (by simp only [FP.Core.fits]; decide +kernel) (by intro h; cases h) (by
      rw [zn, show FP.Core.zval FP.Core.b64 (.fin true 1 FP.Core.b64.qmin) = -1 by decide +kernel]; omega)
    rw [show FP.Core.zval FP.Core.b64 (.fin true 1 FP.Core.b64.qmin) = -1 by decide +kernel] at h1
    omega
theorem zV_0 : zV FP.dconst0 = 0 := by decide +kernel
theorem fin_0 : FP.Core.DFin FP.dconst0 := (dB_0 0).1
theorem cmp_lt {x y : UInt64} (hx : FP.Core.DFin x) (hy : FP.Core.DFin y) : FP.dcmp x y = some .lt ↔ zV x < zV y := by
  rw [show FP.dcmp x y = _ from FP.Core.dcmp_zval hx.ne_nan hy.ne_nan, Option.some.injEq, FP.Core.compare_lt_iff]; rfl
theorem cmp_gt {x y : UInt64} (hx : FP.Core.DFin x) (hy : FP.Core.DFin y) : FP.dcmp x y = some .gt ↔ zV y < zV x := by
  rw [show FP.dcmp x y = _ from FP.Core.dcmp_zval hx.ne_nan hy.ne_nan, Option.some.injEq, FP.Core.compare_gt_iff]; rfl
theorem cmp_eq {x y : UInt64} (hx : FP.Core.DFin x) (hy : FP.Core.DFin y) : FP.dcmp x y = some .eq ↔ zV x = zV y := by
  rw [show FP.dcmp x y = _ from FP.Core.dcmp_zval hx.ne_nan hy.ne_nan, Option.some.injEq, FP.Core.compare_eq_iff]; rfl
theorem cmp_nn {x y : UInt64} (hx : FP.Core.DFin x) (hy : FP.Core.DFin y) : FP.dcmp x y ≠ none := by
  rw [show FP.dcmp x y = _ from FP.Core.dcmp_zval hx.ne_nan hy.ne_nan]; intro h; cases h
/-- how far two doubles lie apart, as the reference says it -/
def dfD (x y : UInt64) : UInt64 := if FP.dcmp x y = some .lt then FP.dsub y x else FP.dsub x y
/-- as the class says it -/
theorem dist_eq {x y : UInt64} (hx : FP.Core.DFin x) (hy : FP.Core.DFin y) (hd : FP.Core.DFin (FP.dsub x y)) : (if FP.dcmp (FP.dsub x y) FP.dconst0 = some .lt then FP.dneg (FP.dsub x y) else FP.dsub x y) = dfD x y := by
  unfold dfD
  have h1 := cmp_lt hd fin_0
  rw [zV_0] at h1
  have h2 := sub_sign hx hy
  have h3 := cmp_lt hx hy
  by_cases h : zV x < zV y
  · rw [if_pos (h1.mpr (h2.mpr h)), if_pos (h3.mpr h)]
    exact val_neg_dsub hx hy (by omega)
  · rw [if_neg (fun q => h (h2.mp (h1.mp q))), if_neg (fun q => h (h3.mp q))]
theorem df_self {x : UInt64} (hx : FP.Core.DFin x) : dfD x x = FP.dconst0 := by
  unfold dfD
  have h : FP.dsub x x = FP.dconst0 := by
    obtain ⟨s, a, q, e1⟩ := hx
    exact FP.Core.dsub_self e1
  split <;> exact h
/-- the greater of two, as both say it -/
def mxD (a b : UInt64) : UInt64 := if FP.dcmp a b = some .gt then a else b
/-- bounds by the exponent -/
theorem bits_B {B : Nat} {x : UInt64} (h : dB B x) (hB : B ≤ 2 ^ 53) : x.toNat % 2 ^ 63 < 1077 * 2 ^ 52 := by
  have h1 := FP.Core.zmag_bits h.1.ne_nan
  have h2 : zM x ≤ 2 ^ 53 * FP.Core.one64 := Nat.le_trans h.2 (Nat.mul_le_mul_right _ hB)
  refine (FP.Core.unitsOf_lt_iff (f := FP.Core.b64)).mp ?_
  rw [← h1, show (1077 * 2 ^ 52 : Nat) = 1077 * FP.Core.b64.tails by decide, FP.Core.unitsOf_start (by decide)]
  exact Nat.lt_of_le_of_lt h2 (by decide +kernel)
theorem fin_div_l {a b : Int64} (hb : b ≠ 0) : (FP.ddiv (FP.l2d a) (FP.l2d b)).toNat % 2 ^ 63 < 1200 * 2 ^ 52 := by
  have h1 := FP.Core.l2d_mag a
  have h2 := FP.Core.l2d_big (FP.Core.int64_ne hb)
  exact Nat.lt_of_lt_of_le (FP.Core.ddiv_mag (a := FP.l2d a) (b := FP.l2d b) h1 h2.1 h2.2 (by decide) (by decide)) (by decide)
theorem fin_sub_bits {x y : UInt64} (hx : x.toNat % 2 ^ 63 < 1200 * 2 ^ 52) (hy : y.toNat % 2 ^ 63 < 1200 * 2 ^ 52) : FP.Core.DFin (FP.dsub x y) :=
  FP.Core.fin_of_lt (K := 1202) (FP.Core.dsub_mag hx hy (by decide)) (by decide)
theorem fin_bits_of {x : UInt64} (hx : x.toNat % 2 ^ 63 < 1200 * 2 ^ 52) : FP.Core.DFin x := FP.Core.fin_of_lt hx (by decide)

/-! the bits of a double, said by its digits and its exponent -/
theorem lt_top64 {c k : Nat} (hc : c < 2 ^ 53) (hk : k ≤ 2045) : c * 2 ^ k < FP.Core.b64.tails * 2 ^ (FP.Core.b64.exps - 2) :=
  Nat.lt_of_lt_of_le (Nat.mul_lt_mul_of_lt_of_le hc (Nat.pow_le_pow_right (by decide) hk) (Nat.two_pow_pos _)) (by decide +kernel)
/-- a double from 0 on: c times 2 to the k, in least units -/
def pR (c k : Nat) (x : UInt64) : Prop := FP.Core.DFin x ∧ 0 ≤ zV x ∧ zM x = c * 2 ^ k
def dS (v : UInt64) : Bool := FP.Core.sgn (FP.Core.val64 v)
def dC (v : UInt64) : Nat := match FP.Core.val64 v with | .fin _ c _ => c | _ => 0
def dK (v : UInt64) : Nat := match FP.Core.val64 v with | .fin _ _ q => (q + 1074).toNat | _ => 0
theorem zV_eq (x : UInt64) : zV x = FP.Core.signed (dS x) (zM x) := rfl
theorem pR_V {c k : Nat} {x : UInt64} (h : pR c k x) : zV x = ((c * 2 ^ k : Nat) : Int) := by
  have h1 := zV_abs x
  have h2 := h.2.1
  rw [h.2.2] at h1
  omega
theorem dec64 {v : UInt64} (h : FP.Core.DFin v) : dC v < 2 ^ 53 ∧ dK v ≤ 2045 ∧ (dK v = 0 ∨ 2 ^ 52 ≤ dC v) ∧ zM v = dC v * 2 ^ dK v := by
  obtain ⟨s, c, q, e⟩ := h
  have f := FP.Core.val64_fits v
  unfold zM dC dK
  rw [e] at f ⊢
  obtain ⟨f1, f2, f3, f4⟩ := f
  have hq : FP.Core.b64.qmin = -1074 := by decide
  have hx : FP.Core.b64.qmax = 971 := by decide
  have ht : FP.Core.b64.tails = 2 ^ 52 := by decide
  show c < 2 ^ 53 ∧ (q + 1074).toNat ≤ 2045 ∧ ((q + 1074).toNat = 0 ∨ 2 ^ 52 ≤ c) ∧ FP.Core.zmag FP.Core.b64 (.fin s c q) = c * 2 ^ (q + 1074).toNat
  refine ⟨f1, by omega, ?_, ?_⟩
  · rcases f4 with f4 | f4
    · left; omega
    · right; omega
  · show c * 2 ^ (q - FP.Core.b64.qmin).toNat = c * 2 ^ (q + 1074).toNat
    rw [hq, show q - -1074 = q + 1074 by omega]
theorem mul_ex {c k : Nat} {x y : UInt64} (hx : FP.Core.DFin x) (hy : FP.Core.DFin y) (hc : c < 2 ^ 53) (hk : k ≤ 2045) (h : zM x * zM y = c * 2 ^ k * FP.Core.one64) :
    FP.Core.DFin (FP.dmul x y) ∧ zM (FP.dmul x y) = c * 2 ^ k ∧ dS (FP.dmul x y) = (dS x != dS y) := by
  have nn : FP.Core.val64 (FP.dmul x y) ≠ .nan := (FP.Core.notNaN_iff _).mp (FP.Core.dmul_out hx hy)
  have key : zM (FP.dmul x y) = c * 2 ^ k ∧ dS (FP.dmul x y) = (dS x != dS y) := by
    have fx := FP.Core.val64_fits x
    have fy := FP.Core.val64_fits y
    unfold zM dS at *
    rw [show FP.Core.val64 (FP.dmul x y) = _ from FP.Core.val64_dmul x y]
    obtain ⟨s, a, q, e1⟩ := hx
    obtain ⟨t, d, r, e2⟩ := hy
    rw [e1] at fx h ⊢
    rw [e2] at fy h ⊢
    obtain ⟨p1, p2, p3⟩ := FP.Core.product_units fx fy
    rw [p1]
    obtain ⟨c1, q1, f1, z1⟩ := rep64 false hc hk
    have k0 : 2 ^ (FP.Core.b64.qmin - 2 * FP.Core.b64.qmin).toNat = FP.Core.one64 := by decide +kernel
    refine ⟨?_, FP.Core.sgn_roundRatio _ _ _ _ _⟩
    rw [← z1]
    refine Nat.le_antisymm ?_ ?_
    · refine FP.Core.zmag_roundRatio_le FP.Core.good_b64 (by decide) f1 (by intro h; cases h) (e0 := 2 * FP.Core.b64.qmin) (by decide) p2 ?_
      rw [p3, z1, Nat.mul_one, k0]; exact Nat.le_of_eq h
    · refine FP.Core.zmag_roundRatio_ge FP.Core.good_b64 (by decide) f1 (e0 := 2 * FP.Core.b64.qmin) (by decide) p2 ?_
      rw [p3, z1, Nat.mul_one, k0]; exact Nat.le_of_eq h.symm
  exact ⟨fin_zM nn (Nat.le_of_eq key.1) (lt_top64 hc hk), key.1, key.2⟩
theorem div_ex {c k : Nat} {x y : UInt64} (hx : FP.Core.DFin x) (hy : FP.Core.DFin y) (h0 : zM y ≠ 0) (hc : c < 2 ^ 53) (hk : k ≤ 2045) (h : zM x * FP.Core.one64 = c * 2 ^ k * zM y) :
    FP.Core.DFin (FP.ddiv x y) ∧ zM (FP.ddiv x y) = c * 2 ^ k ∧ dS (FP.ddiv x y) = (dS x != dS y) := by
  have hz : ¬ FP.Core.DZero y := by
    rintro ⟨s, q, h9⟩
    apply h0
    unfold zM
    rw [h9]
    exact Nat.zero_mul _
  have nn : FP.Core.val64 (FP.ddiv x y) ≠ .nan := (FP.Core.notNaN_iff _).mp (FP.Core.ddiv_out hx.notNaN hy hz)
  have key : zM (FP.ddiv x y) = c * 2 ^ k ∧ dS (FP.ddiv x y) = (dS x != dS y) := by
    have fx := FP.Core.val64_fits x
    have fy := FP.Core.val64_fits y
    unfold zM dS at *
    rw [show FP.Core.val64 (FP.ddiv x y) = _ from FP.Core.val64_ddiv x y]
    obtain ⟨s, a, q, e1⟩ := hx
    obtain ⟨t, d, r, e2⟩ := hy
    rw [e1] at fx h ⊢
    rw [e2] at fy h ⊢
    have hd : d ≠ 0 := by
      intro h9; subst h9
      exact hz ⟨t, r, e2⟩
    have hqt : FP.Core.quotient FP.Core.b64 (.fin s a q) (.fin t d r) = FP.Core.roundRatio FP.Core.b64 (s != t) a d (q - r) := by
      simp only [FP.Core.quotient]; rw [if_neg hd]
    rw [hqt]
    obtain ⟨c1, q1, f1, z1⟩ := rep64 false hc hk
    have hq : FP.Core.b64.qmin = -1074 := by decide
    have hqx : FP.Core.b64.qmax = 971 := by decide
    have b1 := fx.2.1
    have b2 := fx.2.2.1
    have b3 := fy.2.1
    have b4 := fy.2.2.1
    have k1 : (q - r - -4000).toNat + (r - FP.Core.b64.qmin).toNat = (q - FP.Core.b64.qmin).toNat + 4000 := by omega
    have k2 : (FP.Core.b64.qmin - -4000).toNat = 2926 := by decide
    have h : a * 2 ^ (q - FP.Core.b64.qmin).toNat * 2 ^ 1074 = c * 2 ^ k * (d * 2 ^ (r - FP.Core.b64.qmin).toNat) := h
    have main : FP.Core.inUnits a (q - r) (-4000) = c * 2 ^ k * 2 ^ (FP.Core.b64.qmin - -4000).toNat * d := by
      unfold FP.Core.inUnits
      rw [k2]
      refine Nat.eq_of_mul_eq_mul_right (Nat.two_pow_pos (r - FP.Core.b64.qmin).toNat) ?_
      rw [Nat.mul_assoc a, ← Nat.pow_add, k1, Nat.pow_add, ← Nat.mul_assoc, Nat.mul_assoc _ d, show (4000 : Nat) = 1074 + 2926 from rfl, Nat.pow_add 2 1074 2926, ← Nat.mul_assoc, h]
      generalize 2 ^ 2926 = v
      generalize c * 2 ^ k = n
      rw [Nat.mul_right_comm]
    refine ⟨?_, FP.Core.sgn_roundRatio _ _ _ _ _⟩
    rw [← z1]
    refine Nat.le_antisymm ?_ ?_
    · refine FP.Core.zmag_roundRatio_le FP.Core.good_b64 (Nat.pos_of_ne_zero hd) f1 (by intro h; cases h) (e0 := -4000) (by decide) (by omega) ?_
      rw [z1]; exact Nat.le_of_eq main
    · refine FP.Core.zmag_roundRatio_ge FP.Core.good_b64 (Nat.pos_of_ne_zero hd) f1 (e0 := -4000) (by decide) (by omega) ?_
      rw [z1]; exact Nat.le_of_eq main.symm
  exact ⟨fin_zM nn (Nat.le_of_eq key.1) (lt_top64 hc hk), key.1, key.2⟩
theorem sub_ex {c k : Nat} {x y : UInt64} (hx : FP.Core.DFin x) (hy : FP.Core.DFin y) (hc : c < 2 ^ 53) (hk : k ≤ 2045) (h : zV x - zV y = ((c * 2 ^ k : Nat) : Int)) : pR c k (FP.dsub x y) := by
  have nn : FP.Core.val64 (FP.dsub x y) ≠ .nan := (FP.Core.notNaN_iff _).mp (FP.Core.dsub_out hx.notNaN hy)
  have fx := FP.Core.val64_fits x
  have fy := FP.Core.val64_fits y
  have hy' : ∃ s c q, FP.Core.negate (FP.Core.val64 y) = .fin s c q := by
    obtain ⟨s, c, q, h9⟩ := hy
    exact ⟨_, _, _, by rw [h9]; rfl⟩
  have zn := FP.Core.zval_negate FP.Core.b64 (FP.Core.val64 y)
  obtain ⟨c1, q1, f1, z1⟩ := rep64 false hc hk
  have v1 : FP.Core.zval FP.Core.b64 (.fin false c1 q1) = ((c * 2 ^ k : Nat) : Int) := by rw [← z1]; rfl
  have key : zV (FP.dsub x y) = ((c * 2 ^ k : Nat) : Int) := by
    unfold zV at h ⊢
    rw [show FP.Core.val64 (FP.dsub x y) = _ from FP.Core.val64_dsub x y]
    have h1 := FP.Core.sum_le FP.Core.good_b64 hx hy' fx (FP.Core.negate_fits fy) f1 (by intro h; cases h) (by rw [v1, zn]; omega)
    have h2 := FP.Core.sum_ge FP.Core.good_b64 hx hy' fx (FP.Core.negate_fits fy) f1 (by intro h; cases h) (by rw [v1, zn]; omega)
    rw [v1] at h1 h2
    omega
  have ab := zV_abs (FP.dsub x y)
  have zm : zM (FP.dsub x y) = c * 2 ^ k := by rw [key] at ab; omega
  exact ⟨fin_zM nn (Nat.le_of_eq zm) (lt_top64 hc hk), by rw [key]; omega, zm⟩
theorem pR_s {c k : Nat} {x z : UInt64} (h : pR c k x) (hs : dS z = dS x) (hz : FP.Core.DFin z) {n : Nat} (hm : zM z = c * n) : 0 ≤ zV z := by
  have h1 := h.2.1
  rw [zV_eq] at h1 ⊢
  rw [hs, hm]
  rw [h.2.2] at h1
  cases hb : dS x
  · show (0 : Int) ≤ ((c * n : Nat) : Int); omega
  · rw [hb] at h1
    have h2 : (0 : Int) ≤ -((c * 2 ^ k : Nat) : Int) := h1
    have h3 : c * 2 ^ k = 0 := by omega
    have h4 : c = 0 := by
      rcases Nat.mul_eq_zero.mp h3 with h4 | h4
      · exact h4
      · exact absurd h4 (Nat.ne_of_gt (Nat.two_pow_pos k))
    subst h4
    show (0 : Int) ≤ -((0 * n : Nat) : Int)
    rw [Nat.zero_mul]; decide
theorem fin_2 : FP.Core.DFin 4611686018427387904 := ⟨false, 2 ^ 52, -51, by decide +kernel⟩
theorem zM_2 : zM 4611686018427387904 = 2 ^ 1075 := by decide +kernel
theorem fin_1 : FP.Core.DFin FP.dconst1 := ⟨_, _, _, FP.Core.val64_dconst1⟩
theorem zV_1 : zV FP.dconst1 = ((2 ^ 1074 : Nat) : Int) := by decide +kernel
theorem zV_2 : zV 4611686018427387904 = ((2 ^ 1075 : Nat) : Int) := by decide +kernel
theorem dS_2 : dS 4611686018427387904 = false := by decide +kernel
theorem fin_52 : FP.Core.DFin 4841369599423283200 := ⟨false, 2 ^ 52, 0, by decide +kernel⟩
theorem zM_52 : zM 4841369599423283200 = 2 ^ 52 * 2 ^ 1074 := by decide +kernel
theorem dS_52 : dS 4841369599423283200 = false := by decide +kernel
theorem l2d_52 : FP.l2d 4503599627370496 = 4841369599423283200 := by decide +kernel
theorem fin_least : FP.Core.DFin 4503599627370496 := ⟨false, 2 ^ 52, -1074, by decide +kernel⟩
theorem zV_least : zV 4503599627370496 = ((2 ^ 52 : Nat) : Int) := by decide +kernel
theorem pR_dbl {c k : Nat} {x : UInt64} (h : pR c k x) (hc : c < 2 ^ 53) (hk : k + 1 ≤ 2045) : pR c (k + 1) (FP.dmul x 4611686018427387904) := by
  obtain ⟨h1, h2, h3⟩ := mul_ex (c := c) (k := k + 1) h.1 fin_2 hc hk (by
    rw [h.2.2, zM_2]
    unfold FP.Core.one64
    rw [Nat.mul_assoc, Nat.mul_assoc, ← Nat.pow_add, ← Nat.pow_add, show k + 1075 = k + 1 + 1074 by omega])
  exact ⟨h1, pR_s h (by rw [h3, dS_2, Bool.bne_false]) h1 h2, h2⟩
theorem pR_half {c k : Nat} {x : UInt64} (h : pR c (k + 1) x) (hc : c < 2 ^ 53) (hk : k ≤ 2045) : pR c k (FP.ddiv x 4611686018427387904) := by
  obtain ⟨h1, h2, h3⟩ := div_ex (c := c) (k := k) h.1 fin_2 (by rw [zM_2]; exact Nat.ne_of_gt (Nat.two_pow_pos _)) hc hk (by
    rw [h.2.2, zM_2]
    unfold FP.Core.one64
    rw [Nat.mul_assoc, Nat.mul_assoc, ← Nat.pow_add, ← Nat.pow_add, show k + 1 + 1074 = k + 1075 by omega])
  exact ⟨h1, pR_s h (by rw [h3, dS_2, Bool.bne_false]) h1 h2, h2⟩
theorem pR_52 {c : Nat} {x : UInt64} (h : pR c 1022 x) (hc : c < 2 ^ 53) : pR c 1074 (FP.dmul x 4841369599423283200) := by
  obtain ⟨h1, h2, h3⟩ := mul_ex (c := c) (k := 1074) h.1 fin_52 hc (by decide) (by
    rw [h.2.2, zM_52]
    unfold FP.Core.one64
    rw [← Nat.mul_assoc, Nat.mul_assoc c, ← Nat.pow_add])
  exact ⟨h1, pR_s h (by rw [h3, dS_52, Bool.bne_false]) h1 h2, h2⟩
theorem pR_m1 {c : Nat} {x : UInt64} (h : pR c 1022 x) (hc : c < 2 ^ 53) (hl : 2 ^ 52 ≤ c) : pR (c - 2 ^ 52) 1022 (FP.dsub x FP.dconst1) := by
  refine sub_ex h.1 fin_1 (Nat.lt_of_le_of_lt (Nat.sub_le _ _) hc) (by decide) ?_
  rw [pR_V h, zV_1, Nat.sub_mul, ← Nat.pow_add]
  have h1 : 2 ^ (52 + 1022) ≤ c * 2 ^ 1022 := by rw [Nat.pow_add]; exact Nat.mul_le_mul_right _ hl
  rw [show 52 + 1022 = 1074 from rfl] at h1 ⊢
  generalize c * 2 ^ 1022 = n at h1 ⊢
  generalize 2 ^ 1074 = o at h1 ⊢
  omega
theorem sgz {s : Bool} {c o : Nat} (ho : 0 < o) (h : 0 ≤ FP.Core.signed s (c * o)) : FP.Core.signed s c = (c : Int) := by
  cases s
  · rfl
  · have h2 : (0 : Int) ≤ -((c * o : Nat) : Int) := h
    have h3 : c * o = 0 := by omega
    rcases Nat.mul_eq_zero.mp h3 with h4 | h4
    · subst h4; rfl
    · omega
theorem d2l_w {x : UInt64} {c : Nat} (hf : FP.Core.DFin x) (h0 : 0 ≤ zV x) (hm : zM x = c * FP.Core.one64) (hc : c < 2 ^ 53) : FP.d2l x = lN c := by
  apply Int64.toInt_inj.mp
  have h1 := FP.Core.d2l_val hf.ne_nan
  rw [zV_eq, hm] at h0
  have h4 := sgz FP.Core.one64_pos h0
  have h3 : zM x / FP.Core.one64 = c := by rw [hm]; exact Nat.mul_div_cancel _ FP.Core.one64_pos
  rw [show FP.d2l x = FP.Core.d2l x from rfl, h1]
  show max (-2 ^ 63) (min (2 ^ 63 - 1) (FP.Core.signed (dS x) (zM x / FP.Core.one64))) = _
  rw [h3, h4, pk_lT (by omega)]
  omega
theorem pR_l {c : Nat} {x : UInt64} (h : pR c 1074 x) (hc : c < 2 ^ 53) : FP.d2l x = lN c := d2l_w h.1 h.2.1 h.2.2 hc
theorem pR_ge2 {c k : Nat} {x : UInt64} (h : pR c k x) (hc : c < 2 ^ 53) (hl : 2 ^ 52 ≤ c) : FP.dcmp x 4611686018427387904 = some .lt ↔ k < 1023 := by
  rw [cmp_lt h.1 fin_2, pR_V h, zV_2]
  constructor
  · intro h9
    refine Nat.lt_of_not_ge (fun h8 => ?_)
    have h7 : 2 ^ 1075 ≤ c * 2 ^ k := by
      rw [show 1075 = 52 + 1023 from rfl, Nat.pow_add]
      exact Nat.mul_le_mul hl (Nat.pow_le_pow_right (by decide) h8)
    generalize c * 2 ^ k = n at h7 h9
    generalize 2 ^ 1075 = o at h7 h9
    omega
  · intro h9
    have h7 : c * 2 ^ k < 2 ^ 1075 := by
      rw [show 1075 = 53 + 1022 from rfl, Nat.pow_add]
      exact Nat.mul_lt_mul_of_lt_of_le hc (Nat.pow_le_pow_right (by decide) (by omega)) (Nat.two_pow_pos _)
    generalize c * 2 ^ k = n at h7 ⊢
    generalize 2 ^ 1075 = o at h7 ⊢
    omega
theorem pR_lt1 {c k : Nat} {x : UInt64} (h : pR c k x) (hc : c < 2 ^ 53) (hl : 2 ^ 52 ≤ c) : FP.dcmp x FP.dconst1 = some .lt ↔ k < 1022 := by
  rw [cmp_lt h.1 fin_1, pR_V h, zV_1]
  constructor
  · intro h9
    refine Nat.lt_of_not_ge (fun h8 => ?_)
    have h7 : 2 ^ 1074 ≤ c * 2 ^ k := by
      rw [show 1074 = 52 + 1022 from rfl, Nat.pow_add]
      exact Nat.mul_le_mul hl (Nat.pow_le_pow_right (by decide) h8)
    generalize c * 2 ^ k = n at h7 h9
    generalize 2 ^ 1074 = o at h7 h9
    omega
  · intro h9
    have h7 : c * 2 ^ k < 2 ^ 1074 := by
      rw [show 1074 = 53 + 1021 from rfl, Nat.pow_add]
      exact Nat.mul_lt_mul_of_lt_of_le hc (Nat.pow_le_pow_right (by decide) (by omega)) (Nat.two_pow_pos _)
    generalize c * 2 ^ k = n at h7 ⊢
    generalize 2 ^ 1074 = o at h7 ⊢
    omega
/-- small ones: below 1 as long as 1022 doublings aren't through -/
theorem pR_lt1s {c k : Nat} {x : UInt64} (h : pR c k x) (hc : c < 2 ^ 52) (hk : k ≤ 1022) : FP.dcmp x FP.dconst1 = some .lt := by
  rw [cmp_lt h.1 fin_1, pR_V h, zV_1]
  have h7 : c * 2 ^ k < 2 ^ 1074 := by
    rw [show 1074 = 52 + 1022 from rfl, Nat.pow_add]
    exact Nat.mul_lt_mul_of_lt_of_le hc (Nat.pow_le_pow_right (by decide) hk) (Nat.two_pow_pos _)
  generalize c * 2 ^ k = n at h7 ⊢
  generalize 2 ^ 1074 = o at h7 ⊢
  omega
theorem pR_ge2s {c k : Nat} {x : UInt64} (h : pR c k x) (hc : c < 2 ^ 52) (hk : k ≤ 1022) : FP.dcmp x 4611686018427387904 = some .lt := by
  rw [cmp_lt h.1 fin_2, pR_V h, zV_2]
  have h7 : c * 2 ^ k < 2 ^ 1075 := by
    rw [show 1075 = 53 + 1022 from rfl, Nat.pow_add]
    exact Nat.mul_lt_mul_of_lt_of_le (Nat.lt_trans hc (by decide)) (Nat.pow_le_pow_right (by decide) hk) (Nat.two_pow_pos _)
  generalize c * 2 ^ k = n at h7 ⊢
  generalize 2 ^ 1075 = o at h7 ⊢
  omega
/-- the sign, told by comparing -/
theorem neg_V {v : UInt64} (h : FP.Core.DFin v) : FP.dcmp v FP.dconst0 = some .lt ↔ zV v < 0 := by rw [cmp_lt h fin_0, zV_0]
theorem eq_V {v : UInt64} (h : FP.Core.DFin v) : FP.dcmp v FP.dconst0 = some .eq ↔ zV v = 0 := by rw [cmp_eq h fin_0, zV_0]
theorem sg_neg {v : UInt64} (h : zV v < 0) : dS v = true := by
  rw [zV_eq] at h
  cases hb : dS v
  · rw [hb] at h
    have h : ((zM v : Nat) : Int) < 0 := h
    omega
  · rfl
theorem sg_pos {v : UInt64} (h : 0 < zV v) : dS v = false := by
  rw [zV_eq] at h
  cases hb : dS v
  · rfl
  · rw [hb] at h
    have h : (0 : Int) < -((zM v : Nat) : Int) := h
    omega
theorem inv_0 {v : UInt64} (h : FP.Core.DFin v) (hz : zV v = 0) : FP.Core.val64 (FP.ddiv FP.dconst1 v) = .inf (dS v) := by
  rw [show FP.Core.val64 (FP.ddiv FP.dconst1 v) = _ from FP.Core.val64_ddiv _ _, show FP.Core.val64 FP.dconst1 = _ from FP.Core.val64_dconst1]
  have h1 := zV_abs v
  unfold zM at h1
  unfold dS
  obtain ⟨s, c, q, e⟩ := h
  rw [e] at h1 ⊢
  have hc : c = 0 := by
    have h2 : c * 2 ^ (q - FP.Core.b64.qmin).toNat = 0 := by
      have : FP.Core.zmag FP.Core.b64 (.fin s c q) = 0 := by rw [← h1, hz]; rfl
      exact this
    rcases Nat.mul_eq_zero.mp h2 with h3 | h3
    · exact h3
    · exact absurd h3 (Nat.ne_of_gt (Nat.two_pow_pos _))
  subst hc
  have hq : FP.Core.quotient FP.Core.b64 (.fin false (2 ^ 52) (-52)) (.fin s 0 q) = .inf (false != s) := by simp [FP.Core.quotient]
  rw [hq, Bool.false_bne]
  rfl
theorem inv_n {v : UInt64} (h : FP.Core.DFin v) (hz : zV v = 0) : vf_n64 (FP.ddiv FP.dconst1 v) := n64_nn (by rw [inv_0 h hz]; intro h9; cases h9)
theorem inv_lt {v : UInt64} (h : FP.Core.DFin v) (hz : zV v = 0) : FP.dcmp (FP.ddiv FP.dconst1 v) FP.dconst0 = some .lt ↔ dS v = true := by
  show FP.Core.order (FP.Core.val64 (FP.ddiv FP.dconst1 v)) (FP.Core.val64 FP.dconst0) = _ ↔ _
  rw [inv_0 h hz, show FP.Core.val64 FP.dconst0 = _ from FP.Core.val64_dconst0]
  cases dS v <;> decide
theorem pR_abs {v : UInt64} (h : FP.Core.DFin v) : pR (dC v) (dK v) (if FP.dcmp v FP.dconst0 = some .lt then FP.dneg v else v) := by
  have hd := (dec64 h).2.2.2
  have hn := neg_V h
  split
  · rename_i h9
    have hv : zV (FP.dneg v) = -zV v := by
      unfold zV; rw [FP.val64_dneg]; exact FP.Core.zval_negate _ _
    have hm : zM (FP.dneg v) = zM v := by
      unfold zM; rw [FP.val64_dneg]; exact zmag_neg _ _
    refine ⟨?_, by have := hn.mp h9; omega, by rw [hm]; exact hd⟩
    obtain ⟨s, c, q, e⟩ := h
    exact ⟨!s, c, q, by rw [FP.val64_dneg, e]; rfl⟩
  · rename_i h9
    exact ⟨h, Int.not_lt.mp (fun q => h9 (hn.mpr q)), hd⟩
/-- the bits, as both say them -/
def sgB (s : Bool) : Int64 := if s then (-9223372036854775808) else 0
def bsB (s : Bool) (c k : Nat) : Int64 := if c < 2 ^ 52 then sgB s ||| lN c else sgB s ||| (lN (k + 1) <<< ((nI 52).toInt64 &&& 63)) ||| lN (c - 2 ^ 52)
def bsD (v : UInt64) : Int64 := bsB (dS v) (dC v) (dK v)
theorem i32_dec {x : Int32} (h : -2000 ≤ x.toInt) : (x + (-1)).toInt = x.toInt - 1 := by
  have h1 := x.toInt_lt
  have h2 : (-1 : Int32).toInt = -1 := by decide
  rw [Int32.toInt_add, h2, Int.bmod_eq_of_le (by omega) (by omega)]
  omega
theorem i32_inc {x : Int32} (h : x.toInt < 2000) : (x + 1).toInt = x.toInt + 1 := by
  have h1 := x.le_toInt
  have h2 : (1 : Int32).toInt = 1 := by decide
  rw [Int32.toInt_add, h2, Int.bmod_eq_of_le (by omega) (by omega)]

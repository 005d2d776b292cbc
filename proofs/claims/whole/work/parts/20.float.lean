/-! doubles: bounds, comparisons with the branch behind them, powers of two -/
section FLT
variable {p : Program} {l : Launch} {e : Env} {R : Room} {s : State} {m : MethodId} {args : Array Value} {below : List Frame} {meth : Method} {c : Code} {H : Heap} {locs : List Loc} {cells slots : Nat} {Q : State → Prop}
variable {cc : ByteArray} {pc : Nat} {ls : Array Slot} {rest : List Value}
theorem cv_g (o : Option Ordering) : Op.cmpValue o .g = FP.Core.cmpInt 1 o := by rcases o with _ | (_ | _ | _) <;> rfl
theorem cv_l (o : Option Ordering) : Op.cmpValue o .l = FP.Core.cmpInt (-1) o := by rcases o with _ | (_ | _ | _) <;> rfl
theorem wd_gge (hexec : p.tables.exec = Jvm.exec) (hb : c.code = cc) {x y : UInt64} {off : Int} {tgt : Nat} (hdg : decode cc pc = .ok (.dcmp .g, 1)) (hd2 : decode cc (pc + 1) = .ok (.ifCond .ge off, 3)) (ht : ((pc + 1 : Nat) : Int) + off = (tgt : Int))
    (kt : ¬ FP.dcmp x y = some .lt → W p l e R s m args below meth c H locs cells slots Q (F0 m tgt ls rest)) (kf : FP.dcmp x y = some .lt → W p l e R s m args below meth c H locs cells slots Q (F0 m (pc + 1 + 3) ls rest)) : W p l e R s m args below meth c H locs cells slots Q (F0 m pc ls (.double y :: .double x :: rest)) := by
  refine lv_dcmp hexec hb hdg (lv_if_ge hexec hb hd2 ht (fun h => kt ?_) (fun h => kf ?_))
  · rw [cv_g] at h; exact (FP.Core.cmpInt_g_ge _).mp h
  · rw [cv_g] at h; exact Classical.byContradiction (fun q => h ((FP.Core.cmpInt_g_ge _).mpr q))
theorem wd_glt (hexec : p.tables.exec = Jvm.exec) (hb : c.code = cc) {x y : UInt64} {off : Int} {tgt : Nat} (hdg : decode cc pc = .ok (.dcmp .g, 1)) (hd2 : decode cc (pc + 1) = .ok (.ifCond .lt off, 3)) (ht : ((pc + 1 : Nat) : Int) + off = (tgt : Int))
    (kt : FP.dcmp x y = some .lt → W p l e R s m args below meth c H locs cells slots Q (F0 m tgt ls rest)) (kf : ¬ FP.dcmp x y = some .lt → W p l e R s m args below meth c H locs cells slots Q (F0 m (pc + 1 + 3) ls rest)) : W p l e R s m args below meth c H locs cells slots Q (F0 m pc ls (.double y :: .double x :: rest)) := by
  refine lv_dcmp hexec hb hdg (lv_if_lt hexec hb hd2 ht (fun h => kt ?_) (fun h => kf ?_))
  · rw [cv_g] at h; exact (FP.Core.cmpInt_g_lt _).mp h
  · rw [cv_g] at h; exact fun q => h ((FP.Core.cmpInt_g_lt _).mpr q)
theorem wd_lle (hexec : p.tables.exec = Jvm.exec) (hb : c.code = cc) {x y : UInt64} {off : Int} {tgt : Nat} (hdg : decode cc pc = .ok (.dcmp .l, 1)) (hd2 : decode cc (pc + 1) = .ok (.ifCond .le off, 3)) (ht : ((pc + 1 : Nat) : Int) + off = (tgt : Int))
    (kt : ¬ FP.dcmp x y = some .gt → W p l e R s m args below meth c H locs cells slots Q (F0 m tgt ls rest)) (kf : FP.dcmp x y = some .gt → W p l e R s m args below meth c H locs cells slots Q (F0 m (pc + 1 + 3) ls rest)) : W p l e R s m args below meth c H locs cells slots Q (F0 m pc ls (.double y :: .double x :: rest)) := by
  refine lv_dcmp hexec hb hdg (lv_if_le hexec hb hd2 ht (fun h => kt ?_) (fun h => kf ?_))
  · rw [cv_l] at h; exact (FP.Core.cmpInt_l_le _).mp h
  · rw [cv_l] at h; exact Classical.byContradiction (fun q => h ((FP.Core.cmpInt_l_le _).mpr q))
theorem wd_llt (hexec : p.tables.exec = Jvm.exec) (hb : c.code = cc) {x y : UInt64} {off : Int} {tgt : Nat} (hdg : decode cc pc = .ok (.dcmp .l, 1)) (hd2 : decode cc (pc + 1) = .ok (.ifCond .lt off, 3)) (ht : ((pc + 1 : Nat) : Int) + off = (tgt : Int))
    (kt : (FP.dcmp x y = some .lt ∨ FP.dcmp x y = none) → W p l e R s m args below meth c H locs cells slots Q (F0 m tgt ls rest)) (kf : ¬ (FP.dcmp x y = some .lt ∨ FP.dcmp x y = none) → W p l e R s m args below meth c H locs cells slots Q (F0 m (pc + 1 + 3) ls rest)) : W p l e R s m args below meth c H locs cells slots Q (F0 m pc ls (.double y :: .double x :: rest)) := by
  refine lv_dcmp hexec hb hdg (lv_if_lt hexec hb hd2 ht (fun h => kt ?_) (fun h => kf ?_))
  · rw [cv_l] at h; exact (FP.Core.cmpInt_l_lt _).mp h
  · rw [cv_l] at h; exact fun q => h ((FP.Core.cmpInt_l_lt _).mpr q)
theorem wd_lne (hexec : p.tables.exec = Jvm.exec) (hb : c.code = cc) {x y : UInt64} {off : Int} {tgt : Nat} (hdg : decode cc pc = .ok (.dcmp .l, 1)) (hd2 : decode cc (pc + 1) = .ok (.ifCond .ne off, 3)) (ht : ((pc + 1 : Nat) : Int) + off = (tgt : Int))
    (kt : ¬ FP.dcmp x y = some .eq → W p l e R s m args below meth c H locs cells slots Q (F0 m tgt ls rest)) (kf : FP.dcmp x y = some .eq → W p l e R s m args below meth c H locs cells slots Q (F0 m (pc + 1 + 3) ls rest)) : W p l e R s m args below meth c H locs cells slots Q (F0 m pc ls (.double y :: .double x :: rest)) := by
  refine lv_dcmp hexec hb hdg (lv_if_ne hexec hb hd2 ht (fun h => kt ?_) (fun h => kf ?_))
  · rw [cv_l] at h; exact fun q => h ((FP.Core.cmpInt_l_eq _).mpr q)
  · rw [cv_l] at h; exact (FP.Core.cmpInt_l_eq _).mp h
theorem wd_leq (hexec : p.tables.exec = Jvm.exec) (hb : c.code = cc) {x y : UInt64} {off : Int} {tgt : Nat} (hdg : decode cc pc = .ok (.dcmp .l, 1)) (hd2 : decode cc (pc + 1) = .ok (.ifCond .eq off, 3)) (ht : ((pc + 1 : Nat) : Int) + off = (tgt : Int))
    (kt : FP.dcmp x y = some .eq → W p l e R s m args below meth c H locs cells slots Q (F0 m tgt ls rest)) (kf : ¬ FP.dcmp x y = some .eq → W p l e R s m args below meth c H locs cells slots Q (F0 m (pc + 1 + 3) ls rest)) : W p l e R s m args below meth c H locs cells slots Q (F0 m pc ls (.double y :: .double x :: rest)) := by
  refine lv_dcmp hexec hb hdg (lv_if_eq hexec hb hd2 ht (fun h => kt ?_) (fun h => kf ?_))
  · rw [cv_l] at h; exact (FP.Core.cmpInt_l_eq _).mp h
  · rw [cv_l] at h; exact fun q => h ((FP.Core.cmpInt_l_eq _).mpr q)
end FLT
/-- magnitude and value in least units -/
def zM (x : UInt64) : Nat := FP.Core.zmag FP.Core.b64 (FP.Core.val64 x)
def zV (x : UInt64) : Int := FP.Core.zval FP.Core.b64 (FP.Core.val64 x)
def dB (B : Nat) (x : UInt64) : Prop := FP.Core.DFin x ∧ zM x ≤ B * FP.Core.one64
theorem n64_nn {x : UInt64} (h : FP.Core.val64 x ≠ .nan) : vf_n64 x := by
  unfold vf_n64
  rw [UInt64.le_iff_toNat_le, FP.Core.mask_toNat]
  exact (FP.Core.ne_nan x).mp h
theorem n64_fin {x : UInt64} (h : FP.Core.DFin x) : vf_n64 x := n64_nn h.ne_nan
theorem zV_abs (x : UInt64) : (zV x).natAbs = zM x := FP.Core.natAbs_signed _ _
theorem zV_le {x : UInt64} {n : Nat} : zM x ≤ n ↔ -(n : Int) ≤ zV x ∧ zV x ≤ n := by
  have := zV_abs x
  omega
theorem top_lt : 2 ^ 53 * FP.Core.one64 < FP.Core.b64.tails * 2 ^ (FP.Core.b64.exps - 2) := by decide +kernel
theorem fin_zM {x : UInt64} {n : Nat} (hn : FP.Core.val64 x ≠ .nan) (h : zM x ≤ n) (hB : n < FP.Core.b64.tails * 2 ^ (FP.Core.b64.exps - 2)) : FP.Core.DFin x := by
  cases hv : FP.Core.val64 x with
  | nan => exact absurd hv hn
  | inf s =>
    unfold zM at h
    rw [hv] at h
    exact absurd (Nat.lt_of_le_of_lt h hB) (Nat.lt_irrefl _)
  | fin s c q => exact ⟨s, c, q, hv⟩
theorem fin_B {x : UInt64} {B : Nat} (hn : FP.Core.val64 x ≠ .nan) (h : zM x ≤ B * FP.Core.one64) (hB : B ≤ 2 ^ 53) : dB B x :=
  ⟨fin_zM hn h (Nat.lt_of_le_of_lt (Nat.mul_le_mul_right _ hB) top_lt), h⟩
theorem dB_mono {B C : Nat} {x : UInt64} (h : dB B x) (hc : B ≤ C) : dB C x := ⟨h.1, Nat.le_trans h.2 (Nat.mul_le_mul_right _ hc)⟩
/-- a number that the format has -/
theorem rep64 (s : Bool) {c k : Nat} (hc : c < 2 ^ 53) (hk : k ≤ 2045) : ∃ c' q', FP.Core.fits FP.Core.b64 (.fin s c' q') ∧ FP.Core.zmag FP.Core.b64 (.fin s c' q') = c * 2 ^ k := by
  have hq : FP.Core.b64.qmin = -1074 := by decide
  have hx : FP.Core.b64.qmax = 971 := by decide
  obtain ⟨c', q', h1, h2⟩ := FP.Core.round_exact FP.Core.good_b64 s (c := c) (q := (k : Int) - 1074) hc (by omega) (by omega)
  refine ⟨c', q', h1 ▸ FP.Core.round_fits FP.Core.good_b64 _, ?_⟩
  show FP.Core.inUnits c' q' FP.Core.b64.qmin = _
  rw [h2, hq]
  unfold FP.Core.inUnits
  rw [show ((k : Int) - 1074 - -1074).toNat = k by omega]
theorem repN (s : Bool) {n : Nat} (hn : n ≤ 2 ^ 53) : ∃ c' q', FP.Core.fits FP.Core.b64 (.fin s c' q') ∧ FP.Core.zmag FP.Core.b64 (.fin s c' q') = n * FP.Core.one64 := by
  rcases Nat.lt_or_ge n (2 ^ 53) with h | h
  · exact rep64 s (k := 1074) h (by omega)
  · obtain ⟨c, q, h1, h2⟩ := rep64 s (c := 2 ^ 52) (k := 1075) (by decide) (by omega)
    refine ⟨c, q, h1, ?_⟩
    rw [h2, show n = 2 ^ 53 by omega]
    unfold FP.Core.one64
    rw [← Nat.pow_add, ← Nat.pow_add]
theorem zM_i2d (a : Int32) (h : 0 ≤ a.toInt) : zM (FP.i2d a) = a.toInt.natAbs * FP.Core.one64 := by
  have h1 := FP.Core.DInt_zval (FP.Core.i2d_int a)
  have h2 := zV_abs (FP.i2d a)
  unfold zV at h2
  rw [h1, Int.natAbs_mul] at h2
  exact h2.symm
theorem zM_i2d' (a : Int32) : zM (FP.i2d a) = a.toInt.natAbs * FP.Core.one64 := by
  have h1 := FP.Core.DInt_zval (FP.Core.i2d_int a)
  have h2 := zV_abs (FP.i2d a)
  unfold zV at h2
  rw [h1, Int.natAbs_mul] at h2
  exact h2.symm
theorem fin_i2d (a : Int32) : FP.Core.DFin (FP.i2d a) := by
  refine fin_zM (FP.Core.DInt_ne_nan (FP.Core.i2d_int a)) (Nat.le_of_eq (zM_i2d' a)) (Nat.lt_of_le_of_lt (Nat.mul_le_mul_right _ ?_) top_lt)
  have h1 := a.toInt_lt
  have h2 := a.le_toInt
  omega
theorem dB_i2d {a : Int32} {B : Nat} (h : a.toInt.natAbs ≤ B) : dB B (FP.i2d a) := ⟨fin_i2d a, by rw [zM_i2d']; exact Nat.mul_le_mul_right _ h⟩
theorem dB_0 (B : Nat) : dB B FP.dconst0 := by
  refine ⟨⟨_, _, _, FP.Core.val64_dconst0⟩, ?_⟩
  unfold zM
  rw [show FP.Core.val64 FP.dconst0 = _ from FP.Core.val64_dconst0]
  show 0 * _ ≤ _
  rw [Nat.zero_mul]; exact Nat.zero_le _
theorem sum_B {x y : FP.Core.Datum} {n : Nat} (hn : n ≤ 2 ^ 53) (hx : ∃ s c q, x = .fin s c q) (hy : ∃ s c q, y = .fin s c q) (fx : FP.Core.fits FP.Core.b64 x) (fy : FP.Core.fits FP.Core.b64 y)
    (h : FP.Core.zmag FP.Core.b64 x + FP.Core.zmag FP.Core.b64 y ≤ n * FP.Core.one64) : FP.Core.zmag FP.Core.b64 (FP.Core.round FP.Core.b64 (FP.Core.exactSum x y)) ≤ n * FP.Core.one64 := by
  obtain ⟨c1, q1, f1, z1⟩ := repN false hn
  obtain ⟨c2, q2, f2, z2⟩ := repN true hn
  have v1 : FP.Core.zval FP.Core.b64 (.fin false c1 q1) = (n * FP.Core.one64 : Nat) := by rw [← z1]; rfl
  have v2 : FP.Core.zval FP.Core.b64 (.fin true c2 q2) = -((n * FP.Core.one64 : Nat) : Int) := by rw [← z2]; rfl
  have ax : (FP.Core.zval FP.Core.b64 x).natAbs = _ := FP.Core.natAbs_signed _ _
  have ay : (FP.Core.zval FP.Core.b64 y).natAbs = _ := FP.Core.natAbs_signed _ _
  have h1 := FP.Core.sum_le FP.Core.good_b64 hx hy fx fy f1 (by intro h; cases h) (by rw [v1]; omega)
  have h2 := FP.Core.sum_ge FP.Core.good_b64 hx hy fx fy f2 (by intro h; cases h) (by rw [v2]; omega)
  have ar : (FP.Core.zval FP.Core.b64 (FP.Core.round FP.Core.b64 (FP.Core.exactSum x y))).natAbs = _ := FP.Core.natAbs_signed _ _
  omega
theorem dB_add {B C : Nat} {x y : UInt64} (hx : dB B x) (hy : dB C y) (h : B + C ≤ 2 ^ 53) : dB (B + C) (FP.dadd x y) := by
  refine fin_B ?_ ?_ h
  · exact (FP.Core.notNaN_iff _).mp (FP.Core.dadd_out hx.1.notNaN hy.1)
  · unfold zM
    rw [show FP.Core.val64 (FP.dadd x y) = _ from FP.Core.val64_dadd x y]
    refine sum_B h hx.1 hy.1 (FP.Core.val64_fits x) (FP.Core.val64_fits y) ?_
    rw [Nat.add_mul]
    exact Nat.add_le_add hx.2 hy.2
theorem zmag_neg (f : FP.Core.Fmt) (d : FP.Core.Datum) : FP.Core.zmag f (FP.Core.negate d) = FP.Core.zmag f d := by cases d <;> rfl
theorem dB_sub {B C : Nat} {x y : UInt64} (hx : dB B x) (hy : dB C y) (h : B + C ≤ 2 ^ 53) : dB (B + C) (FP.dsub x y) := by
  refine fin_B ?_ ?_ h
  · exact (FP.Core.notNaN_iff _).mp (FP.Core.dsub_out hx.1.notNaN hy.1)
  · unfold zM
    rw [show FP.Core.val64 (FP.dsub x y) = _ from FP.Core.val64_dsub x y]
    refine sum_B h hx.1 ?_ (FP.Core.val64_fits x) (FP.Core.negate_fits (FP.Core.val64_fits y)) ?_
    · obtain ⟨s, c, q, h9⟩ := hy.1
      exact ⟨_, _, _, by rw [h9]; rfl⟩
    · rw [Nat.add_mul, zmag_neg]
      exact Nat.add_le_add hx.2 hy.2
theorem mul4 (a b c d : Nat) : a * b * (c * d) = a * c * b * d := by ac_rfl
theorem mul5 (c b o v : Nat) : c * b * o * (v * o) = b * o * v * (c * o) := by ac_rfl
theorem dB_mul {B C : Nat} {x y : UInt64} (hx : dB B x) (hy : dB C y) (h : B * C ≤ 2 ^ 53) : dB (B * C) (FP.dmul x y) := by
  refine fin_B ?_ ?_ h
  · exact (FP.Core.notNaN_iff _).mp (FP.Core.dmul_out hx.1 hy.1)
  · have fx := FP.Core.val64_fits x
    have fy := FP.Core.val64_fits y
    have zx := hx.2
    have zy := hy.2
    unfold zM at zx zy ⊢
    rw [show FP.Core.val64 (FP.dmul x y) = _ from FP.Core.val64_dmul x y]
    obtain ⟨s, a, q, e1⟩ := hx.1
    obtain ⟨t, d, r, e2⟩ := hy.1
    rw [e1] at fx zx ⊢
    rw [e2] at fy zy ⊢
    obtain ⟨p1, p2, p3⟩ := FP.Core.product_units fx fy
    rw [p1]
    obtain ⟨c1, q1, f1, z1⟩ := repN false h
    rw [← z1]
    refine FP.Core.zmag_roundRatio_le FP.Core.good_b64 (by decide) f1 (by intro h; cases h) (e0 := 2 * FP.Core.b64.qmin) (by decide) p2 ?_
    rw [p3, z1, Nat.mul_one, show 2 ^ (FP.Core.b64.qmin - 2 * FP.Core.b64.qmin).toNat = FP.Core.one64 by decide +kernel]
    refine Nat.le_trans (Nat.mul_le_mul zx zy) (Nat.le_of_eq ?_)
    generalize FP.Core.one64 = o
    exact mul4 B o C o
theorem dB_div {B C : Nat} {x y : UInt64} (hx : dB (C * B) x) (hy : FP.Core.DFin y) (zy : zM y = C * FP.Core.one64) (hC : 0 < C) (h : B ≤ 2 ^ 53) : dB B (FP.ddiv x y) := by
  have hz : ¬ FP.Core.DZero y := by
    rintro ⟨s, q, h9⟩
    unfold zM at zy
    rw [h9] at zy
    have : 0 < C * FP.Core.one64 := Nat.mul_pos hC FP.Core.one64_pos
    have h8 : FP.Core.zmag FP.Core.b64 (.fin s 0 q) = 0 := Nat.zero_mul _
    omega
  refine fin_B ?_ ?_ h
  · exact (FP.Core.notNaN_iff _).mp (FP.Core.ddiv_out hx.1.notNaN hy hz)
  · have fx := FP.Core.val64_fits x
    have fy := FP.Core.val64_fits y
    have zx := hx.2
    unfold zM at zx zy ⊢
    rw [show FP.Core.val64 (FP.ddiv x y) = _ from FP.Core.val64_ddiv x y]
    obtain ⟨s, a, q, e1⟩ := hx.1
    obtain ⟨t, d, r, e2⟩ := hy
    rw [e1] at fx zx ⊢
    rw [e2] at fy zy ⊢
    have hd : d ≠ 0 := by
      intro h9; subst h9
      exact hz ⟨t, r, e2⟩
    have hqt : FP.Core.quotient FP.Core.b64 (.fin s a q) (.fin t d r) = FP.Core.roundRatio FP.Core.b64 (s != t) a d (q - r) := by
      simp only [FP.Core.quotient]; rw [if_neg hd]
    rw [hqt]
    obtain ⟨c1, q1, f1, z1⟩ := repN false h
    have hq : FP.Core.b64.qmin = -1074 := by decide
    have hqx : FP.Core.b64.qmax = 971 := by decide
    have b1 := fx.2.1
    have b2 := fx.2.2.1
    have b3 := fy.2.1
    have b4 := fy.2.2.1
    rw [← z1]
    refine FP.Core.zmag_roundRatio_le FP.Core.good_b64 (Nat.pos_of_ne_zero hd) f1 (by intro h; cases h) (e0 := -4000) (by decide) (by omega) ?_
    rw [z1]
    have zx : a * 2 ^ (q - FP.Core.b64.qmin).toNat ≤ C * B * 2 ^ 1074 := zx
    have zy : d * 2 ^ (r - FP.Core.b64.qmin).toNat = C * 2 ^ 1074 := zy
    unfold FP.Core.inUnits
    unfold FP.Core.one64
    have k1 : (q - r - -4000).toNat + (r - FP.Core.b64.qmin).toNat = (q - FP.Core.b64.qmin).toNat + 4000 := by omega
    have k2 : (FP.Core.b64.qmin - -4000).toNat = 2926 := by decide
    rw [k2]
    refine Nat.le_of_mul_le_mul_right (c := 2 ^ (r - FP.Core.b64.qmin).toNat) ?_ (Nat.two_pow_pos _)
    rw [Nat.mul_assoc a, ← Nat.pow_add, k1, Nat.pow_add, ← Nat.mul_assoc, Nat.mul_assoc _ d, zy]
    refine Nat.le_trans (Nat.mul_le_mul_right _ zx) (Nat.le_of_eq ?_)
    rw [show (4000 : Nat) = 2926 + 1074 from rfl, Nat.pow_add 2 2926 1074]
    generalize 2 ^ 1074 = o
    generalize 2 ^ 2926 = v
    exact mul5 C B o v

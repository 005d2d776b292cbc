/-! the reference in floating point: sweeps, the error, the bits -/
def rgM (now : Nat → Int32) : Prop := (∀ k, k < 24 → 0 ≤ (now k).toInt ∧ (now k).toInt ≤ 2) ∧ ∀ k, 24 ≤ k → k < 72 → 0 ≤ (now k).toInt ∧ (now k).toInt ≤ 1000
def reD (now : Nat → Int32) (rx : Nat → UInt64) (e : Nat) : UInt64 := if e < 9 then rx e else FP.i2d (now (24 + e - 9))
def rsD (now : Nat → Int32) (rx : Nat → UInt64) (c : Nat) : Nat → UInt64
  | 0 => FP.dconst0
  | s + 1 => FP.dadd (rsD now rx c s) (FP.dmul (FP.i2d (now (lk c s))) (reD now rx (ot c s)))
def rcI (now : Nat → Int32) (c : Nat) : Nat → Int32
  | 0 => nI 0
  | s + 1 => rcI now c s + now (lk c s)
def rvD (now : Nat → Int32) (rx : Nat → UInt64) (c : Nat) : UInt64 := if rcI now c 4 = 0 then rx c else FP.ddiv (FP.dadd (rsD now rx c 4) (FP.i2d (now (36 + c) - now (45 + c)))) (FP.i2d (rcI now c 4))
def rxS (now : Nat → Int32) (rx : Nat → UInt64) : Nat → (Nat → UInt64) × UInt64
  | 0 => (rx, FP.dconst0)
  | c + 1 => (vf_upd (rxS now rx c).1 c (rvD now (rxS now rx c).1 c), mxD (dfD (rvD now (rxS now rx c).1 c) ((rxS now rx c).1 c)) (rxS now rx c).2)
def rxN (now : Nat → Int32) (rx : Nat → UInt64) : Nat → (Nat → UInt64) × UInt64
  | 0 => (rx, FP.dconst0)
  | n + 1 => rxS now (rxN now rx n).1 9
def rsN (now : Nat → Int32) (c : Nat) : Nat → Nat
  | 0 => 0
  | s + 1 => rsN now c s + (now (lk c s)).toInt.natAbs
section RL
variable {now : Nat → Int32} {rx : Nat → UInt64} {B c : Nat}
theorem rsN_le (hr : rgM now) (hc : c < 9) : ∀ s, s ≤ 4 → rsN now c s ≤ 2 * s ∧ (rcI now c s).toInt = (rsN now c s : Int)
  | 0, _ => ⟨Nat.le_refl _, (by decide : (nI 0).toInt = ((0 : Nat) : Int))⟩
  | s + 1, hs => by
    obtain ⟨h1, h2⟩ := rsN_le hr hc s (by omega)
    have h3 := hr.1 _ (lk_lt hc (show s < 4 by omega))
    refine ⟨by rw [rsN]; omega, ?_⟩
    rw [rcI, rsN, Int32.toInt_add, h2, Int.bmod_eq_of_le (by omega) (by omega)]
    omega
theorem reD_B (hr : rgM now) (hB : ∀ j, j < 9 → dB B (rx j)) (h0 : 1000 ≤ B) {e : Nat} (he : e < 21) : dB B (reD now rx e) := by
  unfold reD
  split
  · exact hB _ (by assumption)
  · refine dB_mono (dB_i2d (Nat.le_refl _)) ?_
    have := hr.2 (24 + e - 9) (by omega) (by omega)
    omega
theorem mu_B (hr : rgM now) (hB : ∀ j, j < 9 → dB B (rx j)) (h0 : 1000 ≤ B) (h1 : B ≤ 2 ^ 40) (hc : c < 9) {s : Nat} (hs : s < 4) : dB ((now (lk c s)).toInt.natAbs * B) (FP.dmul (FP.i2d (now (lk c s))) (reD now rx (ot c s))) := by
  refine dB_mul (dB_i2d (Nat.le_refl _)) (reD_B hr hB h0 (ot_lt hc hs)) ?_
  have h3 := hr.1 _ (lk_lt hc hs)
  have : (now (lk c s)).toInt.natAbs * B ≤ 2 * 2 ^ 40 := Nat.mul_le_mul (by omega) h1
  omega
theorem rsD_B (hr : rgM now) (hB : ∀ j, j < 9 → dB B (rx j)) (h0 : 1000 ≤ B) (h1 : B ≤ 2 ^ 40) (hc : c < 9) : ∀ s, s ≤ 4 → dB (rsN now c s * B) (rsD now rx c s)
  | 0, _ => by rw [rsN, Nat.zero_mul]; exact dB_0 _
  | s + 1, hs => by
    rw [rsN, Nat.add_mul]
    refine dB_add (rsD_B hr hB h0 h1 hc s (by omega)) (mu_B hr hB h0 h1 hc (by omega)) ?_
    rw [← Nat.add_mul]
    have h2 := (rsN_le hr hc (s + 1) hs).1
    rw [rsN] at h2
    have := Nat.mul_le_mul (show rsN now c s + (now (lk c s)).toInt.natAbs ≤ 8 by omega) h1
    omega
theorem ds_B (hr : rgM now) (hB : ∀ j, j < 9 → dB B (rx j)) (h0 : 1000 ≤ B) (h1 : B ≤ 2 ^ 40) (hc : c < 9) : dB (rsN now c 4 * B + 1000) (FP.dadd (rsD now rx c 4) (FP.i2d (now (36 + c) - now (45 + c)))) := by
  refine dB_add (rsD_B hr hB h0 h1 hc 4 (by omega)) (dB_i2d ?_) ?_
  · have h3 := hr.2 (36 + c) (by omega) (by omega)
    have h4 := hr.2 (45 + c) (by omega) (by omega)
    rw [Int32.toInt_sub, Int.bmod_eq_of_le (by omega) (by omega)]
    omega
  · have h2 := (rsN_le hr hc 4 (by omega)).1
    have := Nat.mul_le_mul h2 h1
    omega
theorem dv_B (hr : rgM now) (hB : ∀ j, j < 9 → dB B (rx j)) (h0 : 1000 ≤ B) (h1 : B ≤ 2 ^ 40) (hc : c < 9) (hz : ¬ rcI now c 4 = 0) : dB (B + 1000) (FP.ddiv (FP.dadd (rsD now rx c 4) (FP.i2d (now (36 + c) - now (45 + c)))) (FP.i2d (rcI now c 4))) := by
  have h2 := rsN_le hr hc 4 (by omega)
  have h3 : 0 < rsN now c 4 := by
    rcases Nat.eq_zero_or_pos (rsN now c 4) with h4 | h4
    · exfalso; apply hz; apply Int32.toInt_inj.mp; rw [h2.2, h4]; rfl
    · exact h4
  refine dB_div (C := rsN now c 4) (dB_mono (ds_B hr hB h0 h1 hc) ?_) (fin_i2d _) (by rw [zM_i2d', h2.2]; rfl) h3 (by omega)
  rw [Nat.mul_add]
  have := Nat.mul_le_mul_right 1000 h3
  omega
theorem rv_B (hr : rgM now) (hB : ∀ j, j < 9 → dB B (rx j)) (h0 : 1000 ≤ B) (h1 : B ≤ 2 ^ 40) (hc : c < 9) : dB (B + 1000) (rvD now rx c) := by
  unfold rvD
  split
  · exact dB_mono (hB c hc) (by omega)
  · exact dv_B hr hB h0 h1 hc (by assumption)
theorem df_B {C : Nat} {x y : UInt64} (hx : dB B x) (hy : dB C y) (h : B + C ≤ 2 ^ 53) : FP.Core.DFin (dfD x y) := by
  unfold dfD
  split
  · exact (dB_sub hy hx (by omega)).1
  · exact (dB_sub hx hy h).1
theorem mx_fin {x y : UInt64} (hx : FP.Core.DFin x) (hy : FP.Core.DFin y) : FP.Core.DFin (mxD x y) := by unfold mxD; split <;> assumption
theorem rxS_B (hr : rgM now) (hB : ∀ j, j < 9 → dB B (rx j)) (h0 : 1000 ≤ B) (h1 : B + 9000 ≤ 2 ^ 40) : ∀ c, c ≤ 9 → (∀ j, j < 9 → dB (B + 1000 * c) ((rxS now rx c).1 j)) ∧ FP.Core.DFin (rxS now rx c).2
  | 0, _ => ⟨hB, fin_0⟩
  | c + 1, hc => by
    obtain ⟨h2, h3⟩ := rxS_B hr hB h0 h1 c (by omega)
    have h4 := rv_B hr h2 (by omega) (by omega) (show c < 9 by omega)
    refine ⟨fun j hj => ?_, ?_⟩
    · show dB _ (vf_upd (rxS now rx c).1 c (rvD now (rxS now rx c).1 c) j)
      by_cases e : j = c
      · subst e; rw [vf_s]; exact dB_mono h4 (by omega)
      · rw [vf_n e]; exact dB_mono (h2 j hj) (by omega)
    · exact mx_fin (df_B h4 (h2 c (by omega)) (by omega)) h3
set_option maxRecDepth 100000 in
theorem rxN_B (hr : rgM now) (hB : ∀ j, j < 9 → dB B (rx j)) (h0 : 1000 ≤ B) : ∀ n, B + 9000 * n ≤ 2 ^ 40 → (∀ j, j < 9 → dB (B + 9000 * n) ((rxN now rx n).1 j)) ∧ FP.Core.DFin (rxN now rx n).2
  | 0, _ => ⟨hB, fin_0⟩
  | n + 1, hn => by
    obtain ⟨h2, h3⟩ := rxN_B hr hB h0 n (by omega)
    have h4 := rxS_B hr h2 (by omega) (by omega) 9 (by omega)
    exact ⟨fun j hj => dB_mono (h4.1 j hj) (by omega), h4.2⟩
theorem rsD_congr {r2 : Nat → UInt64} (h : ∀ j, j < 9 → rx j = r2 j) (hc : c < 9) : ∀ s, s ≤ 4 → rsD now rx c s = rsD now r2 c s
  | 0, _ => rfl
  | s + 1, hs => by
    rw [rsD, rsD, rsD_congr h hc s (by omega)]
    have : reD now rx (ot c s) = reD now r2 (ot c s) := by
      unfold reD
      split
      · exact h _ (by assumption)
      · rfl
    rw [this]
theorem rvD_congr {r2 : Nat → UInt64} (h : ∀ j, j < 9 → rx j = r2 j) (hc : c < 9) : rvD now rx c = rvD now r2 c := by
  unfold rvD; rw [rsD_congr h hc 4 (by omega), h c hc]
theorem rxS_congr {r2 : Nat → UInt64} (h : ∀ j, j < 9 → rx j = r2 j) : ∀ c, c ≤ 9 → (∀ j, j < 9 → (rxS now rx c).1 j = (rxS now r2 c).1 j) ∧ (rxS now rx c).2 = (rxS now r2 c).2
  | 0, _ => ⟨h, rfl⟩
  | c + 1, hc => by
    obtain ⟨h1, h2⟩ := rxS_congr h c (by omega)
    refine ⟨fun j hj => ?_, ?_⟩
    · show vf_upd (rxS now rx c).1 c (rvD now (rxS now rx c).1 c) j = vf_upd (rxS now r2 c).1 c (rvD now (rxS now r2 c).1 c) j
      by_cases e : j = c
      · subst e; rw [vf_s, vf_s]; exact rvD_congr h1 (by omega)
      · rw [vf_n e, vf_n e]; exact h1 j hj
    · rw [rxS, rxS]
      show mxD _ _ = mxD _ _
      rw [rvD_congr h1 (show c < 9 by omega), h1 c (by omega), h2]
theorem rxN_congr {r2 : Nat → UInt64} (h : ∀ j, j < 9 → rx j = r2 j) : ∀ n, (∀ j, j < 9 → (rxN now rx n).1 j = (rxN now r2 n).1 j) ∧ (rxN now rx n).2 = (rxN now r2 n).2
  | 0 => ⟨h, rfl⟩
  | n + 1 => rxS_congr (rxN_congr h n).1 9 (by omega)
end RL
theorem pR_least {c k : Nat} {x : UInt64} (h : pR c k x) (hk : k = 0 ∨ 2 ^ 52 ≤ c) : FP.dcmp x 4503599627370496 = some .lt ↔ c < 2 ^ 52 := by
  rw [cmp_lt h.1 fin_least, pR_V h, zV_least]
  rcases hk with hk | hk
  · subst hk; rw [Nat.pow_zero, Nat.mul_one]; omega
  · have h1 : c * 1 ≤ c * 2 ^ k := Nat.mul_le_mul_left c (Nat.one_le_two_pow)
    generalize c * 2 ^ k = n at h1 ⊢
    omega
theorem lN_a1 (n : Nat) : lN n + 1 = lN (n + 1) := by
  show Int64.ofNat n + Int64.ofNat 1 = Int64.ofNat (n + 1)
  rw [Int64.ofNat_add]
theorem lN_s1 {n : Nat} (h : 0 < n) : lN n - 1 = lN (n - 1) := by
  obtain ⟨m, rfl⟩ : ∃ m, n = m + 1 := ⟨n - 1, by omega⟩
  rw [← lN_a1, Nat.add_sub_cancel, Int64.add_sub_cancel]
theorem hd_X3_bitsOf : yX3_bitsOf.cls ≠ "java/lang/invoke/MethodHandle" ∧ yX3_bitsOf.cls ≠ "java/lang/invoke/VarHandle" ∧ (parseMethodDescriptor yX3_bitsOf.desc).map (fun d => d.parameters.length) = some 1 := by decide +kernel
set_option maxHeartbeats 4000000 in
set_option maxRecDepth 100000 in
/-- bitsOf(v) -/
theorem c_X3_bitsOf (l : Launch) (v : UInt64) (hv : FP.Core.DFin v) : Met l yX3_bitsOf wsX3_bitsOf ({ frames := 0, cells := 0, slots := 0, locals := 0 }) (va_Pc [.double v] (fun _ => True)) (vp_Sl (fun r => r = bsD v)) 0 0 (fun _ => False) := by
  refine Met.ofW (cc := cX3_bitsOf) (maxL := 8) (ret := (some .long)) (by decide) rfl ?_
  intro p e s m args below meth c s₁ B hml hv
  obtain ⟨rfl, -⟩ := hv
  have hx := B.exec
  have hb := B.bytes
  have hr := B.returns
  have hts := atoms_spec (ws := wsX3_bitsOf) B.pre
  have hown : s.vm.findClass RX3 = some m.cls := findClass_of_methodNamed B.named
  have hlocks := B.notSynchronized
  have hl := lv_entry ([.double v]) (n := 8) (Nat.le_of_ble_eq_true rfl)
  rw [lg_entry_eq]
  generalize (lg_sl ([.double v]) ++ List.replicate (8 - (lg_sl ([.double v])).length) Slot.unset).toArray = ls at hl ⊢
  have hl : lv_has ls 8 [(0, .double v)] := hl
  refine wCut (pc2 := 28) (fun ls => lv_has ls 8 [(2, .long (sgB (dS v))), (0, .double v)]) (fun K1 => ?_) (fun ls hl => ?_)
  · refine lv_dload_n hx hb dX3_bitsOf_0 rfl (lv_at hl 0 rfl) ?_
    refine lv_dconst0 hx hb dX3_bitsOf_1 ?_
    refine wd_glt (tgt := 20) hx hb dX3_bitsOf_2 dX3_bitsOf_3 (by decide) (fun c1 => ?_) (fun c1 => ?_)
    · refine lv_ldc2 hx hb hown (hts _ (List.mem_of_getElem? (i := 1) rfl)) dX3_bitsOf_20 ?_
      refine lv_goto (tgt := 27) hx hb dX3_bitsOf_23 (by decide) ?_
      refine lv_topl (fun y2 ey2 => ?_)
      have ey2 : sgB (dS v) = y2 := (ey2.trans (by rw [sg_neg ((neg_V hv).mp c1)]; rfl)).symm
      subst ey2
      refine lv_lstore_n (lv' := [(2, .long (sgB (dS v))), (0, .double v)]) hx hb dX3_bitsOf_27 rfl hl (by decide) rfl (fun ls hl => ?_)
      exact K1 ls (lv_sub hl [0, 1] rfl)
    · refine lv_dload_n hx hb dX3_bitsOf_6 rfl (lv_at hl 0 rfl) ?_
      refine lv_dconst0 hx hb dX3_bitsOf_7 ?_
      refine wd_lne (tgt := 26) hx hb dX3_bitsOf_8 dX3_bitsOf_9 (by decide) (fun c2 => ?_) (fun c2 => ?_)
      · refine lv_lconst (v := 0) hx hb dX3_bitsOf_26 rfl ?_
        refine lv_topl (fun y3 ey3 => ?_)
        have ey3 : sgB (dS v) = y3 := (ey3.trans (by rw [sg_pos (by have h8 : ¬ zV v < 0 := fun q9 => c1 ((neg_V hv).mpr q9); have h9 : ¬ zV v = 0 := fun q9 => c2 ((eq_V hv).mpr q9); omega)]; rfl)).symm
        subst ey3
        refine lv_lstore_n (lv' := [(2, .long (sgB (dS v))), (0, .double v)]) hx hb dX3_bitsOf_27 rfl hl (by decide) rfl (fun ls hl => ?_)
        exact K1 ls (lv_sub hl [0, 1] rfl)
      · refine lv_dconst1 hx hb dX3_bitsOf_12 ?_
        refine lv_dload_n hx hb dX3_bitsOf_13 rfl (lv_at hl 0 rfl) ?_
        refine lv_ddiv hx hb dX3_bitsOf_14 (inv_n hv ((eq_V hv).mp c2)) ?_
        refine lv_dconst0 hx hb dX3_bitsOf_15 ?_
        refine wd_gge (tgt := 26) hx hb dX3_bitsOf_16 dX3_bitsOf_17 (by decide) (fun c3 => ?_) (fun c3 => ?_)
        · refine lv_lconst (v := 0) hx hb dX3_bitsOf_26 rfl ?_
          refine lv_topl (fun y4 ey4 => ?_)
          have ey4 : sgB (dS v) = y4 := (ey4.trans (by rw [show dS v = false by cases h9 : dS v; (rfl); (exact absurd ((inv_lt hv ((eq_V hv).mp c2)).mpr h9) c3)]; rfl)).symm
          subst ey4
          refine lv_lstore_n (lv' := [(2, .long (sgB (dS v))), (0, .double v)]) hx hb dX3_bitsOf_27 rfl hl (by decide) rfl (fun ls hl => ?_)
          exact K1 ls (lv_sub hl [0, 1] rfl)
        · refine lv_ldc2 hx hb hown (hts _ (List.mem_of_getElem? (i := 1) rfl)) dX3_bitsOf_20 ?_
          refine lv_goto (tgt := 27) hx hb dX3_bitsOf_23 (by decide) ?_
          refine lv_topl (fun y5 ey5 => ?_)
          have ey5 : sgB (dS v) = y5 := (ey5.trans (by rw [(inv_lt hv ((eq_V hv).mp c2)).mp c3]; rfl)).symm
          subst ey5
          refine lv_lstore_n (lv' := [(2, .long (sgB (dS v))), (0, .double v)]) hx hb dX3_bitsOf_27 rfl hl (by decide) rfl (fun ls hl => ?_)
          exact K1 ls (lv_sub hl [0, 1] rfl)
  · obtain ⟨a, ha⟩ : ∃ z9z, z9z = (if FP.dcmp v FP.dconst0 = some .lt then FP.dneg v else v) := ⟨_, rfl⟩
    have hpa := pR_abs hv
    rw [← ha] at hpa
    obtain ⟨hc1, hk1, hck, -⟩ := dec64 hv
    refine wCut (pc2 := 42) (fun ls => lv_has ls 8 [(4, .double a), (2, .long (sgB (dS v)))]) (fun K6 => ?_) (fun ls hl => ?_)
    · refine lv_dload_n hx hb dX3_bitsOf_28 rfl (lv_at hl 1 rfl) ?_
      refine lv_dconst0 hx hb dX3_bitsOf_29 ?_
      refine wd_gge (tgt := 39) hx hb dX3_bitsOf_30 dX3_bitsOf_31 (by decide) (fun c4 => ?_) (fun c4 => ?_)
      · refine lv_dload_n hx hb dX3_bitsOf_39 rfl (lv_at hl 1 rfl) ?_
        refine lv_topd (fun y7 ey7 => ?_)
        have ey7 : a = y7 := (ey7.trans (by rw [ha, if_neg c4])).symm
        subst ey7
        refine lv_dstore (lv' := [(4, .double a), (2, .long (sgB (dS v))), (0, .double v)]) hx hb dX3_bitsOf_40 hl (by decide) rfl (fun ls hl => ?_)
        exact K6 ls (lv_sub hl [0, 1] rfl)
      · refine lv_dload_n hx hb dX3_bitsOf_34 rfl (lv_at hl 1 rfl) ?_
        refine lv_dneg hx hb dX3_bitsOf_35 ?_
        refine lv_goto (tgt := 40) hx hb dX3_bitsOf_36 (by decide) ?_
        refine lv_topd (fun y8 ey8 => ?_)
        have ey8 : a = y8 := (ey8.trans (by rw [ha, if_pos c4])).symm
        subst ey8
        refine lv_dstore (lv' := [(4, .double a), (2, .long (sgB (dS v))), (0, .double v)]) hx hb dX3_bitsOf_40 hl (by decide) rfl (fun ls hl => ?_)
        exact K6 ls (lv_sub hl [0, 1] rfl)
    · refine lv_dload hx hb dX3_bitsOf_42 (lv_at hl 0 rfl) ?_
      refine lv_ldc2d hx hb hown (hts _ (List.mem_of_getElem? (i := 2) rfl)) dX3_bitsOf_44 ?_
      refine wd_gge (tgt := 82) hx hb dX3_bitsOf_47 dX3_bitsOf_48 (by decide) (fun c5 => ?_) (fun c5 => ?_)
      · refine lv_ldc2 hx hb hown (hts _ (List.mem_of_getElem? (i := 4) rfl)) dX3_bitsOf_82 ?_
        refine lv_topl (fun y9 ey9 => ?_)
        have ey9 : lN 1023 = y9 := (ey9.trans (rfl)).symm
        subst ey9
        refine lv_lstore (lv' := [(6, .long (lN 1023)), (4, .double a), (2, .long (sgB (dS v)))]) hx hb dX3_bitsOf_85 hl (by decide) rfl (fun ls hl => ?_)
        have hnm : 2 ^ 52 ≤ dC v := by have h9 : ¬ dC v < 2 ^ 52 := fun q9 => c5 ((pR_least hpa hck).mpr q9); omega
        refine wLoopR (σ := Nat × Nat × UInt64) (fun k x ls => k = x.1 ∧ (pR (dC v) x.1 x.2.2) ∧ (x.2.1 + x.1 = dK v + 1023) ∧ (x.1 ≤ dK v) ∧ lv_has ls 8 [(6, .long (lN x.2.1)), (4, .double x.2.2), (2, .long (sgB (dS v)))]) ?_ _ (dK v, 1023, a) _ ⟨rfl, hpa, (Nat.add_comm 1023 (dK v)), (Nat.le_refl _), lv_sub hl [0, 1, 2] rfl⟩
        intro ka x ls hI iha
        obtain ⟨j0, e0, b⟩ := x
        obtain ⟨hka, hp, he, hj, hl⟩ := hI
        have hka : ka = j0 := hka
        have hp : pR (dC v) j0 b := hp
        have he : e0 + j0 = dK v + 1023 := he
        have hj : j0 ≤ dK v := hj
        have hl : lv_has ls 8 [(6, .long (lN e0)), (4, .double b), (2, .long (sgB (dS v)))] := hl
        refine lv_dload hx hb dX3_bitsOf_87 (lv_at hl 1 rfl) ?_
        refine lv_ldc2d hx hb hown (hts _ (List.mem_of_getElem? (i := 3) rfl)) dX3_bitsOf_89 ?_
        refine wd_llt (tgt := 113) hx hb dX3_bitsOf_92 dX3_bitsOf_93 (by decide) (fun c6 => ?_) (fun c6 => ?_)
        · have hj9 : j0 < 1023 := by rcases c6 with q9 | q9; (exact (pR_ge2 hp hc1 hnm).mp q9); (exact absurd q9 (cmp_nn hp.1 fin_2))
          refine wLoopR (σ := Nat × Nat × UInt64) (fun k x ls => k = 1022 - x.1 ∧ (pR (dC v) x.1 x.2.2) ∧ (x.2.1 + x.1 = dK v + 1023) ∧ (x.1 ≤ 1022) ∧ lv_has ls 8 [(6, .long (lN x.2.1)), (4, .double x.2.2), (2, .long (sgB (dS v)))]) ?_ _ (j0, e0, b) _ ⟨rfl, hp, he, (by omega), lv_sub hl [0, 1, 2] rfl⟩
          intro kb x ls hI ihb
          obtain ⟨j0, e0, b⟩ := x
          obtain ⟨hkb, hp, he, hj, hl⟩ := hI
          have hkb : kb = 1022 - j0 := hkb
          have hp : pR (dC v) j0 b := hp
          have he : e0 + j0 = dK v + 1023 := he
          have hj : j0 ≤ 1022 := hj
          have hl : lv_has ls 8 [(6, .long (lN e0)), (4, .double b), (2, .long (sgB (dS v)))] := hl
          refine lv_dload hx hb dX3_bitsOf_113 (lv_at hl 1 rfl) ?_
          refine lv_dconst1 hx hb dX3_bitsOf_115 ?_
          refine wd_gge (tgt := 137) hx hb dX3_bitsOf_116 dX3_bitsOf_117 (by decide) (fun c7 => ?_) (fun c7 => ?_)
          · have hj9 : j0 = 1022 := by have h9 : ¬ j0 < 1022 := fun q9 => c7 ((pR_lt1 hp hc1 hnm).mpr q9); omega
            rw [hj9] at hp
            refine lv_lload_n hx hb dX3_bitsOf_137 rfl (lv_at hl 2 rfl) ?_
            refine lv_lload hx hb dX3_bitsOf_138 (lv_at hl 0 rfl) ?_
            refine lv_bipush (v := nI 52) hx hb dX3_bitsOf_140 (by decide) ?_
            refine lv_lshl hx hb dX3_bitsOf_142 rfl ?_
            refine lv_lor hx hb dX3_bitsOf_143 ?_
            refine lv_dload hx hb dX3_bitsOf_144 (lv_at hl 1 rfl) ?_
            refine lv_dconst1 hx hb dX3_bitsOf_146 ?_
            refine lv_dsub hx hb dX3_bitsOf_147 (n64_fin (pR_m1 hp hc1 hnm).1) ?_
            refine lv_ldc2d hx hb hown (hts _ (List.mem_of_getElem? (i := 5) rfl)) dX3_bitsOf_148 ?_
            refine lv_dmul hx hb dX3_bitsOf_151 (n64_fin (pR_52 (pR_m1 hp hc1 hnm) (by omega)).1) ?_
            refine lv_d2l hx hb dX3_bitsOf_152 ?_
            refine lv_topl (fun y10 ey10 => ?_)
            have ey10 : lN (dC v - 2 ^ 52) = y10 := (ey10.trans (pR_l (pR_52 (pR_m1 hp hc1 hnm) (by omega)) (by omega))).symm
            subst ey10
            refine lv_lor hx hb dX3_bitsOf_153 ?_
            exact W.lret (v := ((sgB (dS v) ||| ((lN e0) <<< ((nI 52).toInt64 &&& 63))) ||| lN (dC v - 2 ^ 52))) hx hb hr (fun t ht hW => ⟨((sgB (dS v) ||| ((lN e0) <<< ((nI 52).toInt64 &&& 63))) ||| lN (dC v - 2 ^ 52)), rfl, (by unfold bsD bsB; rw [if_neg (by omega), show e0 = dK v + 1 by omega]), ht⟩) (fun q hq => absurd hq List.not_mem_nil) dX3_bitsOf_154
          · have hj9 : j0 < 1022 := (pR_lt1 hp hc1 hnm).mp c7
            refine lv_dload hx hb dX3_bitsOf_120 (lv_at hl 1 rfl) ?_
            refine lv_ldc2d hx hb hown (hts _ (List.mem_of_getElem? (i := 3) rfl)) dX3_bitsOf_122 ?_
            refine lv_dmul hx hb dX3_bitsOf_125 (n64_fin (pR_dbl hp hc1 (by omega)).1) ?_
            refine lv_topd (fun x11 ex11 => ?_)
            refine lv_dstore (lv' := [(4, .double x11), (6, .long (lN e0)), (2, .long (sgB (dS v)))]) hx hb dX3_bitsOf_126 hl (by decide) rfl (fun ls hl => ?_)
            refine lv_lload hx hb dX3_bitsOf_128 (lv_at hl 1 rfl) ?_
            refine lv_lconst (v := 1) hx hb dX3_bitsOf_130 rfl ?_
            refine lv_lsub hx hb dX3_bitsOf_131 ?_
            refine lv_topl (fun y12 ey12 => ?_)
            have ey12 : lN (e0 - 1) = y12 := (ey12.trans (lN_s1 (by omega))).symm
            subst ey12
            refine lv_lstore (lv' := [(6, .long (lN (e0 - 1))), (4, .double x11), (2, .long (sgB (dS v)))]) hx hb dX3_bitsOf_132 hl (by decide) rfl (fun ls hl => ?_)
            refine lv_goto (tgt := 113) hx hb dX3_bitsOf_134 (by decide) ?_
            exact ihb (1022 - (j0 + 1)) (j0 + 1, e0 - 1, x11) ls (by omega) ⟨rfl, (by rw [ex11]; exact pR_dbl hp hc1 (by omega)), (by show e0 - 1 + (j0 + 1) = dK v + 1023; omega), (by show j0 + 1 ≤ 1022; omega), lv_sub hl [0, 1, 2] rfl⟩
        · have hj9 : ¬ j0 < 1023 := fun q9 => c6 (Or.inl ((pR_ge2 hp hc1 hnm).mpr q9))
          obtain ⟨j1, rfl⟩ : ∃ j1, j0 = j1 + 1 := ⟨j0 - 1, by omega⟩
          refine lv_dload hx hb dX3_bitsOf_96 (lv_at hl 1 rfl) ?_
          refine lv_ldc2d hx hb hown (hts _ (List.mem_of_getElem? (i := 3) rfl)) dX3_bitsOf_98 ?_
          refine lv_ddiv hx hb dX3_bitsOf_101 (n64_fin (pR_half hp hc1 (by omega)).1) ?_
          refine lv_topd (fun x13 ex13 => ?_)
          refine lv_dstore (lv' := [(4, .double x13), (6, .long (lN e0)), (2, .long (sgB (dS v)))]) hx hb dX3_bitsOf_102 hl (by decide) rfl (fun ls hl => ?_)
          refine lv_lload hx hb dX3_bitsOf_104 (lv_at hl 1 rfl) ?_
          refine lv_lconst (v := 1) hx hb dX3_bitsOf_106 rfl ?_
          refine lv_ladd hx hb dX3_bitsOf_107 ?_
          refine lv_topl (fun y14 ey14 => ?_)
          have ey14 : lN (e0 + 1) = y14 := (ey14.trans (lN_a1 _)).symm
          subst ey14
          refine lv_lstore (lv' := [(6, .long (lN (e0 + 1))), (4, .double x13), (2, .long (sgB (dS v)))]) hx hb dX3_bitsOf_108 hl (by decide) rfl (fun ls hl => ?_)
          refine lv_goto (tgt := 87) hx hb dX3_bitsOf_110 (by decide) ?_
          exact iha (j1) (j1, e0 + 1, x13) ls (by omega) ⟨rfl, (by rw [ex13]; exact pR_half hp hc1 (by omega)), (by show e0 + 1 + j1 = dK v + 1023; omega), (by show j1 ≤ dK v; omega), lv_sub hl [0, 1, 2] rfl⟩
      · refine lv_iconst (v := nI 0) hx hb dX3_bitsOf_51 (by decide) ?_
        refine lv_istore (lv' := [(6, .int (nI 0)), (4, .double a), (2, .long (sgB (dS v)))]) hx hb dX3_bitsOf_52 hl (by decide) rfl (fun ls hl => ?_)
        have hsub := (pR_least hpa hck).mp c5
        have hk0 : dK v = 0 := by omega
        refine wLoopR (σ := Nat × UInt64) (fun k x ls => k = 1074 - x.1 ∧ (x.1 ≤ 1074) ∧ (pR (dC v) x.1 x.2) ∧ lv_has ls 8 [(6, .int (nI x.1)), (4, .double x.2), (2, .long (sgB (dS v)))]) ?_ _ (0, a) _ ⟨rfl, (by omega), (by rw [hk0] at hpa; exact hpa), lv_sub hl [0, 1, 2] rfl⟩
        intro ks x ls hI ihs
        obtain ⟨i0, b⟩ := x
        obtain ⟨hks, hi, hp, hl⟩ := hI
        have hks : ks = 1074 - i0 := hks
        have hi : i0 ≤ 1074 := hi
        have hp : pR (dC v) i0 b := hp
        have hl : lv_has ls 8 [(6, .int (nI i0)), (4, .double b), (2, .long (sgB (dS v)))] := hl
        refine lv_iload hx hb dX3_bitsOf_54 (lv_at hl 0 rfl) ?_
        refine lv_sipush (v := nI 1074) hx hb dX3_bitsOf_56 (by decide) ?_
        refine wn_icmp_ge (tgt := 76) hx hb dX3_bitsOf_59 (by decide) (by omega) (by omega) (fun c15 => ?_) (fun c15 => ?_)
        · refine lv_lload_n hx hb dX3_bitsOf_76 rfl (lv_at hl 2 rfl) ?_
          refine lv_dload hx hb dX3_bitsOf_77 (lv_at hl 1 rfl) ?_
          refine lv_d2l hx hb dX3_bitsOf_79 ?_
          refine lv_topl (fun y16 ey16 => ?_)
          have ey16 : lN (dC v) = y16 := (ey16.trans (by rw [show i0 = 1074 by omega] at hp; exact pR_l hp hc1)).symm
          subst ey16
          refine lv_lor hx hb dX3_bitsOf_80 ?_
          exact W.lret (v := (sgB (dS v) ||| lN (dC v))) hx hb hr (fun t ht hW => ⟨(sgB (dS v) ||| lN (dC v)), rfl, (by unfold bsD bsB; rw [if_pos hsub]), ht⟩) (fun q hq => absurd hq List.not_mem_nil) dX3_bitsOf_81
        · refine lv_dload hx hb dX3_bitsOf_62 (lv_at hl 1 rfl) ?_
          refine lv_ldc2d hx hb hown (hts _ (List.mem_of_getElem? (i := 3) rfl)) dX3_bitsOf_64 ?_
          refine lv_dmul hx hb dX3_bitsOf_67 (n64_fin (pR_dbl hp hc1 (by omega)).1) ?_
          refine lv_topd (fun x17 ex17 => ?_)
          refine lv_dstore (lv' := [(4, .double x17), (6, .int (nI i0)), (2, .long (sgB (dS v)))]) hx hb dX3_bitsOf_68 hl (by decide) rfl (fun ls hl => ?_)
          refine lv_iinc (v := (nI (i0 + 1))) (lv' := [(6, .int (nI (i0 + 1))), (4, .double x17), (2, .long (sgB (dS v)))]) hx hb dX3_bitsOf_70 hl (k := 1) rfl (nI_1 _) (by decide) rfl (fun ls hl => ?_)
          refine lv_goto (tgt := 54) hx hb dX3_bitsOf_73 (by decide) ?_
          exact ihs (1074 - (i0 + 1)) (i0 + 1, x17) ls (by omega) ⟨rfl, (by omega), (by rw [ex17]; exact pR_dbl hp hc1 (by omega)), lv_sub hl [0, 1, 2] rfl⟩
theorem hd_X3_relaxes : yX3_relaxes.cls = RX3 ∧ yX3_relaxes.cls ≠ "java/lang/invoke/MethodHandle" ∧ yX3_relaxes.cls ≠ "java/lang/invoke/VarHandle" ∧ (parseMethodDescriptor yX3_relaxes.desc).map (fun d => d.parameters.length) = some 1 := by decide +kernel
set_option maxHeartbeats 4000000 in
set_option maxRecDepth 100000 in
/-- relaxes(c) -/
theorem c_X3_relaxes (l : Launch) (dd : va_G) (cy : Nat → ClassId) (ad : Nat → Nat) (X : va_W) (u : MS) (sz : Nat) (c0 : Nat) (hc0 : c0 < 9) (hrg : rgM (u.1 1)) (bb : Nat) (hB : ∀ j, j < 9 → dB bb (u.2.1 2 j)) (hB0 : 1000 ≤ bb) (hB1 : bb ≤ 2 ^ 40) : Met l yX3_relaxes wsX3_relaxes ({ frames := 2, cells := 0, slots := 0, locals := 45 }) (va_Pc [.ref (ad 0), .int (nI c0)] (wrW dd cy (wM cy ad u ++ X) sz)) (va_Qd (fun r u9 => r = dfD (rvD (u.1 1) (u.2.1 2) c0) (u.2.1 2 c0) ∧ (∀ j, u9.2.1 2 j = if j = c0 then rvD (u.1 1) (u.2.1 2) c0 else u.2.1 2 j) ∧ frD 2 u u9) (wB dd cy (fun u9 : MS => wM cy ad u9 ++ X) (va_A (wM cy ad u ++ X) sz)) (va_A (wM cy ad u ++ X) sz)) 0 0 (va_A (wM cy ad u ++ X) sz) := by
  refine Met.ofW (cc := cX3_relaxes) (maxL := 7) (ret := (some .double)) (by decide) rfl ?_
  intro p e s m args below meth c s₁ B hml hv
  obtain ⟨rfl, hsz, hP, hK, hD0⟩ := hv
  have hx := B.exec
  have hb := B.bytes
  have hr := B.returns
  have hts := atoms_spec (ws := wsX3_relaxes) B.pre
  have hown : s.vm.findClass RX3 = some m.cls := findClass_of_methodNamed B.named
  have hlocks := B.notSynchronized
  subst hsz
  have hD := hD0.self (sz := s.heap.size)
  generalize hAe : va_A (wM cy ad u ++ X) s.heap.size = A at hD ⊢
  have hA : ∀ q : Nat, s.heap.size ≤ q → A q := fun q h => by rw [← hAe]; exact Or.inr h
  have hS : va_S A s.heap s.heap [] := va_S.rf
  have hl := lv_entry ([.ref (ad 0), .int (nI c0)]) (n := 7) (Nat.le_of_ble_eq_true rfl)
  rw [lg_entry_eq]
  generalize (lg_sl ([.ref (ad 0), .int (nI c0)]) ++ List.replicate (7 - (lg_sl ([.ref (ad 0), .int (nI c0)])).length) Slot.unset).toArray = ls at hl ⊢
  have hl : lv_has ls 7 [(0, .ref (ad 0)), (1, .int (nI c0))] := hl
  refine lv_dconst0 hx hb dX3_relaxes_0 ?_
  refine lv_dstore_n (lv' := [(2, .double FP.dconst0), (0, .ref (ad 0)), (1, .int (nI c0))]) hx hb dX3_relaxes_1 rfl hl (by decide) rfl (fun ls hl => ?_)
  refine lv_iconst (v := nI 0) hx hb dX3_relaxes_2 (by decide) ?_
  refine lv_istore (lv' := [(4, .int (nI 0)), (2, .double FP.dconst0), (0, .ref (ad 0)), (1, .int (nI c0))]) hx hb dX3_relaxes_3 hl (by decide) rfl (fun ls hl => ?_)
  refine lv_iconst (v := nI 0) hx hb dX3_relaxes_5 (by decide) ?_
  refine lv_istore (lv' := [(5, .int (nI 0)), (4, .int (nI 0)), (2, .double FP.dconst0), (0, .ref (ad 0)), (1, .int (nI c0))]) hx hb dX3_relaxes_6 hl (by decide) rfl (fun ls hl => ?_)
  refine wLoopR (σ := Nat × UInt64 × Int32) (fun k x ls => k = 4 - x.1 ∧ (x.1 ≤ 4) ∧ (x.2.1 = rsD (u.1 1) (u.2.1 2) c0 x.1) ∧ (x.2.2 = rcI (u.1 1) c0 x.1) ∧ lv_has ls 7 [(5, .int (nI x.1)), (4, .int x.2.2), (2, .double x.2.1), (1, .int (nI c0)), (0, .ref (ad 0))]) ?_ _ (0, FP.dconst0, nI 0) _ ⟨rfl, (by omega), rfl, rfl, lv_sub hl [0, 1, 2, 4, 3] rfl⟩
  intro ka x ls hI iha
  obtain ⟨s0, z, t0⟩ := x
  obtain ⟨hka, hs0, hz, ht, hl⟩ := hI
  have hka : ka = 4 - s0 := hka
  have hs0 : s0 ≤ 4 := hs0
  have hz : z = rsD (u.1 1) (u.2.1 2) c0 s0 := hz
  have ht : t0 = rcI (u.1 1) c0 s0 := ht
  have hl : lv_has ls 7 [(5, .int (nI s0)), (4, .int t0), (2, .double z), (1, .int (nI c0)), (0, .ref (ad 0))] := hl
  refine lv_iload hx hb dX3_relaxes_8 (lv_at hl 0 rfl) ?_
  refine lv_iconst (v := nI 4) hx hb dX3_relaxes_10 (by decide) ?_
  refine wn_icmp_ge (tgt := 54) hx hb dX3_relaxes_11 (by decide) (by omega) (by omega) (fun c1 => ?_) (fun c1 => ?_)
  · refine lv_iload hx hb dX3_relaxes_54 (lv_at hl 1 rfl) ?_
    refine lv_if_ne (tgt := 61) hx hb dX3_relaxes_56 (by decide) (fun cA => ?_) (fun cA => ?_)
    · refine lv_aload_n hx hb dX3_relaxes_61 rfl (lv_at hl 4 rfl) ?_
      refine va_get (D := dd) (ci := 5) (v := .ref (ad 2)) (C := RX3) (T := TX3) (N := 15) hx hb hts (fun _ h9 => List.mem_cons_of_mem _ (List.mem_append_left _ (List.mem_append_right _ h9))) hown hK hP 0 (wM_0 cy ad u X) rfl 1 (by decide) (hts (Cond.fieldLink RX3 13 "HeadGridModel" "relaxed" "[D") (List.mem_of_getElem? (i := 1) rfl)) (fun _ h9 => h9) rfl dX3_relaxes_62 ?_
      refine lv_iload_n hx hb dX3_relaxes_65 rfl (lv_at hl 3 rfl) ?_
      refine wa_dald hx hb hK hP (wM_2 cy ad u X) (t0 := 2) rfl (i := c0) (by omega) (by decide) dX3_relaxes_66 ?_
      refine lv_topd (fun x2 ex2 => ?_)
      refine lv_dstore (lv' := [(5, .double x2), (4, .int t0), (2, .double z), (1, .int (nI c0)), (0, .ref (ad 0))]) hx hb dX3_relaxes_67 hl (by decide) rfl (fun ls hl => ?_)
      refine lv_aload_n hx hb dX3_relaxes_69 rfl (lv_at hl 4 rfl) ?_
      refine va_get (D := dd) (ci := 5) (v := .ref (ad 2)) (C := RX3) (T := TX3) (N := 15) hx hb hts (fun _ h9 => List.mem_cons_of_mem _ (List.mem_append_left _ (List.mem_append_right _ h9))) hown hK hP 0 (wM_0 cy ad u X) rfl 1 (by decide) (hts (Cond.fieldLink RX3 13 "HeadGridModel" "relaxed" "[D") (List.mem_of_getElem? (i := 1) rfl)) (fun _ h9 => h9) rfl dX3_relaxes_70 ?_
      refine lv_iload_n hx hb dX3_relaxes_73 rfl (lv_at hl 3 rfl) ?_
      refine lv_dload_n hx hb dX3_relaxes_74 rfl (lv_at hl 2 rfl) ?_
      refine lv_aload_n hx hb dX3_relaxes_75 rfl (lv_at hl 4 rfl) ?_
      refine va_get (D := dd) (ci := 5) (v := .ref (ad 1)) (C := RX3) (T := TX3) (N := 15) hx hb hts (fun _ h9 => List.mem_cons_of_mem _ (List.mem_append_left _ (List.mem_append_right _ h9))) hown hK hP 0 (wM_0 cy ad u X) rfl 0 (by decide) (hts (Cond.fieldLink RX3 7 "HeadGridModel" "now" "[I") (List.mem_of_getElem? (i := 2) rfl)) (fun _ h9 => h9) rfl dX3_relaxes_76 ?_
      refine lv_bipush (v := nI 36) hx hb dX3_relaxes_79 (by decide) ?_
      refine lv_iload_n hx hb dX3_relaxes_81 rfl (lv_at hl 3 rfl) ?_
      refine wn_iadd hx hb dX3_relaxes_82 ?_
      refine wa_iald hx hb hK hP (wM_1 cy ad u X) (t0 := 0) rfl (i := 36 + c0) (by omega) (by decide) dX3_relaxes_83 ?_
      refine lv_aload_n hx hb dX3_relaxes_84 rfl (lv_at hl 4 rfl) ?_
      refine va_get (D := dd) (ci := 5) (v := .ref (ad 1)) (C := RX3) (T := TX3) (N := 15) hx hb hts (fun _ h9 => List.mem_cons_of_mem _ (List.mem_append_left _ (List.mem_append_right _ h9))) hown hK hP 0 (wM_0 cy ad u X) rfl 0 (by decide) (hts (Cond.fieldLink RX3 7 "HeadGridModel" "now" "[I") (List.mem_of_getElem? (i := 2) rfl)) (fun _ h9 => h9) rfl dX3_relaxes_85 ?_
      refine lv_bipush (v := nI 45) hx hb dX3_relaxes_88 (by decide) ?_
      refine lv_iload_n hx hb dX3_relaxes_90 rfl (lv_at hl 3 rfl) ?_
      refine wn_iadd hx hb dX3_relaxes_91 ?_
      refine wa_iald hx hb hK hP (wM_1 cy ad u X) (t0 := 0) rfl (i := 45 + c0) (by omega) (by decide) dX3_relaxes_92 ?_
      refine lv_isub hx hb dX3_relaxes_93 ?_
      refine lv_i2d hx hb dX3_relaxes_94 ?_
      refine lv_dadd hx hb dX3_relaxes_95 (n64_fin (by rw [hz, show s0 = 4 by omega]; exact (ds_B hrg hB hB0 hB1 hc0).1)) ?_
      refine lv_iload hx hb dX3_relaxes_96 (lv_at hl 1 rfl) ?_
      refine lv_i2d hx hb dX3_relaxes_98 ?_
      refine lv_ddiv hx hb dX3_relaxes_99 (n64_fin (by rw [hz, ht, show s0 = 4 by omega]; exact (dv_B hrg hB hB0 hB1 hc0 (by rw [← show s0 = 4 by omega, ← ht]; exact cA)).1)) ?_
      refine lv_topd (fun x3 ex3 => ?_)
      refine wa_dast hx hb hK hP hD hS (wM_2 cy ad u X) (t0 := 2) rfl (i := c0) (by omega) (by decide) dX3_relaxes_100 (wM_s2 cy ad u X _) (fun H locs hP hD hS => ?_)
      obtain ⟨us4, hus4⟩ : ∃ z9z : MS, z9z = (u.1, va_up u.2.1 2 (vf_upd (u.2.1 2) c0 x3), u.2.2) := ⟨_, rfl⟩
      rw [← hus4] at hP hD
      have pus4_s : us4.2.1 2 = (vf_upd (u.2.1 2) c0 x3) := by rw [hus4]; rfl
      have pus4_o : ∀ j9, j9 ≠ 2 → us4.2.1 j9 = u.2.1 j9 := fun j9 h9 => by rw [hus4]; exact va_up_n h9
      have pus4_1 : us4.1 = u.1 := by rw [hus4]
      have pus4_221 : us4.2.2.1 = u.2.2.1 := by rw [hus4]
      have pus4_222 : us4.2.2.2 = u.2.2.2 := by rw [hus4]
      have hnz : ¬ rcI (u.1 1) c0 4 = 0 := by rw [← show s0 = 4 by omega, ← ht]; exact cA
      have hrd : us4.2.1 2 c0 = rvD (u.1 1) (u.2.1 2) c0 := by rw [pus4_s, vf_s, ex3]; unfold rvD; rw [if_neg hnz, hz, ht, show s0 = 4 by omega]
      have hwas : x2 = u.2.1 2 c0 := ex2
      have hrvB := rv_B hrg hB hB0 hB1 hc0
      refine lv_aload_n hx hb dX3_relaxes_101 rfl (lv_at hl 4 rfl) ?_
      refine va_get (D := dd) (ci := 5) (v := .ref (ad 2)) (C := RX3) (T := TX3) (N := 15) hx hb hts (fun _ h9 => List.mem_cons_of_mem _ (List.mem_append_left _ (List.mem_append_right _ h9))) hown hK hP 0 (wM_0 cy ad us4 X) rfl 1 (by decide) (hts (Cond.fieldLink RX3 13 "HeadGridModel" "relaxed" "[D") (List.mem_of_getElem? (i := 1) rfl)) (fun _ h9 => h9) rfl dX3_relaxes_102 ?_
      refine lv_iload_n hx hb dX3_relaxes_105 rfl (lv_at hl 3 rfl) ?_
      refine wa_dald hx hb hK hP (wM_2 cy ad us4 X) (t0 := 2) rfl (i := c0) (by omega) (by decide) dX3_relaxes_106 ?_
      refine lv_dload hx hb dX3_relaxes_107 (lv_at hl 0 rfl) ?_
      refine wd_gge (tgt := 125) hx hb dX3_relaxes_109 dX3_relaxes_110 (by decide) (fun cL => ?_) (fun cL => ?_)
      · refine lv_aload_n hx hb dX3_relaxes_125 rfl (lv_at hl 4 rfl) ?_
        refine va_get (D := dd) (ci := 5) (v := .ref (ad 2)) (C := RX3) (T := TX3) (N := 15) hx hb hts (fun _ h9 => List.mem_cons_of_mem _ (List.mem_append_left _ (List.mem_append_right _ h9))) hown hK hP 0 (wM_0 cy ad us4 X) rfl 1 (by decide) (hts (Cond.fieldLink RX3 13 "HeadGridModel" "relaxed" "[D") (List.mem_of_getElem? (i := 1) rfl)) (fun _ h9 => h9) rfl dX3_relaxes_126 ?_
        refine lv_iload_n hx hb dX3_relaxes_129 rfl (lv_at hl 3 rfl) ?_
        refine wa_dald hx hb hK hP (wM_2 cy ad us4 X) (t0 := 2) rfl (i := c0) (by omega) (by decide) dX3_relaxes_130 ?_
        refine lv_dload hx hb dX3_relaxes_131 (lv_at hl 0 rfl) ?_
        refine lv_dsub hx hb dX3_relaxes_133 (n64_fin (by rw [hrd, hwas]; exact (dB_sub hrvB (hB c0 hc0) (by omega)).1)) ?_
        exact W.dret (v := (FP.dsub (us4.2.1 2 c0) x2)) hx hb hr (fun t ht hW => ⟨⟨(FP.dsub (us4.2.1 2 c0) x2), us4, rfl, ⟨by rw [hrd, hwas] at cL ⊢; unfold dfD; rw [if_neg cL], fun j9 => (Classical.em (j9 = c0)).elim (fun e9 => by rw [if_pos e9, e9, hrd]) (fun e9 => by rw [if_neg e9, pus4_s, vf_n e9]), frD_set frD_rf hus4⟩, by rw [ht]; exact hP, va_K.moved hW.alike hK, hD⟩, hS.F ht⟩) hS.2.2 dX3_relaxes_134
      · refine lv_dload hx hb dX3_relaxes_113 (lv_at hl 0 rfl) ?_
        refine lv_aload_n hx hb dX3_relaxes_115 rfl (lv_at hl 4 rfl) ?_
        refine va_get (D := dd) (ci := 5) (v := .ref (ad 2)) (C := RX3) (T := TX3) (N := 15) hx hb hts (fun _ h9 => List.mem_cons_of_mem _ (List.mem_append_left _ (List.mem_append_right _ h9))) hown hK hP 0 (wM_0 cy ad us4 X) rfl 1 (by decide) (hts (Cond.fieldLink RX3 13 "HeadGridModel" "relaxed" "[D") (List.mem_of_getElem? (i := 1) rfl)) (fun _ h9 => h9) rfl dX3_relaxes_116 ?_
        refine lv_iload_n hx hb dX3_relaxes_119 rfl (lv_at hl 3 rfl) ?_
        refine wa_dald hx hb hK hP (wM_2 cy ad us4 X) (t0 := 2) rfl (i := c0) (by omega) (by decide) dX3_relaxes_120 ?_
        refine lv_dsub hx hb dX3_relaxes_121 (n64_fin (by rw [hrd, hwas]; exact (dB_sub (hB c0 hc0) hrvB (by omega)).1)) ?_
        refine lv_goto (tgt := 134) hx hb dX3_relaxes_122 (by decide) ?_
        exact W.dret (v := (FP.dsub x2 (us4.2.1 2 c0))) hx hb hr (fun t ht hW => ⟨⟨(FP.dsub x2 (us4.2.1 2 c0)), us4, rfl, ⟨by rw [hrd, hwas] at cL ⊢; unfold dfD; rw [if_pos cL], fun j9 => (Classical.em (j9 = c0)).elim (fun e9 => by rw [if_pos e9, e9, hrd]) (fun e9 => by rw [if_neg e9, pus4_s, vf_n e9]), frD_set frD_rf hus4⟩, by rw [ht]; exact hP, va_K.moved hW.alike hK, hD⟩, hS.F ht⟩) hS.2.2 dX3_relaxes_134
    · refine lv_dconst0 hx hb dX3_relaxes_59 ?_
      have hzz : rvD (u.1 1) (u.2.1 2) c0 = u.2.1 2 c0 := by unfold rvD; rw [if_pos (by rw [← show s0 = 4 by omega, ← ht]; exact cA)]
      exact W.dret (v := FP.dconst0) hx hb hr (fun t ht hW => ⟨⟨FP.dconst0, u, rfl, ⟨by rw [hzz, df_self (hB c0 hc0).1], fun j9 => by rw [hzz]; exact (Classical.em (j9 = c0)).elim (fun e9 => by rw [if_pos e9, e9]) (fun e9 => by rw [if_neg e9]), frD_rf⟩, by rw [ht]; exact hP, va_K.moved hW.alike hK, hD⟩, hS.F ht⟩) hS.2.2 dX3_relaxes_60
  · refine lv_dload_n hx hb dX3_relaxes_14 rfl (lv_at hl 2 rfl) ?_
    refine lv_aload_n hx hb dX3_relaxes_15 rfl (lv_at hl 4 rfl) ?_
    refine lv_iload_n hx hb dX3_relaxes_16 rfl (lv_at hl 3 rfl) ?_
    refine lv_iload hx hb dX3_relaxes_17 (lv_at hl 0 rfl) ?_
    refine vp_callSi (va_runV (As := [.int (nI c0), .int (nI s0)]) (rest := [.double z]) ⟨hx, hb, hml, hown, hts⟩ (c_X3_conductanceOf l dd cy ad X u c0 s0 (by omega) (by omega)) (cwV 2 hts gX3_relaxes_X3_conductanceOf rfl rfl rfl hd_X3_conductanceOf ⟨Nat.le_of_ble_eq_true rfl, Nat.le_of_ble_eq_true rfl⟩) (rdW_V hP hK (wM_0 cy ad u X) rfl) rfl rfl hl.1 rfl (lv_room (Nat.le_of_ble_eq_true rfl)) dX3_relaxes_19 ⟨Nat.le_of_ble_eq_true rfl, Nat.le_of_ble_eq_true rfl⟩).run (fun r5 hr5 => ?_)
    have hr5 : r5 = (u.1 1 (lk c0 s0)) := hr5
    subst hr5
    refine lv_i2d hx hb dX3_relaxes_22 ?_
    refine lv_aload_n hx hb dX3_relaxes_23 rfl (lv_at hl 4 rfl) ?_
    refine lv_iload_n hx hb dX3_relaxes_24 rfl (lv_at hl 3 rfl) ?_
    refine lv_iload hx hb dX3_relaxes_25 (lv_at hl 0 rfl) ?_
    refine vp_callSi (va_runS (As := [.int (nI c0), .int (nI s0)]) (rest := [.ref (ad 0), .double (FP.i2d (u.1 1 (lk c0 s0))), .double z]) ⟨hx, hb, hml, hown, hts⟩ (c_X3_otherOf l c0 s0 (by omega) (by omega)) (va_cwS 2 hts gX3_relaxes_X3_otherOf rfl rfl rfl hd_X3_otherOf ⟨Nat.le_of_ble_eq_true rfl, Nat.le_of_ble_eq_true rfl⟩) ⟨fun a U g mk q => q, fun U hU hW => ⟨rfl, trivial⟩⟩ rfl rfl hl.1 rfl (lv_room (Nat.le_of_ble_eq_true rfl)) dX3_relaxes_27 ⟨Nat.le_of_ble_eq_true rfl, Nat.le_of_ble_eq_true rfl⟩).run (fun r6 hr6 => ?_)
    have hr6 : r6 = (nI (ot c0 s0)) := hr6
    subst hr6
    have ho7 := ot_lt (c := c0) (s := s0) (by omega) (by omega)
    refine vp_callSd (va_runV (As := [.int (nI (ot c0 s0))]) (rest := [.double (FP.i2d (u.1 1 (lk c0 s0))), .double z]) ⟨hx, hb, hml, hown, hts⟩ (c_X3_relaxedAt l dd cy ad X u (ot c0 s0) (by first | omega | exact ot_lt (by first | omega | assumption) (by first | omega | assumption))) (cwV 1 hts gX3_relaxes_X3_relaxedAt rfl rfl rfl hd_X3_relaxedAt ⟨Nat.le_of_ble_eq_true rfl, Nat.le_of_ble_eq_true rfl⟩) (rdW_V hP hK (wM_0 cy ad u X) rfl) rfl rfl hl.1 rfl (lv_room (Nat.le_of_ble_eq_true rfl)) dX3_relaxes_30 ⟨Nat.le_of_ble_eq_true rfl, Nat.le_of_ble_eq_true rfl⟩).run (fun r8 hr8 => ?_)
    have hr8 : r8 = (rxM u (ot c0 s0)) := hr8
    subst hr8
    refine lv_dmul hx hb dX3_relaxes_33 (n64_fin (mu_B hrg hB hB0 hB1 hc0 (by omega)).1) ?_
    refine lv_dadd hx hb dX3_relaxes_34 (n64_fin (by rw [hz]; exact (rsD_B hrg hB hB0 hB1 hc0 (s0 + 1) (by omega)).1)) ?_
    refine lv_topd (fun x9 ex9 => ?_)
    refine lv_dstore_n (lv' := [(2, .double x9), (5, .int (nI s0)), (4, .int t0), (1, .int (nI c0)), (0, .ref (ad 0))]) hx hb dX3_relaxes_35 rfl hl (by decide) rfl (fun ls hl => ?_)
    refine lv_iload hx hb dX3_relaxes_36 (lv_at hl 2 rfl) ?_
    refine lv_aload_n hx hb dX3_relaxes_38 rfl (lv_at hl 4 rfl) ?_
    refine lv_iload_n hx hb dX3_relaxes_39 rfl (lv_at hl 3 rfl) ?_
    refine lv_iload hx hb dX3_relaxes_40 (lv_at hl 1 rfl) ?_
    refine vp_callSi (va_runV (As := [.int (nI c0), .int (nI s0)]) (rest := [.int t0]) ⟨hx, hb, hml, hown, hts⟩ (c_X3_conductanceOf l dd cy ad X u c0 s0 (by omega) (by omega)) (cwV 2 hts gX3_relaxes_X3_conductanceOf rfl rfl rfl hd_X3_conductanceOf ⟨Nat.le_of_ble_eq_true rfl, Nat.le_of_ble_eq_true rfl⟩) (rdW_V hP hK (wM_0 cy ad u X) rfl) rfl rfl hl.1 rfl (lv_room (Nat.le_of_ble_eq_true rfl)) dX3_relaxes_42 ⟨Nat.le_of_ble_eq_true rfl, Nat.le_of_ble_eq_true rfl⟩).run (fun r10 hr10 => ?_)
    have hr10 : r10 = (u.1 1 (lk c0 s0)) := hr10
    subst hr10
    refine lv_iadd hx hb dX3_relaxes_45 ?_
    refine lv_topi (fun x11 ex11 => ?_)
    refine lv_istore (lv' := [(4, .int x11), (2, .double x9), (5, .int (nI s0)), (1, .int (nI c0)), (0, .ref (ad 0))]) hx hb dX3_relaxes_46 hl (by decide) rfl (fun ls hl => ?_)
    refine lv_iinc (v := (nI (s0 + 1))) (lv' := [(5, .int (nI (s0 + 1))), (4, .int x11), (2, .double x9), (1, .int (nI c0)), (0, .ref (ad 0))]) hx hb dX3_relaxes_48 hl (k := 2) rfl (nI_1 _) (by decide) rfl (fun ls hl => ?_)
    refine lv_goto (tgt := 8) hx hb dX3_relaxes_51 (by decide) ?_
    exact iha (4 - (s0 + 1)) (s0 + 1, x9, x11) ls (by omega) ⟨rfl, (by omega), (by rw [ex9, hz]; rfl), (by rw [ex11, ht]; rfl), lv_sub hl [0, 1, 2, 3, 4] rfl⟩
theorem hd_X3_relax : yX3_relax.cls = RX3 ∧ yX3_relax.cls ≠ "java/lang/invoke/MethodHandle" ∧ yX3_relax.cls ≠ "java/lang/invoke/VarHandle" ∧ (parseMethodDescriptor yX3_relax.desc).map (fun d => d.parameters.length) = some 1 := by decide +kernel
set_option maxHeartbeats 4000000 in
set_option maxRecDepth 100000 in
/-- relax(sweeps) -/
theorem c_X3_relax (l : Launch) (dd : va_G) (cy : Nat → ClassId) (ad : Nat → Nat) (X : va_W) (u : MS) (sz : Nat) (n : Nat) (hn : n ≤ 4) (h_kept : nI n = u.2.2.2.1) (sweeps : Int32) (hrg : rgM (u.1 1)) (bb : Nat) (hB : ∀ j, j < 9 → dB bb (u.2.1 2 j)) (hB0 : 1000 ≤ bb) (hB1 : bb + 900000 ≤ 2 ^ 40) : Met l yX3_relax wsX3_relax ({ frames := 3, cells := 0, slots := 0, locals := 71 }) (va_Pc [.ref (ad 0), .int sweeps] (wrW dd cy (wM cy ad u ++ X) sz)) (va_Qd (fun r u9 => u9.2.2.2.2.1 = nI (if inR sweeps (nI 0) (nI 100) then 0 else 1) ∧ ((if inR sweeps (nI 0) (nI 100) then 0 else 1) ≠ 0 → u9.1 = u.1 ∧ u9.2.1 = u.2.1 ∧ u9.2.2.2.1 = u.2.2.2.1) ∧ ((if inR sweeps (nI 0) (nI 100) then 0 else 1) = 0 → r = (rxN (u.1 1) (u.2.1 2) sweeps.toNatClampNeg).2 ∧ svP n u u9 ∧ u9.1 1 = u.1 1 ∧ ∀ j, u9.2.1 2 j = (rxN (u.1 1) (u.2.1 2) sweeps.toNatClampNeg).1 j)) (wB dd cy (fun u9 : MS => wM cy ad u9 ++ X) (va_A (wM cy ad u ++ X) sz)) (va_A (wM cy ad u ++ X) sz)) 0 0 (va_A (wM cy ad u ++ X) sz) := by
  refine Met.ofW (cc := cX3_relax) (maxL := 8) (ret := (some .double)) (by decide) rfl ?_
  intro p e s m args below meth c s₁ B hml hv
  obtain ⟨rfl, hsz, hP, hK, hD0⟩ := hv
  have hx := B.exec
  have hb := B.bytes
  have hr := B.returns
  have hts := atoms_spec (ws := wsX3_relax) B.pre
  have hown : s.vm.findClass RX3 = some m.cls := findClass_of_methodNamed B.named
  have hlocks := B.notSynchronized
  subst hsz
  have hD := hD0.self (sz := s.heap.size)
  generalize hAe : va_A (wM cy ad u ++ X) s.heap.size = A at hD ⊢
  have hA : ∀ q : Nat, s.heap.size ≤ q → A q := fun q h => by rw [← hAe]; exact Or.inr h
  have hS : va_S A s.heap s.heap [] := va_S.rf
  have hl := lv_entry ([.ref (ad 0), .int sweeps]) (n := 8) (Nat.le_of_ble_eq_true rfl)
  rw [lg_entry_eq]
  generalize (lg_sl ([.ref (ad 0), .int sweeps]) ++ List.replicate (8 - (lg_sl ([.ref (ad 0), .int sweeps])).length) Slot.unset).toArray = ls at hl ⊢
  have hl : lv_has ls 8 [(0, .ref (ad 0)), (1, .int sweeps)] := hl
  refine lv_aload_n hx hb dX3_relax_0 rfl (lv_at hl 0 rfl) ?_
  refine lv_iload_n hx hb dX3_relax_1 rfl (lv_at hl 1 rfl) ?_
  refine lv_iconst (v := nI 0) hx hb dX3_relax_2 (by decide) ?_
  refine lv_bipush (v := nI 100) hx hb dX3_relax_3 (by decide) ?_
  refine vp_callSi (va_runS (As := [.int sweeps, .int (nI 0), .int (nI 100)]) (rest := [.ref (ad 0)]) ⟨hx, hb, hml, hown, hts⟩ (c_X3_in l sweeps (nI 0) (nI 100)) (va_cwS 3 hts gX3_relax_X3_in rfl rfl rfl hd_X3_in ⟨Nat.le_of_ble_eq_true rfl, Nat.le_of_ble_eq_true rfl⟩) ⟨fun a U g mk q => q, fun U hU hW => ⟨rfl, trivial⟩⟩ rfl rfl hl.1 rfl (lv_room (Nat.le_of_ble_eq_true rfl)) dX3_relax_5 ⟨Nat.le_of_ble_eq_true rfl, Nat.le_of_ble_eq_true rfl⟩).run (fun r1 hr1 => ?_)
  have hr1 : r1 = bI (inR sweeps (nI 0) (nI 100)) := hr1
  subst hr1
  refine wb_if_eq (tgt := 15) hx hb dX3_relax_8 (by decide) (fun cC => ?_) (fun cC => ?_)
  · refine lv_iconst (v := nI 1) hx hb dX3_relax_15 (by decide) ?_
    refine va_put (D := dd) (ci := 5) (v := .int (nI 1)) (ty := .int) (C := RX3) (T := TX3) (N := 15) hx hb hts (fun _ h9 => List.mem_cons_of_mem _ (List.mem_append_left _ (List.mem_append_right _ h9))) tyX3 tyX3_ok nmX3 hown hK hP hD hS 0 (wM_0 cy ad u X) rfl 5 (by decide) (hts (Cond.fieldLink RX3 45 "HeadGridModel" "thrown" "I") (List.mem_of_getElem? (i := 1) rfl)) (fun _ h9 => h9) rfl (tyX3_ok 5 (by decide)) rfl rfl (Nat.le_of_ble_eq_true rfl) dX3_relax_16 (fun H locs hP hD hS => ?_)
    have hP : va_P dd vwCl (wM cy ad (u.1, u.2.1, u.2.2.1, u.2.2.2.1, (nI 1), u.2.2.2.2.2) ++ X) H := hP
    have hD : va_D A (wM cy ad (u.1, u.2.1, u.2.2.1, u.2.2.2.1, (nI 1), u.2.2.2.2.2) ++ X) := hD
    obtain ⟨us2, hus2⟩ : ∃ z9z : MS, z9z = (u.1, u.2.1, u.2.2.1, u.2.2.2.1, (nI 1), u.2.2.2.2.2) := ⟨_, rfl⟩
    rw [← hus2] at hP hD
    have pus2_1 : us2.1 = u.1 := by rw [hus2]
    have pus2_21 : us2.2.1 = u.2.1 := by rw [hus2]
    have pus2_221 : us2.2.2.1 = u.2.2.1 := by rw [hus2]
    have pus2_kept : us2.2.2.2.1 = u.2.2.2.1 := by rw [hus2]
    have h_kept : (nI n) = us2.2.2.2.1 := by rw [pus2_kept]; exact h_kept
    have h_thrown : (nI 1) = us2.2.2.2.2.1 := by rw [hus2]
    have pus2_whole : us2.2.2.2.2.2.1 = u.2.2.2.2.2.1 := by rw [hus2]
    have pus2_hash : us2.2.2.2.2.2.2 = u.2.2.2.2.2.2 := by rw [hus2]
    have qus2_1 : us2.1 = u.1 := pus2_1.trans rfl
    have qus2_21 : us2.2.1 = u.2.1 := pus2_21.trans rfl
    have qus2_k : us2.2.2.2.1 = u.2.2.2.1 := pus2_kept.trans rfl
    refine lv_aload_n hx hb dX3_relax_19 rfl (lv_at hl 0 rfl) ?_
    refine va_get (D := dd) (ci := 5) (v := .int (nI 1)) (C := RX3) (T := TX3) (N := 15) hx hb hts (fun _ h9 => List.mem_cons_of_mem _ (List.mem_append_left _ (List.mem_append_right _ h9))) hown hK hP 0 (wM_0 cy ad us2 X) rfl 5 (by decide) (hts (Cond.fieldLink RX3 45 "HeadGridModel" "thrown" "I") (List.mem_of_getElem? (i := 1) rfl)) (fun _ h9 => h9) (by rw [h_thrown]; rfl) dX3_relax_20 ?_
    refine wn_if_eq (tgt := 28) hx hb dX3_relax_23 (by decide) (by omega) (fun c3 => (by first | exact absurd c3 (by decide) | exact absurd (by decide) c3)) (fun _ => ?_)
    refine lv_dconst0 hx hb dX3_relax_26 ?_
    exact W.dret (v := FP.dconst0) hx hb hr (fun t ht hW => ⟨⟨FP.dconst0, us2, rfl, (by rw [cC]; exact ⟨h_thrown.symm, fun _ => ⟨qus2_1, qus2_21, qus2_k⟩, fun q9 => absurd q9 (by simp)⟩), by rw [ht]; exact hP, va_K.moved hW.alike hK, hD⟩, hS.F ht⟩) hS.2.2 dX3_relax_27
  · obtain ⟨m0, hm0, em0⟩ := inR_nat (n := 100) (by decide) cC
    have hl : lv_has ls 8 [(0, .ref (ad 0)), (1, .int (nI m0))] := by rw [← em0]; exact hl
    refine lv_iconst (v := nI 0) hx hb dX3_relax_11 (by decide) ?_
    refine lv_goto (tgt := 16) hx hb dX3_relax_12 (by decide) ?_
    refine va_put (D := dd) (ci := 5) (v := .int (nI 0)) (ty := .int) (C := RX3) (T := TX3) (N := 15) hx hb hts (fun _ h9 => List.mem_cons_of_mem _ (List.mem_append_left _ (List.mem_append_right _ h9))) tyX3 tyX3_ok nmX3 hown hK hP hD hS 0 (wM_0 cy ad u X) rfl 5 (by decide) (hts (Cond.fieldLink RX3 45 "HeadGridModel" "thrown" "I") (List.mem_of_getElem? (i := 1) rfl)) (fun _ h9 => h9) rfl (tyX3_ok 5 (by decide)) rfl rfl (Nat.le_of_ble_eq_true rfl) dX3_relax_16 (fun H locs hP hD hS => ?_)
    have hP : va_P dd vwCl (wM cy ad (u.1, u.2.1, u.2.2.1, u.2.2.2.1, (nI 0), u.2.2.2.2.2) ++ X) H := hP
    have hD : va_D A (wM cy ad (u.1, u.2.1, u.2.2.1, u.2.2.2.1, (nI 0), u.2.2.2.2.2) ++ X) := hD
    obtain ⟨us4, hus4⟩ : ∃ z9z : MS, z9z = (u.1, u.2.1, u.2.2.1, u.2.2.2.1, (nI 0), u.2.2.2.2.2) := ⟨_, rfl⟩
    rw [← hus4] at hP hD
    have pus4_1 : us4.1 = u.1 := by rw [hus4]
    have pus4_21 : us4.2.1 = u.2.1 := by rw [hus4]
    have pus4_221 : us4.2.2.1 = u.2.2.1 := by rw [hus4]
    have pus4_kept : us4.2.2.2.1 = u.2.2.2.1 := by rw [hus4]
    have h_kept : (nI n) = us4.2.2.2.1 := by rw [pus4_kept]; exact h_kept
    have h_thrown : (nI 0) = us4.2.2.2.2.1 := by rw [hus4]
    have pus4_whole : us4.2.2.2.2.2.1 = u.2.2.2.2.2.1 := by rw [hus4]
    have pus4_hash : us4.2.2.2.2.2.2 = u.2.2.2.2.2.2 := by rw [hus4]
    have qus4_1 : us4.1 = u.1 := pus4_1.trans rfl
    have qus4_21 : us4.2.1 = u.2.1 := pus4_21.trans rfl
    have qus4_k : us4.2.2.2.1 = u.2.2.2.1 := pus4_kept.trans rfl
    refine lv_aload_n hx hb dX3_relax_19 rfl (lv_at hl 0 rfl) ?_
    refine va_get (D := dd) (ci := 5) (v := .int (nI 0)) (C := RX3) (T := TX3) (N := 15) hx hb hts (fun _ h9 => List.mem_cons_of_mem _ (List.mem_append_left _ (List.mem_append_right _ h9))) hown hK hP 0 (wM_0 cy ad us4 X) rfl 5 (by decide) (hts (Cond.fieldLink RX3 45 "HeadGridModel" "thrown" "I") (List.mem_of_getElem? (i := 1) rfl)) (fun _ h9 => h9) (by rw [h_thrown]; rfl) dX3_relax_20 ?_
    refine wn_if_eq (tgt := 28) hx hb dX3_relax_23 (by decide) (by omega) (fun _ => ?_) (fun c5 => (by first | exact absurd (by decide) c5 | exact absurd c5 (by decide)))
    refine lv_aload_n hx hb dX3_relax_28 rfl (lv_at hl 0 rfl) ?_
    refine wc_callv (va_runV (As := []) (rest := []) ⟨hx, hb, hml, hown, hts⟩ (c_X3_keep l dd cy ad X us4 _ n hn h_kept) (cwV 0 hts gX3_relax_X3_keep rfl rfl rfl hd_X3_keep ⟨Nat.le_of_ble_eq_true rfl, Nat.le_of_ble_eq_true rfl⟩) (wrW_V hP hK hD (wM_0 cy ad us4 X) rfl) rfl rfl hl.1 rfl (lv_room (Nat.le_of_ble_eq_true rfl)) dX3_relax_29 ⟨Nat.le_of_ble_eq_true rfl, Nat.le_of_ble_eq_true rfl⟩) hD hS hA (fun us6 H locs w7 hP hD hS => ?_)
    obtain ⟨hsv, hki, hkd, hkl, hks⟩ := w7
    refine lv_dconst0 hx hb dX3_relax_32 ?_
    refine lv_dstore_n (lv' := [(2, .double FP.dconst0), (0, .ref (ad 0)), (1, .int (nI m0))]) hx hb dX3_relax_33 rfl hl (by decide) rfl (fun ls hl => ?_)
    refine lv_iconst (v := nI 0) hx hb dX3_relax_34 (by decide) ?_
    refine lv_istore (lv' := [(4, .int (nI 0)), (2, .double FP.dconst0), (0, .ref (ad 0)), (1, .int (nI m0))]) hx hb dX3_relax_35 hl (by decide) rfl (fun ls hl => ?_)
    obtain ⟨uB, huB⟩ : ∃ z9z, z9z = us6 := ⟨_, rfl⟩
    rw [← huB] at hP hD hsv hki hkd hkl hks
    have hr2 : rgM (uB.1 1) := by rw [hki 1 (by decide), qus4_1]; exact hrg
    have hB2 : ∀ j, j < 9 → dB bb (uB.2.1 2 j) := by rw [hkd 2 (by decide), qus4_21]; exact hB
    refine wLoop (σ := Nat × UInt64 × MS) (fun k x H locs ls => k = m0 - x.1 ∧ (x.1 ≤ m0) ∧ (frD 2 uB x.2.2) ∧ (∀ j, x.2.2.2.1 2 j = (rxN (uB.1 1) (uB.2.1 2) x.1).1 j) ∧ (x.2.1 = (rxN (uB.1 1) (uB.2.1 2) x.1).2) ∧ va_P dd vwCl (wM cy ad x.2.2 ++ X) H ∧ va_D A (wM cy ad x.2.2 ++ X) ∧ va_S A s.heap H locs ∧ lv_has ls 8 [(4, .int (nI x.1)), (2, .double x.2.1), (1, .int (nI m0)), (0, .ref (ad 0))]) ?_ _ (0, FP.dconst0, uB) _ _ _ ⟨rfl, (by omega), frD_rf, (fun _ => rfl), rfl, hP, hD, hS, lv_sub hl [0, 1, 3, 2] rfl⟩
    intro ko x H locs ls hI iho
    obtain ⟨n0, z, u1⟩ := x
    obtain ⟨hko, hn0, hF, hN, hz, hP, hD, hS, hl⟩ := hI
    have hko : ko = m0 - n0 := hko
    have hn0 : n0 ≤ m0 := hn0
    have hF : frD 2 uB u1 := hF
    have hN : ∀ j, u1.2.1 2 j = (rxN (uB.1 1) (uB.2.1 2) n0).1 j := hN
    have hz : z = (rxN (uB.1 1) (uB.2.1 2) n0).2 := hz
    have hP : va_P dd vwCl (wM cy ad u1 ++ X) H := hP
    have hD : va_D A (wM cy ad u1 ++ X) := hD
    have hl : lv_has ls 8 [(4, .int (nI n0)), (2, .double z), (1, .int (nI m0)), (0, .ref (ad 0))] := hl
    refine lv_iload hx hb dX3_relax_37 (lv_at hl 0 rfl) ?_
    refine lv_iload_n hx hb dX3_relax_39 rfl (lv_at hl 2 rfl) ?_
    refine wn_icmp_ge (tgt := 89) hx hb dX3_relax_40 (by decide) (by omega) (by omega) (fun c8 => ?_) (fun c8 => ?_)
    · refine lv_dload_n hx hb dX3_relax_89 rfl (lv_at hl 1 rfl) ?_
      exact W.dret (v := z) hx hb hr (fun t ht hW => ⟨⟨z, u1, rfl, (by rw [cC]; exact ⟨by rw [show u1.2.2.2.2.1 = us4.2.2.2.2.1 by rw [hF.2.2, hks]]; exact h_thrown.symm, fun q9 => absurd rfl q9, fun _ => ⟨by rw [hz, show n0 = m0 by omega, show uB.1 1 = u.1 1 by rw [hki 1 (by decide), qus4_1], show uB.2.1 2 = u.2.1 2 by rw [hkd 2 (by decide), qus4_21], show sweeps.toNatClampNeg = m0 by rw [em0, nI_clamp (by omega)]], ⟨by rw [hF.2.2]; exact hsv.1, fun i9 hi9 j9 hj9 => by rw [hF.1, hsv.2.1 i9 hi9 j9 hj9, qus4_1], fun j9 hj9 => by rw [hF.1, hsv.2.2.1 j9 hj9, qus4_1], fun i9 hi9 j9 hj9 => by rw [hF.2.1 4 (by decide), hsv.2.2.2.1 i9 hi9 j9 hj9, qus4_21], fun j9 hj9 => by rw [hF.2.1 4 (by decide), hsv.2.2.2.2 j9 hj9, qus4_21]⟩, by rw [hF.1, show uB.1 1 = u.1 1 by rw [hki 1 (by decide), qus4_1]], fun j9 => by rw [hN j9, show n0 = m0 by omega, show uB.1 1 = u.1 1 by rw [hki 1 (by decide), qus4_1], show uB.2.1 2 = u.2.1 2 by rw [hkd 2 (by decide), qus4_21], show sweeps.toNatClampNeg = m0 by rw [em0, nI_clamp (by omega)]]⟩⟩), by rw [ht]; exact hP, va_K.moved hW.alike hK, hD⟩, hS.F ht⟩) hS.2.2 dX3_relax_90
    · refine lv_dconst0 hx hb dX3_relax_43 ?_
      refine lv_dstore_n (lv' := [(2, .double FP.dconst0), (4, .int (nI n0)), (1, .int (nI m0)), (0, .ref (ad 0))]) hx hb dX3_relax_44 rfl hl (by decide) rfl (fun ls hl => ?_)
      refine lv_iconst (v := nI 0) hx hb dX3_relax_45 (by decide) ?_
      refine lv_istore (lv' := [(5, .int (nI 0)), (2, .double FP.dconst0), (4, .int (nI n0)), (1, .int (nI m0)), (0, .ref (ad 0))]) hx hb dX3_relax_46 hl (by decide) rfl (fun ls hl => ?_)
      have hRn := (rxN_B hr2 hB2 hB0 n0 (by omega)).1
      have hNf : (fun j => u1.2.1 2 j) = (rxN (uB.1 1) (uB.2.1 2) n0).1 := funext hN
      refine wLoop (σ := Nat × UInt64 × MS) (fun k x H locs ls => k = 9 - x.1 ∧ (x.1 ≤ 9) ∧ (frD 2 uB x.2.2) ∧ (∀ j, x.2.2.2.1 2 j = (rxS (uB.1 1) (rxN (uB.1 1) (uB.2.1 2) n0).1 x.1).1 j) ∧ (x.2.1 = (rxS (uB.1 1) (rxN (uB.1 1) (uB.2.1 2) n0).1 x.1).2) ∧ va_P dd vwCl (wM cy ad x.2.2 ++ X) H ∧ va_D A (wM cy ad x.2.2 ++ X) ∧ va_S A s.heap H locs ∧ lv_has ls 8 [(5, .int (nI x.1)), (4, .int (nI n0)), (2, .double x.2.1), (1, .int (nI m0)), (0, .ref (ad 0))]) ?_ _ (0, FP.dconst0, u1) _ _ _ ⟨rfl, (by omega), hF, hN, rfl, hP, hD, hS, lv_sub hl [0, 2, 1, 3, 4] rfl⟩
      intro ki x H locs ls hI ihi
      obtain ⟨c0, z, u1⟩ := x
      obtain ⟨hki, hc0, hF, hS1, hz, hP, hD, hS, hl⟩ := hI
      have hki : ki = 9 - c0 := hki
      have hc0 : c0 ≤ 9 := hc0
      have hF : frD 2 uB u1 := hF
      have hS1 : ∀ j, u1.2.1 2 j = (rxS (uB.1 1) (rxN (uB.1 1) (uB.2.1 2) n0).1 c0).1 j := hS1
      have hz : z = (rxS (uB.1 1) (rxN (uB.1 1) (uB.2.1 2) n0).1 c0).2 := hz
      have hP : va_P dd vwCl (wM cy ad u1 ++ X) H := hP
      have hD : va_D A (wM cy ad u1 ++ X) := hD
      have hl : lv_has ls 8 [(5, .int (nI c0)), (4, .int (nI n0)), (2, .double z), (1, .int (nI m0)), (0, .ref (ad 0))] := hl
      refine lv_iload hx hb dX3_relax_48 (lv_at hl 0 rfl) ?_
      refine lv_bipush (v := nI 9) hx hb dX3_relax_50 (by decide) ?_
      refine wn_icmp_ge (tgt := 83) hx hb dX3_relax_52 (by decide) (by omega) (by omega) (fun c9 => ?_) (fun c9 => ?_)
      · refine lv_iinc (v := (nI (n0 + 1))) (lv' := [(4, .int (nI (n0 + 1))), (5, .int (nI c0)), (2, .double z), (1, .int (nI m0)), (0, .ref (ad 0))]) hx hb dX3_relax_83 hl (k := 1) rfl (nI_1 _) (by decide) rfl (fun ls hl => ?_)
        refine lv_goto (tgt := 37) hx hb dX3_relax_86 (by decide) ?_
        exact iho (m0 - (n0 + 1)) (n0 + 1, z, u1) _ _ ls (by omega) ⟨rfl, (by omega), hF, (fun j9 => by rw [hS1 j9, show c0 = 9 by omega]; rfl), (by rw [hz, show c0 = 9 by omega]; rfl), hP, hD, hS, lv_sub hl [0, 2, 3, 4] rfl⟩
      · refine lv_aload_n hx hb dX3_relax_55 rfl (lv_at hl 4 rfl) ?_
        refine lv_iload hx hb dX3_relax_56 (lv_at hl 0 rfl) ?_
        refine wc_calld (va_runV (As := [.int (nI c0)]) (rest := []) ⟨hx, hb, hml, hown, hts⟩ (c_X3_relaxes l dd cy ad X u1 _ c0 (by omega) (by rw [hF.1]; exact hr2) _ (fun j9 hj9 => by rw [hS1 j9]; exact (rxS_B hr2 hRn (by omega) (by omega) c0 (by omega)).1 j9 hj9) (by omega) (by omega)) (cwV 1 hts gX3_relax_X3_relaxes rfl rfl rfl hd_X3_relaxes ⟨Nat.le_of_ble_eq_true rfl, Nat.le_of_ble_eq_true rfl⟩) (wrW_V hP hK hD (wM_0 cy ad u1 X) rfl) rfl rfl hl.1 rfl (lv_room (Nat.le_of_ble_eq_true rfl)) dX3_relax_58 ⟨Nat.le_of_ble_eq_true rfl, Nat.le_of_ble_eq_true rfl⟩) hD hS hA (fun r10 us11 H locs w12 hP hD hS => ?_)
        obtain ⟨hr10, hj9, hf9⟩ := w12
        refine lv_dstore (lv' := [(6, .double r10), (5, .int (nI c0)), (4, .int (nI n0)), (2, .double z), (1, .int (nI m0)), (0, .ref (ad 0))]) hx hb dX3_relax_61 hl (by decide) rfl (fun ls hl => ?_)
        refine lv_dload hx hb dX3_relax_63 (lv_at hl 0 rfl) ?_
        refine lv_dload_n hx hb dX3_relax_65 rfl (lv_at hl 3 rfl) ?_
        refine wd_lle (tgt := 75) hx hb dX3_relax_66 dX3_relax_67 (by decide) (fun cM => ?_) (fun cM => ?_)
        · refine lv_dload_n hx hb dX3_relax_75 rfl (lv_at hl 3 rfl) ?_
          refine lv_dstore_n (lv' := [(2, .double z), (6, .double r10), (5, .int (nI c0)), (4, .int (nI n0)), (1, .int (nI m0)), (0, .ref (ad 0))]) hx hb dX3_relax_76 rfl hl (by decide) rfl (fun ls hl => ?_)
          refine lv_iinc (v := (nI (c0 + 1))) (lv' := [(5, .int (nI (c0 + 1))), (2, .double z), (6, .double r10), (4, .int (nI n0)), (1, .int (nI m0)), (0, .ref (ad 0))]) hx hb dX3_relax_77 hl (k := 2) rfl (nI_1 _) (by decide) rfl (fun ls hl => ?_)
          refine lv_goto (tgt := 48) hx hb dX3_relax_80 (by decide) ?_
          have hfn : u1.2.1 2 = (rxS (uB.1 1) (rxN (uB.1 1) (uB.2.1 2) n0).1 c0).1 := funext hS1
          have h1e : u1.1 1 = uB.1 1 := by rw [hF.1]
          rw [h1e, hfn] at hr10 hj9
          exact ihi (9 - (c0 + 1)) (c0 + 1, z, us11) _ _ ls (by omega) ⟨rfl, (by omega), ⟨hf9.1.trans hF.1, fun k9 h9 => (hf9.2.1 k9 h9).trans (hF.2.1 k9 h9), hf9.2.2.trans hF.2.2⟩, (fun j9 => by rw [hj9 j9]; rfl), (by show z = mxD _ _; unfold mxD; rw [if_neg (by rw [← hr10, ← hz]; exact cM)]; exact hz), hP, hD, hS, lv_sub hl [0, 3, 1, 4, 5] rfl⟩
        · refine lv_dload hx hb dX3_relax_70 (lv_at hl 0 rfl) ?_
          refine lv_goto (tgt := 76) hx hb dX3_relax_72 (by decide) ?_
          refine lv_dstore_n (lv' := [(2, .double r10), (6, .double r10), (5, .int (nI c0)), (4, .int (nI n0)), (1, .int (nI m0)), (0, .ref (ad 0))]) hx hb dX3_relax_76 rfl hl (by decide) rfl (fun ls hl => ?_)
          refine lv_iinc (v := (nI (c0 + 1))) (lv' := [(5, .int (nI (c0 + 1))), (2, .double r10), (6, .double r10), (4, .int (nI n0)), (1, .int (nI m0)), (0, .ref (ad 0))]) hx hb dX3_relax_77 hl (k := 2) rfl (nI_1 _) (by decide) rfl (fun ls hl => ?_)
          refine lv_goto (tgt := 48) hx hb dX3_relax_80 (by decide) ?_
          have hfn : u1.2.1 2 = (rxS (uB.1 1) (rxN (uB.1 1) (uB.2.1 2) n0).1 c0).1 := funext hS1
          have h1e : u1.1 1 = uB.1 1 := by rw [hF.1]
          rw [h1e, hfn] at hr10 hj9
          exact ihi (9 - (c0 + 1)) (c0 + 1, r10, us11) _ _ ls (by omega) ⟨rfl, (by omega), ⟨hf9.1.trans hF.1, fun k9 h9 => (hf9.2.1 k9 h9).trans (hF.2.1 k9 h9), hf9.2.2.trans hF.2.2⟩, (fun j9 => by rw [hj9 j9]; rfl), (by show r10 = mxD _ _; unfold mxD; rw [if_pos (by rw [← hr10, ← hz]; exact cM)]; exact hr10), hP, hD, hS, lv_sub hl [0, 3, 1, 4, 5] rfl⟩
theorem hd_X3_relaxed : yX3_relaxed.cls = RX3 ∧ yX3_relaxed.cls ≠ "java/lang/invoke/MethodHandle" ∧ yX3_relaxed.cls ≠ "java/lang/invoke/VarHandle" ∧ (parseMethodDescriptor yX3_relaxed.desc).map (fun d => d.parameters.length) = some 1 := by decide +kernel
set_option maxHeartbeats 4000000 in
set_option maxRecDepth 100000 in
/-- relaxed(cell) -/
theorem c_X3_relaxed (l : Launch) (dd : va_G) (cy : Nat → ClassId) (ad : Nat → Nat) (X : va_W) (u : MS) (sz : Nat) (cell : Int32) : Met l yX3_relaxed wsX3_relaxed ({ frames := 2, cells := 0, slots := 0, locals := 42 }) (va_Pc [.ref (ad 0), .int cell] (wrW dd cy (wM cy ad u ++ X) sz)) (va_Qd (fun r u9 => u9.2.2.2.2.1 = nI (if inR cell (nI 0) (nI 8) then 0 else 1) ∧ u9.1 = u.1 ∧ u9.2.1 = u.2.1 ∧ u9.2.2.2.1 = u.2.2.2.1 ∧ ((if inR cell (nI 0) (nI 8) then 0 else 1) = 0 → r = u.2.1 2 cell.toNatClampNeg)) (wB dd cy (fun u9 : MS => wM cy ad u9 ++ X) (va_A (wM cy ad u ++ X) sz)) (va_A (wM cy ad u ++ X) sz)) 0 0 (va_A (wM cy ad u ++ X) sz) := by
  refine Met.ofW (cc := cX3_relaxed) (maxL := 2) (ret := (some .double)) (by decide) rfl ?_
  intro p e s m args below meth c s₁ B hml hv
  obtain ⟨rfl, hsz, hP, hK, hD0⟩ := hv
  have hx := B.exec
  have hb := B.bytes
  have hr := B.returns
  have hts := atoms_spec (ws := wsX3_relaxed) B.pre
  have hown : s.vm.findClass RX3 = some m.cls := findClass_of_methodNamed B.named
  have hlocks := B.notSynchronized
  subst hsz
  have hD := hD0.self (sz := s.heap.size)
  generalize hAe : va_A (wM cy ad u ++ X) s.heap.size = A at hD ⊢
  have hA : ∀ q : Nat, s.heap.size ≤ q → A q := fun q h => by rw [← hAe]; exact Or.inr h
  have hS : va_S A s.heap s.heap [] := va_S.rf
  have hl := lv_entry ([.ref (ad 0), .int cell]) (n := 2) (Nat.le_of_ble_eq_true rfl)
  rw [lg_entry_eq]
  generalize (lg_sl ([.ref (ad 0), .int cell]) ++ List.replicate (2 - (lg_sl ([.ref (ad 0), .int cell])).length) Slot.unset).toArray = ls at hl ⊢
  have hl : lv_has ls 2 [(0, .ref (ad 0)), (1, .int cell)] := hl
  refine lv_aload_n hx hb dX3_relaxed_0 rfl (lv_at hl 0 rfl) ?_
  refine lv_iload_n hx hb dX3_relaxed_1 rfl (lv_at hl 1 rfl) ?_
  refine vp_callSi (va_runS (As := [.int cell]) (rest := [.ref (ad 0)]) ⟨hx, hb, hml, hown, hts⟩ (c_X3_isCell l cell) (va_cwS 1 hts gX3_relaxed_X3_isCell rfl rfl rfl hd_X3_isCell ⟨Nat.le_of_ble_eq_true rfl, Nat.le_of_ble_eq_true rfl⟩) ⟨fun a U g mk q => q, fun U hU hW => ⟨rfl, trivial⟩⟩ rfl rfl hl.1 rfl (lv_room (Nat.le_of_ble_eq_true rfl)) dX3_relaxed_2 ⟨Nat.le_of_ble_eq_true rfl, Nat.le_of_ble_eq_true rfl⟩).run (fun r1 hr1 => ?_)
  have hr1 : r1 = bI (inR cell (nI 0) (nI 8)) := hr1
  subst hr1
  refine wb_if_eq (tgt := 12) hx hb dX3_relaxed_5 (by decide) (fun cC => ?_) (fun cC => ?_)
  · refine lv_iconst (v := nI 1) hx hb dX3_relaxed_12 (by decide) ?_
    refine va_put (D := dd) (ci := 5) (v := .int (nI 1)) (ty := .int) (C := RX3) (T := TX3) (N := 15) hx hb hts (fun _ h9 => List.mem_cons_of_mem _ (List.mem_append_left _ (List.mem_append_right _ h9))) tyX3 tyX3_ok nmX3 hown hK hP hD hS 0 (wM_0 cy ad u X) rfl 5 (by decide) (hts (Cond.fieldLink RX3 45 "HeadGridModel" "thrown" "I") (List.mem_of_getElem? (i := 1) rfl)) (fun _ h9 => h9) rfl (tyX3_ok 5 (by decide)) rfl rfl (Nat.le_of_ble_eq_true rfl) dX3_relaxed_13 (fun H locs hP hD hS => ?_)
    have hP : va_P dd vwCl (wM cy ad (u.1, u.2.1, u.2.2.1, u.2.2.2.1, (nI 1), u.2.2.2.2.2) ++ X) H := hP
    have hD : va_D A (wM cy ad (u.1, u.2.1, u.2.2.1, u.2.2.2.1, (nI 1), u.2.2.2.2.2) ++ X) := hD
    obtain ⟨us2, hus2⟩ : ∃ z9z : MS, z9z = (u.1, u.2.1, u.2.2.1, u.2.2.2.1, (nI 1), u.2.2.2.2.2) := ⟨_, rfl⟩
    rw [← hus2] at hP hD
    have pus2_1 : us2.1 = u.1 := by rw [hus2]
    have pus2_21 : us2.2.1 = u.2.1 := by rw [hus2]
    have pus2_221 : us2.2.2.1 = u.2.2.1 := by rw [hus2]
    have pus2_kept : us2.2.2.2.1 = u.2.2.2.1 := by rw [hus2]
    have h_thrown : (nI 1) = us2.2.2.2.2.1 := by rw [hus2]
    have pus2_whole : us2.2.2.2.2.2.1 = u.2.2.2.2.2.1 := by rw [hus2]
    have pus2_hash : us2.2.2.2.2.2.2 = u.2.2.2.2.2.2 := by rw [hus2]
    have qus2_1 : us2.1 = u.1 := pus2_1.trans rfl
    have qus2_21 : us2.2.1 = u.2.1 := pus2_21.trans rfl
    have qus2_k : us2.2.2.2.1 = u.2.2.2.1 := pus2_kept.trans rfl
    refine lv_aload_n hx hb dX3_relaxed_16 rfl (lv_at hl 0 rfl) ?_
    refine va_get (D := dd) (ci := 5) (v := .int (nI 1)) (C := RX3) (T := TX3) (N := 15) hx hb hts (fun _ h9 => List.mem_cons_of_mem _ (List.mem_append_left _ (List.mem_append_right _ h9))) hown hK hP 0 (wM_0 cy ad us2 X) rfl 5 (by decide) (hts (Cond.fieldLink RX3 45 "HeadGridModel" "thrown" "I") (List.mem_of_getElem? (i := 1) rfl)) (fun _ h9 => h9) (by rw [h_thrown]; rfl) dX3_relaxed_17 ?_
    refine wn_if_eq (tgt := 27) hx hb dX3_relaxed_20 (by decide) (by omega) (fun c3 => (by first | exact absurd c3 (by decide) | exact absurd (by decide) c3)) (fun _ => ?_)
    refine lv_dconst0 hx hb dX3_relaxed_23 ?_
    refine lv_goto (tgt := 33) hx hb dX3_relaxed_24 (by decide) ?_
    exact W.dret (v := FP.dconst0) hx hb hr (fun t ht hW => ⟨⟨FP.dconst0, us2, rfl, (by rw [cC]; exact ⟨h_thrown.symm, qus2_1, qus2_21, qus2_k, fun q9 => absurd q9 (by simp)⟩), by rw [ht]; exact hP, va_K.moved hW.alike hK, hD⟩, hS.F ht⟩) hS.2.2 dX3_relaxed_33
  · obtain ⟨c0, hc0, ec0⟩ := inR_nat (n := 8) (by decide) cC
    have hl : lv_has ls 2 [(0, .ref (ad 0)), (1, .int (nI c0))] := by rw [← ec0]; exact hl
    refine lv_iconst (v := nI 0) hx hb dX3_relaxed_8 (by decide) ?_
    refine lv_goto (tgt := 13) hx hb dX3_relaxed_9 (by decide) ?_
    refine va_put (D := dd) (ci := 5) (v := .int (nI 0)) (ty := .int) (C := RX3) (T := TX3) (N := 15) hx hb hts (fun _ h9 => List.mem_cons_of_mem _ (List.mem_append_left _ (List.mem_append_right _ h9))) tyX3 tyX3_ok nmX3 hown hK hP hD hS 0 (wM_0 cy ad u X) rfl 5 (by decide) (hts (Cond.fieldLink RX3 45 "HeadGridModel" "thrown" "I") (List.mem_of_getElem? (i := 1) rfl)) (fun _ h9 => h9) rfl (tyX3_ok 5 (by decide)) rfl rfl (Nat.le_of_ble_eq_true rfl) dX3_relaxed_13 (fun H locs hP hD hS => ?_)
    have hP : va_P dd vwCl (wM cy ad (u.1, u.2.1, u.2.2.1, u.2.2.2.1, (nI 0), u.2.2.2.2.2) ++ X) H := hP
    have hD : va_D A (wM cy ad (u.1, u.2.1, u.2.2.1, u.2.2.2.1, (nI 0), u.2.2.2.2.2) ++ X) := hD
    obtain ⟨us4, hus4⟩ : ∃ z9z : MS, z9z = (u.1, u.2.1, u.2.2.1, u.2.2.2.1, (nI 0), u.2.2.2.2.2) := ⟨_, rfl⟩
    rw [← hus4] at hP hD
    have pus4_1 : us4.1 = u.1 := by rw [hus4]
    have pus4_21 : us4.2.1 = u.2.1 := by rw [hus4]
    have pus4_221 : us4.2.2.1 = u.2.2.1 := by rw [hus4]
    have pus4_kept : us4.2.2.2.1 = u.2.2.2.1 := by rw [hus4]
    have h_thrown : (nI 0) = us4.2.2.2.2.1 := by rw [hus4]
    have pus4_whole : us4.2.2.2.2.2.1 = u.2.2.2.2.2.1 := by rw [hus4]
    have pus4_hash : us4.2.2.2.2.2.2 = u.2.2.2.2.2.2 := by rw [hus4]
    have qus4_1 : us4.1 = u.1 := pus4_1.trans rfl
    have qus4_21 : us4.2.1 = u.2.1 := pus4_21.trans rfl
    have qus4_k : us4.2.2.2.1 = u.2.2.2.1 := pus4_kept.trans rfl
    refine lv_aload_n hx hb dX3_relaxed_16 rfl (lv_at hl 0 rfl) ?_
    refine va_get (D := dd) (ci := 5) (v := .int (nI 0)) (C := RX3) (T := TX3) (N := 15) hx hb hts (fun _ h9 => List.mem_cons_of_mem _ (List.mem_append_left _ (List.mem_append_right _ h9))) hown hK hP 0 (wM_0 cy ad us4 X) rfl 5 (by decide) (hts (Cond.fieldLink RX3 45 "HeadGridModel" "thrown" "I") (List.mem_of_getElem? (i := 1) rfl)) (fun _ h9 => h9) (by rw [h_thrown]; rfl) dX3_relaxed_17 ?_
    refine wn_if_eq (tgt := 27) hx hb dX3_relaxed_20 (by decide) (by omega) (fun _ => ?_) (fun c5 => (by first | exact absurd (by decide) c5 | exact absurd c5 (by decide)))
    refine lv_aload_n hx hb dX3_relaxed_27 rfl (lv_at hl 0 rfl) ?_
    refine va_get (D := dd) (ci := 5) (v := .ref (ad 2)) (C := RX3) (T := TX3) (N := 15) hx hb hts (fun _ h9 => List.mem_cons_of_mem _ (List.mem_append_left _ (List.mem_append_right _ h9))) hown hK hP 0 (wM_0 cy ad us4 X) rfl 1 (by decide) (hts (Cond.fieldLink RX3 13 "HeadGridModel" "relaxed" "[D") (List.mem_of_getElem? (i := 2) rfl)) (fun _ h9 => h9) rfl dX3_relaxed_28 ?_
    refine lv_iload_n hx hb dX3_relaxed_31 rfl (lv_at hl 1 rfl) ?_
    refine wa_dald hx hb hK hP (wM_2 cy ad us4 X) (t0 := 2) rfl (i := c0) (by omega) (by decide) dX3_relaxed_32 ?_
    exact W.dret (v := us4.2.1 2 c0) hx hb hr (fun t ht hW => ⟨⟨us4.2.1 2 c0, us4, rfl, (by rw [cC]; exact ⟨h_thrown.symm, qus4_1, qus4_21, qus4_k, fun _ => by rw [qus4_21, ec0, nI_clamp (by omega)]⟩), by rw [ht]; exact hP, va_K.moved hW.alike hK, hD⟩, hS.F ht⟩) hS.2.2 dX3_relaxed_33

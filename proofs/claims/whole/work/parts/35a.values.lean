/-! the numbers of a grid that isn't loose stay small -/
def bd (B : Int) (x : Int64) : Prop := ∃ z : Int, x = Int64.ofInt z ∧ -B ≤ z ∧ z ≤ B
theorem bd_mono {B C : Int} {x : Int64} (h : bd B x) (hc : B ≤ C) : bd C x := by
  obtain ⟨z, e, h1, h2⟩ := h
  exact ⟨z, e, by omega, by omega⟩
theorem bd_add {B C : Int} {x y : Int64} (hx : bd B x) (hy : bd C y) : bd (B + C) (x + y) := by
  obtain ⟨z, e, h1, h2⟩ := hx
  obtain ⟨w, f, h3, h4⟩ := hy
  exact ⟨z + w, by rw [e, f, Int64.ofInt_add], by omega, by omega⟩
theorem bd_sub {B C : Int} {x y : Int64} (hx : bd B x) (hy : bd C y) : bd (B + C) (x - y) := by
  obtain ⟨z, e, h1, h2⟩ := hx
  obtain ⟨w, f, h3, h4⟩ := hy
  exact ⟨z - w, by rw [e, f, Int64.ofInt_sub], by omega, by omega⟩
theorem im_abs {B C z w : Int} (h1 : -B ≤ z ∧ z ≤ B) (h2 : -C ≤ w ∧ w ≤ C) : -(B * C) ≤ z * w ∧ z * w ≤ B * C := by
  have hB : 0 ≤ B := by omega
  have hC : 0 ≤ C := by omega
  rcases Int.lt_or_le z 0 with hz | hz
  · rcases Int.lt_or_le w 0 with hw | hw
    · have := im_mono (a := -z) (b := B) (c := -w) (d := C) (by omega) (by omega) hB (by omega)
      rw [Int.neg_mul_neg] at this
      have h0 := im_nn (Int.le_of_lt hz) (Int.le_of_lt hw)
      have := im_pp hB hC
      omega
    · have := im_mono (a := -z) (b := B) (c := w) (d := C) (by omega) (by omega) hB hw
      rw [Int.neg_mul] at this
      have h0 := im_np (Int.le_of_lt hz) hw
      have := im_pp hB hC
      omega
  · rcases Int.lt_or_le w 0 with hw | hw
    · have := im_mono (a := z) (b := B) (c := -w) (d := C) (by omega) (by omega) hB (by omega)
      rw [Int.mul_neg] at this
      have h0 := im_pn hz (Int.le_of_lt hw)
      have := im_pp hB hC
      omega
    · have := im_mono (a := z) (b := B) (c := w) (d := C) (by omega) (by omega) hB hw
      have h0 := im_pp hz hw
      omega
theorem bd_mul {B C : Int} {x y : Int64} (hx : bd B x) (hy : bd C y) : bd (B * C) (x * y) := by
  obtain ⟨z, e, h1, h2⟩ := hx
  obtain ⟨w, f, h3, h4⟩ := hy
  have := im_abs ⟨h1, h2⟩ ⟨h3, h4⟩
  exact ⟨z * w, by rw [e, f, Int64.ofInt_mul], this.1, this.2⟩
theorem bd_smL {B : Int} {f : Nat → Int64} : ∀ {n : Nat}, (∀ k, k < n → bd B (f k)) → bd (n * B) (smL n f)
  | 0, _ => ⟨0, ofI_0.symm, by simp, by simp⟩
  | n + 1, h => by
    have h1 := bd_add (bd_smL (n := n) (fun k hk => h k (by omega))) (h n (by omega))
    rw [smL]
    refine bd_mono h1 ?_
    rw [show ((n + 1 : Nat) : Int) = (n : Int) + 1 by omega, Int.add_mul, Int.one_mul]
    exact Int.le_refl _
theorem bd_i32 {B : Int} {x : Int32} (h1 : -B ≤ x.toInt) (h2 : x.toInt ≤ B) : bd B x.toInt64 := ⟨x.toInt, ofI_32 x, h1, h2⟩
theorem bd_T {B : Int} {x : Int64} (h : bd B x) (hB : B < 2 ^ 63) : -B ≤ x.toInt ∧ x.toInt ≤ B := by
  obtain ⟨z, e, h1, h2⟩ := h
  rw [e, ofI_T (by omega) (by omega)]
  exact ⟨h1, h2⟩
theorem bd_ne {B : Int} {x : Int64} (h : bd B x) (hB : B < 2 ^ 63) : x.toInt ≠ -2 ^ 63 := by
  have := bd_T h hB
  omega
section VAL
variable {now : Nat → Int32}
theorem cof_B (hr : rgM now) (ht : nR (gNow now) 9 = 511) {a b : Nat} (ha : a < 9) (hb : b < 9) : 0 ≤ cof 9 (AM now) a b ∧ cof 9 (AM now) a b ≤ 1342177280 := by
  have hB := AM_bal hr.1
  have hp : ∀ j, j < 9 → pv (AM now) (j + 1) ≠ 0 := fun j hj => tight_piv hr.1 ht j hj
  have e : Tm (AM now) 9 a b = cof 9 (AM now) a b := by unfold Tm; rw [if_pos hb, if_pos ha]
  rw [← e]
  exact ⟨(Gd_all hB (Nat.le_refl 9) hp).2.2.2.2 a b ha hb, Int.le_trans (Tm_le hB (Nat.le_refl 9) hp ha hb) (p8b 9 (by decide))⟩
theorem bd_cof (hr : rgM now) (ht : nR (gNow now) 9 = 511) {a b : Nat} (ha : a < 9) (hb : b < 9) : bd 1342177280 (Int64.ofInt (cof 9 (AM now) a b)) := by
  have := cof_B hr ht ha hb
  exact ⟨_, rfl, by omega, this.2⟩
theorem bd_rt (hr : rgM now) {c : Nat} (hc : c < 9) : bd 9000 (rtR now c 4) := by
  have h : ∀ s : Nat, s ≤ 4 → bd (1000 + 2000 * (s : Int)) (rtR now c s) := by
    intro s
    induction s with
    | zero =>
      intro _
      have h3 := hr.2 (36 + c) (by omega) (by omega)
      have h4 := hr.2 (45 + c) (by omega) (by omega)
      refine bd_i32 ?_ ?_
      · rw [Int32.toInt_sub, Int.bmod_eq_of_le (by omega) (by omega)]; simp; omega
      · rw [Int32.toInt_sub, Int.bmod_eq_of_le (by omega) (by omega)]; simp; omega
    | succ s ih =>
      intro hs
      rw [rtR]
      by_cases h : ot c s < 9
      · rw [if_pos h]; exact bd_mono (ih (by omega)) (by omega)
      · rw [if_neg h]
        have h1 := hr.1 _ (lk_lt hc (show s < 4 by omega))
        have h2 := ot_lt hc (show s < 4 by omega)
        have h3 := hr.2 (24 + ot c s - 9) (by omega) (by omega)
        have h4 : 0 ≤ (now (lk c s)).toInt * (now (24 + ot c s - 9)).toInt := Int.mul_nonneg h1.1 h3.1
        have h5 : (now (lk c s)).toInt * (now (24 + ot c s - 9)).toInt ≤ 2 * 1000 := im_mono h1.2 h3.2 (by decide) h3.1
        refine bd_mono (bd_add (ih (by omega)) (bd_i32 (B := 2000) ?_ ?_)) (by omega)
        · rw [Int32.toInt_mul, Int.bmod_eq_of_le (by omega) (by omega)]; omega
        · rw [Int32.toInt_mul, Int.bmod_eq_of_le (by omega) (by omega)]; omega
  exact bd_mono (h 4 (by omega)) (by decide)
theorem bd_hd9 (hr : rgM now) (ht : nR (gNow now) 9 = 511) {a : Nat} (ha : a < 9) : bd 108716359680000 ((cn now).2.2.1 9 a) := by
  rw [cn_9]
  exact bd_mono (bd_smL (fun b hb => bd_mul (bd_cof hr ht ha hb) (bd_rt hr hb))) (by decide)
theorem bd_det (hr : rgM now) (ht : nR (gNow now) 9 = 511) : bd 134217728 (cn now).2.2.2.2.2.1 := by
  have := tight_det hr ht
  exact ⟨_, rfl, by omega, this.2⟩
theorem bd_1000 (hr : rgM now) {k : Nat} (h1 : 24 ≤ k) (h2 : k < 72) : bd 1000 (now k).toInt64 := by
  have := hr.2 k h1 h2
  exact bd_i32 (by omega) this.2
theorem bd_hdM (hr : rgM now) (ht : nR (gNow now) 9 = 511) {e : Nat} (he : e < 21) : bd 108716359680000 (hdM (cn now) e) := by
  unfold hdM
  by_cases h : e < 9
  · rw [if_pos h]; exact bd_hd9 hr ht h
  · rw [if_neg h]
    exact bd_mono (bd_mul (bd_1000 hr (by omega) (by omega)) (bd_det hr ht)) (by decide)
theorem flC_lt : ∀ k, k < 24 → flC k < 9 := by decide
theorem flS_lt : ∀ k, k < 24 → flS k < 4 := by decide
theorem bd_c (hr : rgM now) {k : Nat} (hk : k < 24) : bd 2 (now k).toInt64 := by
  have := hr.1 k hk
  exact bd_i32 (by omega) this.2
theorem bd_fl (hr : rgM now) (ht : nR (gNow now) 9 = 511) {k : Nat} (hk : k < 24) : bd 434865438720000 (flM (cn now) k) := by
  unfold flM
  have h1 := bd_hdM hr ht (ot_lt (flC_lt k hk) (flS_lt k hk))
  have h2 := bd_hdM hr ht (show flC k < 21 by have := flC_lt k hk; omega)
  refine bd_mono (bd_mul (bd_c hr hk) (B := 2) (C := 217432719360000) ?_) (by decide)
  split
  · exact bd_sub h1 h2
  · exact bd_sub h2 h1
theorem bd_if (hr : rgM now) (ht : nR (gNow now) 9 = 511) {d : Nat} (hd : d < 4) : bd 1304596316160000 (ifM (cn now) d) := by
  unfold ifM
  refine bd_mono (bd_smL (B := 434865438720000) (fun k hk => ?_)) (by decide)
  have hc := ifC_lt hd hk
  exact bd_mono (bd_mul (bd_c hr (lk_lt hc hd)) (bd_sub (bd_hdM hr ht (ot_lt hc hd)) (bd_hd9 hr ht hc))) (by decide)
theorem bd_dd (hr : rgM now) (ht : nR (gNow now) 9 = 511) {q : Nat} (hq : q < 9) : bd 12079595520000 (ddM (cn now) q) := by
  unfold ddM
  refine bd_mono (bd_smL (B := 1342177280000) (fun j hj => ?_)) (by decide)
  rw [cn_8 now hj]
  exact bd_mono (bd_mul (bd_cof hr ht hq hj) (bd_1000 hr (by omega) (by omega))) (by decide)
theorem bd_ab (hr : rgM now) (ht : nR (gNow now) 9 = 511) (S : Nat) {i : Nat} (hi : i < 9) : bd 130000000000000 (abU (cn now) S i) := by
  have h : ∀ j : Nat, j ≤ 9 → bd (108716359680000 + 134217728000 + 1342177280000 * (j : Int)) (abF ((cn now).2.2.1 9) ((cn now).2.2.1 8) (cn now).2.2.2.2.2.1 now S i j) := by
    intro j
    induction j with
    | zero =>
      intro _
      exact bd_mono (bd_sub (bd_hd9 hr ht hi) (bd_mul (bd_1000 hr (by omega) (by omega)) (bd_det hr ht))) (by decide)
    | succ j ih =>
      intro hj
      rw [abF]
      split
      · rw [cn_8 now (show j < 9 by omega)]
        exact bd_mono (bd_add (ih (by omega)) (bd_mul (bd_cof hr ht hi (show j < 9 by omega)) (bd_1000 hr (by omega) (by omega)))) (by omega)
      · exact bd_mono (ih (by omega)) (by omega)
  exact bd_mono (h 9 (Nat.le_refl 9)) (by decide)
/-- what is asked of the numbers holds by the ranges of the settings -/
theorem GM_rg (hr : rgM now) : GM now := by
  intro ht
  have hd := tight_det hr ht
  refine ⟨fun i hi j hj => cof_symm (AM_sym now) (tight_pv9 hr ht) hi hj, ⟨hd.1, by omega⟩, fun a ha => bd_ne (bd_hd9 hr ht ha) (by decide), fun k hk => bd_ne (bd_fl hr ht hk) (by decide), fun d hd => bd_ne (bd_if hr ht hd) (by decide), fun a ha b hb => ?_, fun a ha => bd_ne (bd_dd hr ht ha) (by decide)⟩
  rw [cn_8 now hb]; exact bd_ne (bd_cof hr ht ha hb) (by decide)
end VAL

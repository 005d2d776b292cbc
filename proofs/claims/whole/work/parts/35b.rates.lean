/-! rates: the reference's search and the class's -/
theorem i64_le {x y : Int64} : x ≤ y ↔ x.toInt ≤ y.toInt := Int64.le_iff_toInt_le
theorem i64_lt {x y : Int64} : x < y ↔ x.toInt < y.toInt := Int64.lt_iff_toInt_lt
theorem i64_z0 : (0 : Int64).toInt = 0 := by decide
theorem rf_eq {ab adj : Nat → Int64} {a b : Nat} {t : Int64} : ∀ (n i : Nat), isF (fun i => ab i - adj (9 * i + a) * t) i = true → rfM ab adj a b t n i (gmF (fun i => ab i - adj (9 * i + a) * t) (fun i => adj (9 * i + b)) i) = if isF (fun i => ab i - adj (9 * i + a) * t) (i + n) = true then gmF (fun i => ab i - adj (9 * i + a) * t) (fun i => adj (9 * i + b)) (i + n) else -1
  | 0, i, h => by rw [rfM, Nat.add_zero, if_pos h]
  | n + 1, i, h => by
    rw [rfM]
    by_cases hl : ab i - adj (9 * i + a) * t < 0
    · rw [if_pos hl, isF_ng (i := i) (by omega) (by rw [Int64.not_le]; exact hl), if_neg (by decide)]
    · rw [if_neg hl]
      have h2 : isF (fun i => ab i - adj (9 * i + a) * t) (i + 1) = true := by
        rw [isF, h, Bool.true_and, decide_eq_true_eq]
        exact Int64.not_lt.mp hl
      have h3 := rf_eq (ab := ab) (adj := adj) (a := a) (b := b) (t := t) n (i + 1) h2
      rw [show i + (n + 1) = i + 1 + n by omega, ← h3]
      rfl
theorem div_B {x y : Int64} (hx : 0 ≤ x.toInt) (hy : 0 < y.toInt) : 0 ≤ (x / y).toInt := by
  have h1 := x.toInt_lt
  rw [Int64.toInt_div]
  have h2 : 0 ≤ x.toInt.tdiv y.toInt := Int.tdiv_nonneg hx (Int.le_of_lt hy)
  have h3 : x.toInt.tdiv y.toInt ≤ x.toInt := by
    rw [Int.tdiv_eq_ediv_of_nonneg hx]
    exact Int.ediv_le_self _ hx
  rw [Int.bmod_eq_of_le (by omega) (by omega)]
  exact h2
theorem gm_B {L cs : Nat → Int64} : ∀ n, isF L n = true → 0 ≤ (gmF L cs n).toInt ∧ (gmF L cs n).toInt ≤ 1000
  | 0, _ => by rw [gmF]; decide
  | n + 1, h => by
    rw [isF, Bool.and_eq_true, decide_eq_true_eq] at h
    have ih := gm_B (cs := cs) n h.1
    rw [gmF]
    split
    · rename_i q
      have h1 := i64_lt.mp q.1
      have h2 := i64_lt.mp q.2
      have h3 := i64_le.mp h.2
      rw [i64_z0] at h1 h3
      exact ⟨div_B h3 h1, by omega⟩
    · exact ih
theorem isF_ex {ab : Nat → Int64} : ∀ {n : Nat}, isF ab n = false → ∃ i, i < n ∧ ¬ 0 ≤ ab i
  | 0, h => by cases h
  | n + 1, h => by
    rw [isF, Bool.and_eq_false_iff] at h
    rcases h with h | h
    · obtain ⟨i, hi, q⟩ := isF_ex h
      exact ⟨i, by omega, q⟩
    · exact ⟨n, by omega, by simpa using h⟩
theorem nI_L {t : Nat} (h : t < 2 ^ 31) : (nI t).toInt64 = Int64.ofInt t := by rw [ofI_32, nI_toInt h]
/-- what is left above the limits when the rate of a is t -/
def LT (now : Nat → Int32) (S a t i : Nat) : Int64 := abU (cn now) S i - (cn now).2.2.1 8 (9 * i + a) * (nI t).toInt64
section RT
variable {now : Nat → Int32} {S a : Nat}
theorem LT_0 (i : Nat) : LT now S a 0 i = abU (cn now) S i := by
  unfold LT
  rw [show (nI 0).toInt64 = 0 by decide, Int64.mul_zero, Int64.sub_zero]
theorem LT_T (hr : rgM now) (ht : nR (gNow now) 9 = 511) (ha : a < 9) {i : Nat} (hi : i < 9) : ∃ z c : Int, 0 ≤ c ∧ ∀ t : Nat, t ≤ 1001 → LT now S a t i = Int64.ofInt (z - c * t) ∧ (LT now S a t i).toInt = z - c * t := by
  obtain ⟨z, e, h1, h2⟩ := bd_ab hr ht S hi
  have hc := cof_B hr ht hi ha
  refine ⟨z, cof 9 (AM now) i a, hc.1, fun t htt => ?_⟩
  have hm : cof 9 (AM now) i a * (t : Int) ≤ 1342177280 * 1001 := im_mono hc.2 (by omega) (by decide) (by omega)
  have hm0 : 0 ≤ cof 9 (AM now) i a * (t : Int) := im_pp hc.1 (by omega)
  have e2 : LT now S a t i = Int64.ofInt (z - cof 9 (AM now) i a * t) := by
    unfold LT
    rw [e, cn_8 now ha, nI_L (by omega), Int64.ofInt_sub, Int64.ofInt_mul]
  exact ⟨e2, by rw [e2, ofI_T (by omega) (by omega)]⟩
theorem LT_next (hr : rgM now) (ht : nR (gNow now) 9 = 511) (ha : a < 9) {i : Nat} (hi : i < 9) {t : Nat} (htt : t < 1001) : LT now S a t i - (cn now).2.2.1 8 (9 * i + a) = LT now S a (t + 1) i := by
  obtain ⟨z, e, -, -⟩ := bd_ab hr ht S hi
  unfold LT
  rw [e, cn_8 now ha, nI_L (by omega), nI_L (by omega), ← Int64.ofInt_mul, ← Int64.ofInt_mul, ← Int64.ofInt_sub, ← Int64.ofInt_sub, ← Int64.ofInt_sub]
  congr 1
  rw [show ((t + 1 : Nat) : Int) = (t : Int) + 1 by omega, Int.mul_add, Int.mul_one]
  omega
theorem LT_stop (hr : rgM now) (ht : nR (gNow now) 9 = 511) (ha : a < 9) {t t2 : Nat} (h : isF (LT now S a t) 9 = false) (h1 : t ≤ t2) (h2 : t2 ≤ 1000) : isF (LT now S a t2) 9 = false := by
  obtain ⟨i, hi, q⟩ := isF_ex h
  refine isF_ng hi ?_
  obtain ⟨z, c, hc, hz⟩ := LT_T (S := S) hr ht ha hi
  have e1 := (hz t (by omega)).2
  have e2 := (hz t2 (by omega)).2
  rw [i64_le, i64_z0] at q ⊢
  have hm : c * (t : Int) ≤ c * (t2 : Int) := Int.mul_le_mul_of_nonneg_left (by omega) hc
  omega
theorem by_one {adj : Nat → Int64} {b i : Nat} : ∀ n, byF adj (2 ^ b) i n = if b < n then adj (9 * i + b) else 0
  | 0 => by rw [byF, if_neg (Nat.not_lt_zero b)]
  | n + 1 => by
    rw [byF, by_one n, Nat.testBit_two_pow]
    by_cases e : b = n
    · subst e
      rw [if_pos (by simp), if_neg (Nat.lt_irrefl b), if_pos (Nat.lt_succ_self b), Int64.zero_add]
    · rw [if_neg (by simpa using e)]
      by_cases h : b < n
      · rw [if_pos h, if_pos (by omega)]
      · rw [if_neg h, if_neg (by omega)]
def rfV (now : Nat → Int32) (S a b t : Nat) : Int64 := rfM (abU (cn now) S) ((cn now).2.2.1 8) a b (nI t).toInt64 9 0 1000
def own8 (now : Nat → Int32) (b i : Nat) : Int64 := (cn now).2.2.1 8 (9 * i + b)
theorem rfV_eq {b t : Nat} : rfV now S a b t = if isF (LT now S a t) 9 = true then gmF (LT now S a t) (own8 now b) 9 else -1 := by
  have h := rf_eq (ab := abU (cn now) S) (adj := (cn now).2.2.1 8) (a := a) (b := b) (t := (nI t).toInt64) 9 0 rfl
  exact h
theorem gp_rf {b t : Nat} : gpF (LT now S a t) (own8 now b) = (rfV now S a b t).toInt32 := by
  rw [rfV_eq]
  unfold gpF
  split
  · rfl
  · decide
theorem rf_neg {b t : Nat} (h : isF (LT now S a t) 9 = false) : ¬ 0 ≤ rfV now S a b t := by
  rw [rfV_eq, if_neg (by rw [h]; decide)]; decide
theorem rf_pos {b t : Nat} (h : isF (LT now S a t) 9 = true) : 0 ≤ (rfV now S a b t).toInt ∧ (rfV now S a b t).toInt ≤ 1000 := by
  rw [rfV_eq, if_pos h]
  exact gm_B 9 h
end RT
theorem bo_stop {rf : Nat → Int64} {t0 : Nat} : ∀ {n : Nat}, t0 ≤ n → (∀ t, t0 ≤ t → t < n → ¬ 0 ≤ rf t) → boF rf n = boF rf t0
  | 0, h, _ => by rw [show t0 = 0 by omega]
  | n + 1, h, q => by
    by_cases e : t0 = n + 1
    · rw [e]
    · rw [boF, if_neg (fun z => q n (by omega) (by omega) z.1)]
      exact bo_stop (by omega) (fun t h1 h2 => q t h1 (by omega))
theorem bo_B {rf : Nat → Int64} : ∀ n : Nat, n ≤ 1001 → (∀ t, t < n → (rf t).toInt ≤ 1000) → -1 ≤ (boF rf n).1.toInt ∧ (boF rf n).1.toInt ≤ 2001
  | 0, _, _ => by rw [boF]; decide
  | n + 1, hn, h => by
    have ih := bo_B n (by omega) (fun t ht => h t (by omega))
    rw [boF]
    split
    · rename_i q
      have h1 := h n (by omega)
      have h0 := i64_le.mp q.1
      rw [i64_z0] at h0
      show -1 ≤ ((nI n).toInt64 + rf n).toInt ∧ ((nI n).toInt64 + rf n).toInt ≤ 2001
      rw [Int64.toInt_add, Int32.toInt_toInt64, nI_toInt (by omega), Int.bmod_eq_of_le (by omega) (by omega)]
      omega
    · exact ih
theorem i32_le' {x y : Int32} : x ≤ y ↔ x.toInt ≤ y.toInt := Int32.le_iff_toInt_le
theorem bo_step {rf : Nat → Int64} {t : Nat} {x r6 : Int32} (ht : t ≤ 1000) (h0 : 0 ≤ (rf t).toInt ∧ (rf t).toInt ≤ 1000) (hx : x.toInt = (boF rf t).1.toInt) (e : r6 = (rf t).toInt32) :
    (nI t + r6 ≤ x → boF rf (t + 1) = boF rf t) ∧ (¬ nI t + r6 ≤ x → boF rf (t + 1) = ((nI t).toInt64 + rf t, nI (10000 * t) + r6) ∧ (nI t + r6).toInt = ((nI t).toInt64 + rf t).toInt) := by
  have e1 : r6.toInt = (rf t).toInt := by rw [e]; exact FP.Core.int64_toInt32 (by omega) (by omega)
  have e2 : (nI t + r6).toInt = t + (rf t).toInt := by
    rw [Int32.toInt_add, nI_toInt (by omega), e1, Int.bmod_eq_of_le (by omega) (by omega)]
  have e3 : ((nI t).toInt64 + rf t).toInt = t + (rf t).toInt := by
    rw [Int64.toInt_add, Int32.toInt_toInt64, nI_toInt (by omega), Int.bmod_eq_of_le (by omega) (by omega)]
  rw [i32_le', e2, hx]
  refine ⟨fun h => ?_, fun h => ⟨?_, e3.symm⟩⟩
  · rw [boF, if_neg (fun z => ?_)]
    have h2 := i64_lt.mp z.2
    rw [e3] at h2
    omega
  · rw [boF, if_pos ⟨by rw [i64_le, i64_z0]; exact h0.1, by rw [i64_lt, e3]; omega⟩, e]
theorem rf_m1 {now : Nat → Int32} {S a b t : Nat} {r6 : Int32} (e : r6 = (rfV now S a b t).toInt32) : r6 = -1 ↔ isF (LT now S a t) 9 = false := by
  constructor
  · intro h
    cases q : isF (LT now S a t) 9
    · rfl
    · have h1 := rf_pos (b := b) q
      have h2 : r6.toInt = (rfV now S a b t).toInt := by rw [e]; exact FP.Core.int64_toInt32 (by omega) (by omega)
      rw [h, show (-1 : Int32).toInt = -1 by decide] at h2
      omega
  · intro h
    rw [e, rfV_eq, if_neg (by rw [h]; decide)]; decide
theorem bit_b {S k : Nat} (hS : S < 512) (hk : k < 9) : (nI S >>> (nI k &&& 31) &&& nI 1) = bI (S.testBit k) := by
  rw [bit9 S hS k hk]; cases S.testBit k <;> rfl

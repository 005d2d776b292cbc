/-! signs and sizes of what stands in the rows -/
section EB
variable {n : Nat} {A : Nat → Nat → Int}
theorem im_pp {a b : Int} (ha : 0 ≤ a) (hb : 0 ≤ b) : 0 ≤ a * b := Int.mul_nonneg ha hb
theorem im_nn {a b : Int} (ha : a ≤ 0) (hb : b ≤ 0) : 0 ≤ a * b := by
  have := Int.mul_nonneg (a := -a) (b := -b) (by omega) (by omega)
  rw [Int.neg_mul_neg] at this
  exact this
theorem im_pn {a b : Int} (ha : 0 ≤ a) (hb : b ≤ 0) : a * b ≤ 0 := by
  have := Int.mul_nonneg (a := a) (b := -b) ha (by omega)
  rw [Int.mul_neg] at this
  omega
theorem im_np {a b : Int} (ha : a ≤ 0) (hb : 0 ≤ b) : a * b ≤ 0 := by rw [Int.mul_comm]; exact im_pn hb ha
theorem im_le {p x y : Int} (hp : 0 < p) (h : p * x ≤ p * y) : x ≤ y := Int.le_of_mul_le_mul_left h hp
theorem im_mono {a b c d : Int} (h1 : a ≤ b) (h2 : c ≤ d) (hb : 0 ≤ b) (hc : 0 ≤ c) : a * c ≤ b * d := Int.le_trans (Int.mul_le_mul_of_nonneg_right h1 hc) (Int.mul_le_mul_of_nonneg_left h2 hb)
theorem sm_nn {f : Nat → Int} : ∀ {n : Nat}, (∀ k, k < n → 0 ≤ f k) → 0 ≤ sm n f
  | 0, _ => Int.le_refl 0
  | n + 1, h => by
    rw [sm]
    have := sm_nn (n := n) (fun k hk => h k (by omega))
    have := h n (by omega)
    omega
/-- where all but one place are at most 0, none is below minus that one, if the sum isn't below 0 -/
theorem sm_dom {f : Nat → Int} {i j : Nat} (hi : i < n) (hj : j < n) (hij : j ≠ i) (h : ∀ k, k < n → k ≠ i → f k ≤ 0) (hs : 0 ≤ sm n f) : - f j ≤ f i := by
  have h1 : 0 ≤ sm n (fun k => (if k = i then f i else 0) + ((if k = j then f j else 0) - f k)) := sm_nn (fun k hk => by
    by_cases e : k = i
    · subst e
      rw [if_pos rfl, if_neg (fun q => hij q.symm)]; omega
    · rw [if_neg e]
      by_cases e2 : k = j
      · subst e2; rw [if_pos rfl]; omega
      · rw [if_neg e2]
        have := h k hk e
        omega)
  rw [sm_add, show (fun k => (if k = j then f j else 0) - f k) = (fun k => (if k = j then f j else 0) + - f k) from funext fun k => Int.sub_eq_add_neg, sm_add, sm_neg] at h1
  rw [sm_one hi (fun k _ e => if_neg e), if_pos rfl, sm_one hj (fun k _ e => if_neg e), if_pos rfl] at h1
  omega
def Gd (n : Nat) (A : Nat → Nat → Int) (k : Nat) : Prop :=
  0 < pv A k ∧ (∀ i j, i < n → j < n → j ≠ i → Lm n A k i j ≤ 0) ∧ (∀ i, i < n → 0 ≤ sm n (Lm n A k i)) ∧ (∀ i, i < n → Lm n A k i i ≤ 8 * pv A k) ∧ ∀ i m, i < n → m < n → 0 ≤ Tm A k i m
/-- the matrix of the balance equations: what is asked of it -/
def Bal (n : Nat) (A : Nat → Nat → Int) : Prop := (∀ i j, A i j = A j i) ∧ (∀ i j, i < n → j < n → j ≠ i → A i j ≤ 0) ∧ (∀ i, i < n → 0 ≤ sm n (fun j => A i j)) ∧ ∀ i, i < n → A i i ≤ 8
theorem Tm_0 (i m : Nat) : Tm A 0 i m = if i = m then 1 else 0 := by unfold Tm; rw [if_neg (by omega)]; rfl
theorem Lm_0 {i j : Nat} (hi : i < n) : Lm n A 0 i j = A i j := by
  unfold Lm
  rw [sm_one hi (fun m _ e => by rw [Tm_0, if_neg (fun q => e q.symm), Int.zero_mul]), Tm_0, if_pos rfl, Int.one_mul]
theorem Gd_0 (h : Bal n A) : Gd n A 0 := by
  refine ⟨by rw [pv_0]; decide, fun i j hi hj e => by rw [Lm_0 hi]; exact h.2.1 i j hi hj e, fun i hi => ?_, fun i hi => by rw [Lm_0 hi, pv_0]; exact h.2.2.2 i hi, fun i m _ _ => by rw [Tm_0]; split <;> decide⟩
  rw [sm_congr (fun j _ => Lm_0 hi)]
  exact h.2.2.1 i hi
theorem Gd_dia {k i : Nat} (h : Gd n A k) (hi : i < n) : 0 ≤ Lm n A k i i := by
  have hs := h.2.2.1 i hi
  have h1 : 0 ≤ sm n (fun j => (if j = i then Lm n A k i i else 0) + - Lm n A k i j) := sm_nn (fun j hj => by
    by_cases e : j = i
    · subst e; rw [if_pos rfl]; omega
    · rw [if_neg e]
      have := h.2.1 i j hi hj e
      omega)
  rw [sm_add, sm_neg, sm_one hi (fun j _ e => if_neg e), if_pos rfl] at h1
  omega
theorem Gd_off {k i j : Nat} (h : Gd n A k) (hi : i < n) (hj : j < n) (e : j ≠ i) : - Lm n A k i j ≤ Lm n A k i i :=
  sm_dom (f := fun j => Lm n A k i j) hi hj e (fun q hq ne => h.2.1 i q hi hq ne) (h.2.2.1 i hi)
theorem Gd_piv (hB : Bal n A) {k : Nat} (h : Gd n A k) (hk : k < n) : 0 ≤ pv A (k + 1) ∧ pv A (k + 1) ≤ 8 * pv A k := by
  rw [← Lm_piv hB.1 hk (by have := h.1; omega)]
  exact ⟨Gd_dia h hk, h.2.2.2.1 k hk⟩
theorem Gd_succ (hB : Bal n A) {k : Nat} (h : Gd n A k) (hk : k < n) (hp : pv A (k + 1) ≠ 0) : Gd n A (k + 1) := by
  have h0 := h.1
  have hp0 : pv A k ≠ 0 := by omega
  have hq := (Gd_piv hB h hk).1
  have hq1 : 0 < pv A (k + 1) := by omega
  refine ⟨hq1, fun i j hi hj e => ?_, fun i hi => ?_, fun i hi => ?_, fun i m hi hm => ?_⟩
  · by_cases hik : i = k
    · subst hik
      rw [Lm_row hB.1 hk hp0 hp]
      exact h.2.1 i j hi hj e
    · by_cases hjk : j = k
      · subst hjk
        rw [Lm_diag hB.1 (by omega) hi (by omega), if_neg hik]
        exact Int.le_refl 0
      · refine im_le h0 ?_
        rw [Lm_step hB.1 hk hi hik hp0 hp, Int.mul_zero]
        have h1 := im_pn (Int.le_of_lt hq1) (h.2.1 i j hi hj e)
        have h2 := im_nn (h.2.1 i k hi hk (fun q => hik q.symm)) (h.2.1 k j hk hj hjk)
        omega
  · by_cases hik : i = k
    · subst hik
      rw [sm_congr (fun j _ => Lm_row hB.1 hk hp0 hp)]
      exact h.2.2.1 i hi
    · refine im_le h0 ?_
      rw [Int.mul_zero, ← sm_mul, sm_congr (g := fun j => pv A (k + 1) * Lm n A k i j + - (Lm n A k i k * Lm n A k k j)) (fun j _ => by rw [Lm_step hB.1 hk hi hik hp0 hp]; omega), sm_add, sm_neg, sm_mul, sm_mul]
      have h1 := im_pp (Int.le_of_lt hq1) (h.2.2.1 i hi)
      have h2 := im_np (h.2.1 i k hi hk (fun q => hik q.symm)) (h.2.2.1 k hk)
      omega
  · by_cases hik : i = k
    · subst hik
      rw [Lm_diag hB.1 (by omega) hi (by omega), if_pos rfl]
      omega
    · refine im_le h0 ?_
      rw [Lm_step hB.1 hk hi hik hp0 hp]
      have h1 := Int.mul_le_mul_of_nonneg_left (h.2.2.2.1 i hi) (Int.le_of_lt hq1)
      have h2 := im_nn (h.2.1 i k hi hk (fun q => hik q.symm)) (h.2.1 k i hk hi hik)
      have h3 : pv A k * (8 * pv A (k + 1)) = pv A (k + 1) * (8 * pv A k) := by rw [Int.mul_left_comm, Int.mul_left_comm (pv A (k + 1)), Int.mul_comm (pv A k)]
      omega
  · by_cases hik : i = k
    · subst hik
      rw [Tm_row hB.1 hk hp0 hp]
      exact h.2.2.2.2 i m hi hm
    · refine im_le h0 ?_
      rw [Tm_step hB.1 hk hi hm hik hp0 hp, Int.mul_zero]
      have h1 := im_pp (Int.le_of_lt hq1) (h.2.2.2.2 i m hi hm)
      have h2 := im_np (h.2.1 i k hi hk (fun q => hik q.symm)) (h.2.2.2.2 k m hk hm)
      omega
/-- the steps before went through -/
theorem Gd_all (hB : Bal n A) : ∀ {k : Nat}, k ≤ n → (∀ j, j < k → pv A (j + 1) ≠ 0) → Gd n A k
  | 0, _, _ => Gd_0 hB
  | k + 1, hk, h => Gd_succ hB (Gd_all hB (by omega) (fun j hj => h j (by omega))) (by omega) (h k (by omega))
theorem pv_le (hB : Bal n A) : ∀ {k : Nat}, k ≤ n → (∀ j, j < k → pv A (j + 1) ≠ 0) → pv A k ≤ 8 ^ k
  | 0, _, _ => by rw [pv_0]; decide
  | k + 1, hk, h => by
    have h1 := pv_le hB (by omega : k ≤ n) (fun j hj => h j (by omega))
    have h2 := (Gd_piv hB (Gd_all hB (by omega : k ≤ n) (fun j hj => h j (by omega))) (by omega)).2
    rw [Int.pow_succ]
    omega
/-- below the rows done, the right half is at most the pivot -/
theorem Tm_low (hB : Bal n A) {k i m : Nat} (h : Gd n A k) (hi : i < n) (hk : k ≤ i) (hm : m < n) : Tm A k i m ≤ pv A k := by
  have h0 := h.1
  by_cases hmk : m < k
  · have e : Tm A k i m = - Lm n A k m i := by
      unfold Lm
      rw [sm_cut' (by omega : k ≤ n) (fun q h1 _ => by rw [show Tm A k m q = 0 by unfold Tm; rw [if_neg (by omega), if_neg (by omega)], Int.zero_mul])]
      rw [show Tm A k i m = - sm k (fun q => A i q * cof k A q m) by unfold Tm; rw [if_pos hmk, if_neg (by omega)]]
      congr 1
      refine sm_congr (fun q hq => ?_)
      rw [show Tm A k m q = cof k A m q by unfold Tm; rw [if_pos hq, if_pos hmk], cof_symm hB.1 (by omega) hmk hq, hB.1 q i, Int.mul_comm]
    rw [e]
    have h1 := Gd_off h (by omega : m < n) hi (by omega : i ≠ m)
    rw [Lm_diag hB.1 (by omega) (by omega) hmk, if_pos rfl] at h1
    exact h1
  · unfold Tm
    rw [if_neg hmk]
    split
    · exact Int.le_refl _
    · omega
theorem Tm_le (hB : Bal n A) : ∀ {k : Nat}, k ≤ n → (∀ j, j < k → pv A (j + 1) ≠ 0) → ∀ {i m : Nat}, i < n → m < n → Tm A k i m ≤ (k + 1) * 8 ^ k
  | 0, _, _, i, m, _, _ => by rw [Tm_0]; split <;> decide
  | k + 1, hk, h, i, m, hi, hm => by
    have hG := Gd_all hB (by omega : k ≤ n) (fun j hj => h j (by omega))
    have hG1 := Gd_all hB hk h
    have hp := pv_le hB (by omega : k ≤ n) (fun j hj => h j (by omega))
    have hp1 := pv_le hB hk h
    have h8 : (0 : Int) ≤ 8 ^ k := Int.le_trans (Int.le_of_lt hG.1) hp
    have e8 : ((k + 1 : Nat) + 1 : Int) * 8 ^ (k + 1) = 8 * ((k + 1 : Int) * 8 ^ k) + 8 * 8 ^ k := by
      have h9 : (k : Int) * (8 * 8 ^ k) = 8 * ((k : Int) * 8 ^ k) := Int.mul_left_comm _ _ _
      rw [Int.pow_succ, Int.natCast_add]
      simp only [Int.add_mul, Int.mul_comm, Int.mul_left_comm, Int.natCast_one, Int.one_mul, Int.mul_one]
      omega
    rw [e8]
    have hnn : (0 : Int) ≤ (k + 1 : Int) * 8 ^ k := Int.mul_nonneg (by omega) h8
    rw [Int.pow_succ] at hp1
    by_cases hik : i < k + 1
    · by_cases e : i = k
      · subst e
        rw [Tm_row hB.1 (by omega) (by have := hG.1; omega) (h i (by omega))]
        have := Tm_low hB hG hi (Nat.le_refl i) hm
        omega
      · have ih := Tm_le hB (by omega : k ≤ n) (fun j hj => h j (by omega)) hi hm
        refine im_le hG.1 ?_
        rw [Tm_step hB.1 (by omega) hi hm e (by have := hG.1; omega) (h k (by omega))]
        have a1 := im_mono (Gd_piv hB hG (by omega)).2 ih (by have := hG.1; omega) (hG.2.2.2.2 i m hi hm)
        have a2 := Gd_off hG hi (by omega : k < n) (fun q => e q.symm)
        rw [Lm_diag hB.1 (by omega) hi (by omega : i < k), if_pos rfl] at a2
        have a3 := im_mono a2 (Tm_low hB hG (by omega : k < n) (Nat.le_refl k) hm) (Int.le_of_lt hG.1) (hG.2.2.2.2 k m (by omega) hm)
        rw [Int.neg_mul] at a3
        have a4 := Int.mul_le_mul_of_nonneg_left hp (Int.le_of_lt hG.1)
        have a5 : pv A k * (8 * ((k + 1 : Int) * 8 ^ k) + 8 * 8 ^ k) = 8 * pv A k * ((k + 1 : Int) * 8 ^ k) + 8 * (pv A k * 8 ^ k) := by
          rw [Int.mul_add, Int.mul_left_comm (pv A k) 8, Int.mul_left_comm (pv A k) 8, Int.mul_assoc 8]
        have a6 : 0 ≤ pv A k * 8 ^ k := Int.mul_nonneg (Int.le_of_lt hG.1) h8
        rw [a5]
        omega
    · have := Tm_low hB hG1 hi (by omega) hm
      omega
end EB

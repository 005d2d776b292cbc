/-! elimination in whole numbers: what stands in the rows behind k steps (n cells, A the symmetric matrix) -/
section EL
variable {n : Nat} {A : Nat → Nat → Int}
/-- the leading determinant; the right half of the rows behind k steps; their left half -/
def pv (A : Nat → Nat → Int) (k : Nat) : Int := det k A
def Tm (A : Nat → Nat → Int) (k i m : Nat) : Int := if m < k then (if i < k then cof k A i m else - sm k (fun q => A i q * cof k A q m)) else (if i = m then pv A k else 0)
def Lm (n : Nat) (A : Nat → Nat → Int) (k i j : Nat) : Int := sm n (fun m => Tm A k i m * A m j)
theorem pv_0 : pv A 0 = 1 := rfl
theorem cof_mul (hA : ∀ i j, A i j = A j i) {k i j : Nat} (hi : i < k) (hj : j < k) : sm k (fun m => cof k A i m * A m j) = if i = j then pv A k else 0 := by
  rw [show (if i = j then pv A k else 0) = (if j = i then det k A else 0) by by_cases h : i = j <;> simp [h, pv, eq_comm], ← det_adj A hj hi]
  exact sm_congr (fun m _ => by rw [hA m j, Int.mul_comm])
theorem cof_symm (hA : ∀ i j, A i j = A j i) {k i j : Nat} (hp : pv A k ≠ 0) (hi : i < k) (hj : j < k) : cof k A i j = cof k A j i := by
  have h1 : sm k (fun m => sm k (fun q => cof k A i m * A m q * cof k A j q)) = cof k A i j * pv A k := by
    rw [sm_congr (g := fun m => cof k A i m * (if m = j then det k A else 0)) (fun m hm => by
      rw [← det_adj A hm hj, ← sm_mul]
      exact sm_congr (fun q _ => Int.mul_assoc _ _ _))]
    rw [sm_one hj (fun m _ hne => by rw [if_neg hne, Int.mul_zero]), if_pos rfl]
    rfl
  have h2 : sm k (fun m => sm k (fun q => cof k A i m * A m q * cof k A j q)) = pv A k * cof k A j i := by
    rw [sm_swap, sm_congr (g := fun q => (if i = q then pv A k else 0) * cof k A j q) (fun q hq => by
      rw [← cof_mul hA hi hq, ← sm_mulr])]
    rw [sm_one hi (fun q _ hne => by rw [if_neg (fun e => hne e.symm), Int.zero_mul]), if_pos rfl]
  have h3 : pv A k * (cof k A i j - cof k A j i) = 0 := by rw [Int.mul_sub, ← h2, h1, Int.mul_comm]; omega
  rcases Int.mul_eq_zero.mp h3 with h | h
  · exact absurd h hp
  · omega
/-- what is taken to 0 by all columns is 0 -/
theorem row_zero {k : Nat} {Y : Nat → Int} (h : ∀ j, j < k → sm k (fun m => Y m * A m j) = 0) (hp : pv A k ≠ 0) {q : Nat} (hq : q < k) : Y q = 0 := by
  have h1 : sm k (fun j => sm k (fun m => Y m * A m j) * cof k A q j) = 0 := sm_0 (fun j hj => by rw [h j hj, Int.zero_mul])
  have h2 : sm k (fun j => sm k (fun m => Y m * A m j) * cof k A q j) = Y q * pv A k := by
    rw [sm_congr (g := fun j => sm k (fun m => Y m * A m j * cof k A q j)) (fun j _ => (sm_mulr _ _ k).symm), sm_swap]
    rw [sm_congr (g := fun m => Y m * (if m = q then det k A else 0)) (fun m hm => by
      rw [← det_adj A hm hq, ← sm_mul]
      exact sm_congr (fun j _ => Int.mul_assoc _ _ _))]
    rw [sm_one hq (fun m _ hne => by rw [if_neg hne, Int.mul_zero]), if_pos rfl]
    rfl
  rw [h1] at h2
  rcases Int.mul_eq_zero.mp h2.symm with h | h
  · exact h
  · exact absurd h hp
/-- a long sum whose later places are 0 -/
theorem sm_cut {f : Nat → Int} {k : Nat} : ∀ d : Nat, (∀ m, k ≤ m → m < k + d → f m = 0) → sm (k + d) f = sm k f
  | 0, _ => rfl
  | d + 1, h => by
    rw [← Nat.add_assoc, sm, sm_cut d (fun m h1 h2 => h m h1 (by omega)), h (k + d) (by omega) (by omega)]
    omega
theorem sm_cut' {f : Nat → Int} {k : Nat} (hk : k ≤ n) (h : ∀ m, k ≤ m → m < n → f m = 0) : sm n f = sm k f := by
  have := sm_cut (f := f) (k := k) (n - k) (fun m h1 h2 => h m h1 (by omega))
  rw [show k + (n - k) = n by omega] at this
  exact this
theorem sm_split {f : Nat → Int} {k : Nat} (hk : k ≤ n) : sm n f = sm k f + sm n (fun m => if m < k then 0 else f m) := by
  rw [show sm n f = sm n (fun m => (if m < k then f m else 0) + (if m < k then 0 else f m)) from sm_congr (fun m _ => by by_cases h : m < k <;> simp [h]), sm_add]
  congr 1
  rw [sm_cut' hk (fun m h1 _ => if_neg (by omega))]
  exact sm_congr (fun m hm => if_pos hm)
theorem Lm_diag (hA : ∀ i j, A i j = A j i) {k i j : Nat} (hk : k ≤ n) (hi : i < n) (hj : j < k) : Lm n A k i j = if i = j then pv A k else 0 := by
  unfold Lm
  by_cases h : i < k
  · rw [sm_cut' hk (fun m h1 _ => by
      rw [show Tm A k i m = 0 by unfold Tm; rw [if_neg (by omega), if_neg (by omega)], Int.zero_mul])]
    rw [← cof_mul hA h hj]
    exact sm_congr (fun m hm => by rw [show Tm A k i m = cof k A i m by unfold Tm; rw [if_pos hm, if_pos h]])
  · rw [if_neg (by omega), sm_split hk]
    rw [sm_one (f := fun m => if m < k then 0 else Tm A k i m * A m j) (j := i) hi (fun m _ hne => by
      by_cases hm : m < k
      · rw [if_pos hm]
      · rw [if_neg hm, show Tm A k i m = 0 by unfold Tm; rw [if_neg hm, if_neg (fun e => hne e.symm)], Int.zero_mul])]
    rw [if_neg h, show Tm A k i i = pv A k by unfold Tm; rw [if_neg h, if_pos rfl]]
    rw [sm_congr (g := fun m => sm k (fun q => - (A i q * cof k A q m * A m j))) (fun m hm => by
      rw [show Tm A k i m = - sm k (fun q => A i q * cof k A q m) by unfold Tm; rw [if_pos hm, if_neg h], sm_neg, Int.neg_mul, ← sm_mulr])]
    rw [sm_swap, sm_congr (g := fun q => - (A i q * (if q = j then pv A k else 0))) (fun q hq => by
      rw [sm_neg, ← cof_mul hA hq hj, ← sm_mul]
      congr 1
      exact sm_congr (fun m _ => Int.mul_assoc _ _ _))]
    rw [sm_one hj (fun q _ hne => by rw [if_neg hne, Int.mul_zero]; rfl), if_pos rfl, Int.mul_comm]
    omega
/-- the determinant whose last row is the last unit row -/
theorem cof_last (k : Nat) : cof (k + 1) A k k = pv A k := by
  rw [cof_minor A (by omega) (by omega), show sg (k + k) = 1 by unfold sg; rw [if_pos (by omega)], Int.one_mul]
  refine congrFun (dW_congr (fun r hr c hc => ?_)) (fun _ => true)
  rw [show skp k r = r from if_pos hr, show skp k c = c from if_pos hc]
theorem Tm_last (hA : ∀ i j, A i j = A j i) {k q : Nat} (hk : k < n) (hq : q < k + 1) : Tm A k k q * pv A (k + 1) = Lm n A k k k * cof (k + 1) A q k := by
  have h1 : ∀ j, j < k + 1 → sm (k + 1) (fun m => Tm A k k m * A m j) = if j = k then Lm n A k k k else 0 := by
    intro j hj
    have e : sm (k + 1) (fun m => Tm A k k m * A m j) = Lm n A k k j := by
      unfold Lm
      exact (sm_cut' (by omega) (fun m h1 _ => by rw [show Tm A k k m = 0 by unfold Tm; rw [if_neg (by omega), if_neg (by omega)], Int.zero_mul])).symm
    rw [e]
    by_cases hjk : j = k
    · rw [if_pos hjk, hjk]
    · rw [if_neg hjk, Lm_diag hA (by omega) hk (by omega), if_neg (fun e => hjk e.symm)]
  have h2 : sm (k + 1) (fun j => sm (k + 1) (fun m => Tm A k k m * A m j) * cof (k + 1) A q j) = Tm A k k q * pv A (k + 1) := by
    rw [sm_congr (g := fun j => sm (k + 1) (fun m => Tm A k k m * A m j * cof (k + 1) A q j)) (fun j _ => (sm_mulr _ _ (k + 1)).symm), sm_swap]
    rw [sm_congr (g := fun m => Tm A k k m * (if m = q then det (k + 1) A else 0)) (fun m hm => by
      rw [← det_adj A hm hq, ← sm_mul]
      exact sm_congr (fun j _ => Int.mul_assoc _ _ _))]
    rw [sm_one hq (fun m _ hne => by rw [if_neg hne, Int.mul_zero]), if_pos rfl]
    rfl
  rw [← h2, sm_one (by omega : k < k + 1) (fun j hj hne => by rw [h1 j hj, if_neg hne, Int.zero_mul]), h1 k (by omega), if_pos rfl]
theorem Lm_piv (hA : ∀ i j, A i j = A j i) {k : Nat} (hk : k < n) (hp : pv A k ≠ 0) : Lm n A k k k = pv A (k + 1) := by
  have h := Tm_last (n := n) hA hk (by omega : k < k + 1)
  rw [cof_last, show Tm A k k k = pv A k by unfold Tm; rw [if_neg (by omega), if_pos rfl], Int.mul_comm] at h
  have h3 : (pv A (k + 1) - Lm n A k k k) * pv A k = 0 := by rw [Int.sub_mul, h]; omega
  rcases Int.mul_eq_zero.mp h3 with h | h
  · omega
  · exact absurd h hp
theorem Tm_row (hA : ∀ i j, A i j = A j i) {k m : Nat} (hk : k < n) (hp : pv A k ≠ 0) (hp1 : pv A (k + 1) ≠ 0) : Tm A (k + 1) k m = Tm A k k m := by
  by_cases h : m < k + 1
  · have h1 := Tm_last (n := n) hA hk h
    rw [Lm_piv hA hk hp] at h1
    have h3 : (Tm A k k m - cof (k + 1) A m k) * pv A (k + 1) = 0 := by rw [Int.sub_mul, h1, Int.mul_comm]; omega
    rcases Int.mul_eq_zero.mp h3 with h2 | h2
    · rw [show Tm A (k + 1) k m = cof (k + 1) A k m by unfold Tm; rw [if_pos h, if_pos (by omega)], cof_symm hA hp1 (by omega) h]
      omega
    · exact absurd h2 hp1
  · unfold Tm
    rw [if_neg h, if_neg (by omega), if_neg (by omega), if_neg (by omega)]
theorem sm_lin3 (a b c : Int) (f g h x : Nat → Int) (n : Nat) : sm n (fun m => (a * f m - (b * g m - c * h m)) * x m) = a * sm n (fun m => f m * x m) - (b * sm n (fun m => g m * x m) - c * sm n (fun m => h m * x m)) := by
  induction n with
  | zero => simp [sm]
  | succ n ih =>
    rw [sm, sm, sm, sm, ih]
    simp only [Int.sub_mul, Int.mul_add, Int.mul_assoc]
    omega
theorem Tm_step (hA : ∀ i j, A i j = A j i) {k i m : Nat} (hk : k < n) (hi : i < n) (hm : m < n) (hik : i ≠ k) (hp : pv A k ≠ 0) (hp1 : pv A (k + 1) ≠ 0) :
    pv A k * Tm A (k + 1) i m = pv A (k + 1) * Tm A k i m - Lm n A k i k * Tm A k k m := by
  have out : ∀ m, k + 1 ≤ m → pv A k * Tm A (k + 1) i m - (pv A (k + 1) * Tm A k i m - Lm n A k i k * Tm A k k m) = 0 := by
    intro m h
    rw [show Tm A (k + 1) i m = if i = m then pv A (k + 1) else 0 by unfold Tm; rw [if_neg (by omega)], show Tm A k i m = if i = m then pv A k else 0 by unfold Tm; rw [if_neg (by omega)], show Tm A k k m = 0 by unfold Tm; rw [if_neg (by omega), if_neg (by omega)]]
    by_cases e : i = m
    · rw [if_pos e, if_pos e, Int.mul_comm]; omega
    · rw [if_neg e, if_neg e]; simp
  by_cases h : m < k + 1
  · have hz := row_zero (A := A) (k := k + 1) (Y := fun m => pv A k * Tm A (k + 1) i m - (pv A (k + 1) * Tm A k i m - Lm n A k i k * Tm A k k m)) (fun j hj => by
      rw [← sm_cut' (n := n) (by omega) (fun m h1 _ => by rw [out m h1, Int.zero_mul]), sm_lin3]
      show pv A k * Lm n A (k + 1) i j - (pv A (k + 1) * Lm n A k i j - Lm n A k i k * Lm n A k k j) = 0
      rw [Lm_diag hA (by omega) hi hj]
      by_cases hjk : j = k
      · rw [hjk, if_neg hik, Lm_piv hA hk hp, Int.mul_comm (Lm n A k i k)]; omega
      · rw [Lm_diag hA (by omega) hi (by omega), Lm_diag hA (by omega) hk (by omega), if_neg (fun e => hjk e.symm : ¬ k = j)]
        by_cases e : i = j
        · rw [if_pos e, if_pos e, Int.mul_comm]; omega
        · rw [if_neg e, if_neg e]; simp) hp1 h
    have hz : pv A k * Tm A (k + 1) i m - (pv A (k + 1) * Tm A k i m - Lm n A k i k * Tm A k k m) = 0 := hz
    omega
  · have := out m (by omega)
    omega
theorem Lm_step (hA : ∀ i j, A i j = A j i) {k i j : Nat} (hk : k < n) (hi : i < n) (hik : i ≠ k) (hp : pv A k ≠ 0) (hp1 : pv A (k + 1) ≠ 0) :
    pv A k * Lm n A (k + 1) i j = pv A (k + 1) * Lm n A k i j - Lm n A k i k * Lm n A k k j := by
  have h : sm n (fun m => (pv A k * Tm A (k + 1) i m - (pv A (k + 1) * Tm A k i m - Lm n A k i k * Tm A k k m)) * A m j) = 0 := sm_0 (fun m hm => by rw [Tm_step hA hk hi hm hik hp hp1, Int.sub_self, Int.zero_mul])
  rw [sm_lin3] at h
  show pv A k * Lm n A (k + 1) i j = _
  have h : pv A k * Lm n A (k + 1) i j - (pv A (k + 1) * Lm n A k i j - Lm n A k i k * Lm n A k k j) = 0 := h
  omega
theorem Lm_row (hA : ∀ i j, A i j = A j i) {k j : Nat} (hk : k < n) (hp : pv A k ≠ 0) (hp1 : pv A (k + 1) ≠ 0) : Lm n A (k + 1) k j = Lm n A k k j :=
  sm_congr (fun m _ => by rw [Tm_row hA hk hp hp1])
end EL

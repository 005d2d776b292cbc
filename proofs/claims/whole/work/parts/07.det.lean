/-! finite sums and determinants over the whole numbers (rows wedged one behind another) -/
def sm : Nat → (Nat → Int) → Int
  | 0, _ => 0
  | n + 1, f => sm n f + f n
theorem sm_congr {f g : Nat → Int} : ∀ {n : Nat}, (∀ k, k < n → f k = g k) → sm n f = sm n g
  | 0, _ => rfl
  | n + 1, h => by rw [sm, sm, sm_congr (fun k hk => h k (Nat.lt_succ_of_lt hk)), h n (Nat.lt_succ_self n)]
theorem sm_add (f g : Nat → Int) : ∀ n : Nat, sm n (fun k => f k + g k) = sm n f + sm n g
  | 0 => rfl
  | n + 1 => by rw [sm, sm, sm, sm_add f g n]; omega
theorem sm_mul (a : Int) (f : Nat → Int) : ∀ n : Nat, sm n (fun k => a * f k) = a * sm n f
  | 0 => by simp [sm]
  | n + 1 => by rw [sm, sm, sm_mul a f n, Int.mul_add]
theorem sm_mulr (f : Nat → Int) (a : Int) : ∀ n : Nat, sm n (fun k => f k * a) = sm n f * a
  | 0 => by simp [sm]
  | n + 1 => by rw [sm, sm, sm_mulr f a n, Int.add_mul]
theorem sm_neg (f : Nat → Int) : ∀ n : Nat, sm n (fun k => - f k) = - sm n f
  | 0 => by simp [sm]
  | n + 1 => by rw [sm, sm, sm_neg f n]; omega
theorem sm_0 {f : Nat → Int} {n : Nat} (h : ∀ k, k < n → f k = 0) : sm n f = 0 := by
  rw [sm_congr (g := fun _ => 0) h]
  clear h
  induction n with
  | zero => rfl
  | succ n ih => rw [sm, ih]; rfl
theorem sm_swap (f : Nat → Nat → Int) (m : Nat) : ∀ n : Nat, sm n (fun i => sm m (fun j => f i j)) = sm m (fun j => sm n (fun i => f i j))
  | 0 => (sm_0 (fun _ _ => rfl)).symm
  | n + 1 => by rw [sm, sm_swap f m n, ← sm_add]; rfl
theorem sm_one {f : Nat → Int} {j : Nat} : ∀ {n : Nat}, j < n → (∀ k, k < n → k ≠ j → f k = 0) → sm n f = f j
  | 0, hj, _ => absurd hj (Nat.not_lt_zero j)
  | n + 1, hj, h => by
    rw [sm]
    by_cases e : j = n
    · subst e
      rw [sm_0 (fun k hk => h k (Nat.lt_succ_of_lt hk) (by omega))]
      omega
    · rw [sm_one (by omega : j < n) (fun k hk hne => h k (Nat.lt_succ_of_lt hk) hne), h n (Nat.lt_succ_self n) (by omega)]
      omega
/-- signs -/
def sg (m : Nat) : Int := if m % 2 = 0 then 1 else -1
theorem sg_succ (m : Nat) : sg (m + 1) = - sg m := by
  unfold sg
  by_cases h : m % 2 = 0
  · rw [if_pos h, if_neg (by omega)]
  · rw [if_neg h, if_pos (by omega)]; rfl
theorem sg_add (a b : Nat) : sg (a + b) = sg a * sg b := by
  induction b with
  | zero => simp [sg]
  | succ b ih => rw [← Nat.add_assoc, sg_succ, ih, sg_succ, Int.mul_neg]
theorem sg_sq (a : Nat) : sg a * sg a = 1 := by
  rw [← sg_add]; unfold sg; rw [if_pos (by omega)]
/-- a set of columns without one; how many lie below one -/
def era (S : Nat → Bool) (k : Nat) : Nat → Bool := fun j => S j && !decide (j = k)
def cb (S : Nat → Bool) : Nat → Nat
  | 0 => 0
  | k + 1 => cb S k + (if S k then 1 else 0)
theorem era_ne {S : Nat → Bool} {k j : Nat} (h : j ≠ k) : era S k j = S j := by simp [era, h]
theorem era_self (S : Nat → Bool) (k : Nat) : era S k k = false := by simp [era]
theorem era_comm (S : Nat → Bool) (k j : Nat) : era (era S k) j = era (era S j) k := by
  funext i
  simp only [era]
  cases S i <;> simp [Bool.and_comm]
theorem cb_era_le {S : Nat → Bool} {k : Nat} : ∀ {j : Nat}, j ≤ k → cb (era S k) j = cb S j
  | 0, _ => rfl
  | j + 1, h => by rw [cb, cb, cb_era_le (by omega), era_ne (by omega)]
theorem cb_era_gt {S : Nat → Bool} {k : Nat} (hk : S k = true) : ∀ {j : Nat}, k < j → cb (era S k) j + 1 = cb S j
  | 0, h => absurd h (Nat.not_lt_zero k)
  | j + 1, h => by
    rw [cb, cb]
    by_cases e : k = j
    · subst e
      rw [cb_era_le (Nat.le_refl k), era_self, hk]
      simp
    · rw [← cb_era_gt hk (by omega : k < j), era_ne (by omega)]
      omega
/-- a row wedged to what is there -/
def wg (n : Nat) (v : Nat → Int) (w : (Nat → Bool) → Int) (S : Nat → Bool) : Int := sm n (fun k => if S k then sg (cb S n + 1 + cb S k) * v k * w (era S k) else 0)
theorem wg_congr {n : Nat} {v v' : Nat → Int} {w w' : (Nat → Bool) → Int} (hv : ∀ k, k < n → v k = v' k) (hw : w = w') : wg n v w = wg n v' w' := by
  funext S
  subst hw
  exact sm_congr (fun k hk => by rw [hv k hk])
theorem wg_0 (n : Nat) (v : Nat → Int) : wg n v (fun _ => 0) = fun _ => 0 := by
  funext S
  exact sm_0 (fun k _ => by simp)
theorem wg_neg (n : Nat) (v : Nat → Int) (w : (Nat → Bool) → Int) : wg n v (fun S => - w S) = fun S => - wg n v w S := by
  funext S
  unfold wg
  rw [← sm_neg]
  exact sm_congr (fun k _ => by by_cases h : S k <;> simp [h, Int.mul_neg])
theorem wg_mul (n : Nat) (v : Nat → Int) (a : Int) (w : (Nat → Bool) → Int) : wg n v (fun S => a * w S) = fun S => a * wg n v w S := by
  funext S
  unfold wg
  rw [← sm_mul]
  exact sm_congr (fun k _ => by by_cases h : S k <;> simp [h, Int.mul_left_comm])
theorem wg_sm (n m : Nat) (v : Nat → Int) (a : Nat → Int) (w : Nat → (Nat → Bool) → Int) : wg n v (fun S => sm m (fun j => a j * w j S)) = fun S => sm m (fun j => a j * wg n v (w j) S) := by
  funext S
  unfold wg
  rw [show (fun j => a j * sm n (fun k => if S k then sg (cb S n + 1 + cb S k) * v k * w j (era S k) else 0)) = (fun j => sm n (fun k => a j * (if S k then sg (cb S n + 1 + cb S k) * v k * w j (era S k) else 0))) from funext fun j => (sm_mul _ _ n).symm, ← sm_swap]
  refine sm_congr (fun k _ => ?_)
  by_cases h : S k
  · simp only [h, if_true]
    rw [← sm_mul]
    exact sm_congr (fun j _ => Int.mul_left_comm _ _ _)
  · simp only [h, Bool.false_eq_true, if_false]
    exact (sm_0 (fun j _ => by simp)).symm
/-- the sign of two columns taken one after the other -/
theorem sg_two {S : Nat → Bool} {n k j : Nat} (hk : S k = true) (hj : S j = true) (hkn : k < n) (hjn : j < n) (h : j ≠ k) :
    sg (cb S n + 1 + cb S k) * sg (cb (era S k) n + 1 + cb (era S k) j) = - (sg (cb S n + 1 + cb S j) * sg (cb (era S j) n + 1 + cb (era S j) k)) := by
  have e1 := cb_era_gt hk hkn
  have e2 := cb_era_gt hj hjn
  rcases Nat.lt_or_gt_of_ne h with hlt | hgt
  · have e3 := cb_era_gt hj hlt
    rw [cb_era_le (S := S) (k := k) (Nat.le_of_lt hlt), ← sg_add, ← sg_add, ← e1]
    have e4 : cb (era S k) n = cb (era S j) n := by omega
    rw [e4, ← e3, show cb (era S j) n + 1 + 1 + (cb (era S j) k + 1) + (cb (era S j) n + 1 + cb S j) = (cb (era S j) n + 1 + 1 + cb S j + (cb (era S j) n + 1 + cb (era S j) k)) + 1 by omega, sg_succ]
  · have e3 := cb_era_gt hk hgt
    rw [cb_era_le (S := S) (k := j) (Nat.le_of_lt hgt), ← sg_add, ← sg_add, ← e1]
    have e4 : cb (era S k) n = cb (era S j) n := by omega
    rw [e4, ← e3, show cb (era S j) n + 1 + 1 + (cb (era S k) j + 1) + (cb (era S j) n + 1 + cb S k) = (cb (era S j) n + 1 + 1 + cb S k + (cb (era S j) n + 1 + cb (era S k) j)) + 1 by omega, sg_succ, Int.neg_neg]
theorem wg_two (n : Nat) (v u : Nat → Int) (w : (Nat → Bool) → Int) (S : Nat → Bool) : wg n v (wg n u w) S = sm n (fun k => sm n (fun j => if S k = true ∧ S j = true ∧ j ≠ k then (sg (cb S n + 1 + cb S k) * sg (cb (era S k) n + 1 + cb (era S k) j)) * (v k * u j * w (era (era S k) j)) else 0)) := by
  unfold wg
  refine sm_congr (fun k _ => ?_)
  by_cases h : S k = true
  · rw [if_pos h, ← sm_mul]
    refine sm_congr (fun j _ => ?_)
    by_cases e : j = k
    · subst e
      simp [era_self]
    · rw [era_ne e]
      by_cases h2 : S j = true
      · rw [if_pos h2, if_pos ⟨h, h2, e⟩]
        simp only [Int.mul_assoc, Int.mul_left_comm]
      · rw [if_neg h2, if_neg (fun q => h2 q.2.1), Int.mul_zero]
  · rw [if_neg h]
    exact (sm_0 (fun j _ => if_neg (fun q => h q.1))).symm
theorem wg_anti (n : Nat) (v u : Nat → Int) (w : (Nat → Bool) → Int) : wg n v (wg n u w) = fun S => - wg n u (wg n v w) S := by
  funext S
  rw [wg_two, wg_two, ← sm_neg]
  rw [show (fun k => - sm n (fun j => if S k = true ∧ S j = true ∧ j ≠ k then (sg (cb S n + 1 + cb S k) * sg (cb (era S k) n + 1 + cb (era S k) j)) * (u k * v j * w (era (era S k) j)) else 0)) = (fun k => sm n (fun j => - (if S k = true ∧ S j = true ∧ j ≠ k then (sg (cb S n + 1 + cb S k) * sg (cb (era S k) n + 1 + cb (era S k) j)) * (u k * v j * w (era (era S k) j)) else 0))) from funext fun k => (sm_neg _ n).symm, sm_swap (fun i j => - (if S i = true ∧ S j = true ∧ j ≠ i then (sg (cb S n + 1 + cb S i) * sg (cb (era S i) n + 1 + cb (era S i) j)) * (u i * v j * w (era (era S i) j)) else 0))]
  refine sm_congr (fun k hk => sm_congr (fun j hj => ?_))
  by_cases h : S k = true ∧ S j = true ∧ j ≠ k
  · rw [if_pos h, if_pos ⟨h.2.1, h.1, fun e => h.2.2 e.symm⟩, sg_two h.1 h.2.1 hk hj h.2.2, era_comm S j k, Int.neg_mul, Int.mul_comm (u j) (v k)]
  · rw [if_neg h, if_neg (fun q => h ⟨q.2.1, q.1, fun e => q.2.2 e.symm⟩), Int.neg_zero]
theorem wg_same (n : Nat) (v : Nat → Int) (w : (Nat → Bool) → Int) : wg n v (wg n v w) = fun _ => 0 := by
  funext S
  have h : wg n v (wg n v w) S = - wg n v (wg n v w) S := congrFun (wg_anti n v v w) S
  omega
/-- the first r rows wedged -/
def dW (n : Nat) (M : Nat → Nat → Int) : Nat → (Nat → Bool) → Int
  | 0 => fun _ => 1
  | r + 1 => wg n (M r) (dW n M r)
theorem dW_congr {n : Nat} {M M' : Nat → Nat → Int} : ∀ {r : Nat}, (∀ i, i < r → ∀ k, k < n → M i k = M' i k) → dW n M r = dW n M' r
  | 0, _ => rfl
  | r + 1, h => wg_congr (fun k hk => h r (Nat.lt_succ_self r) k hk) (dW_congr (fun i hi k hk => h i (Nat.lt_succ_of_lt hi) k hk))
/-- a row that is there already -/
theorem dW_again (n : Nat) (M : Nat → Nat → Int) {i : Nat} : ∀ {r : Nat}, i < r → wg n (M i) (dW n M r) = fun _ => 0
  | 0, h => absurd h (Nat.not_lt_zero i)
  | r + 1, h => by
    rw [dW]
    by_cases e : i = r
    · subst e
      exact wg_same n (M i) (dW n M i)
    · rw [wg_anti, dW_again n M (by omega : i < r), wg_0]
      rfl
theorem dW_zero {n : Nat} {M : Nat → Nat → Int} {r : Nat} (h : dW n M r = fun _ => 0) : ∀ d : Nat, dW n M (r + d) = fun _ => 0
  | 0 => h
  | d + 1 => by rw [← Nat.add_assoc, dW, dW_zero h d, wg_0]
/-- row k put in place of another -/
def rowIn (M : Nat → Nat → Int) (k : Nat) (u : Nat → Int) : Nat → Nat → Int := fun r => if r = k then u else M r
def full : Nat → Bool := fun _ => true
def det (n : Nat) (M : Nat → Nat → Int) : Int := dW n M n full
def unit (j : Nat) : Nat → Int := fun k => if k = j then 1 else 0
def cof (n : Nat) (M : Nat → Nat → Int) (k j : Nat) : Int := det n (rowIn M k (unit j))
theorem rowIn_dW {n : Nat} {M : Nat → Nat → Int} {k r : Nat} (h : r ≤ k) (u : Nat → Int) : dW n (rowIn M k u) r = dW n M r :=
  dW_congr (fun i hi c _ => by simp only [rowIn]; rw [if_neg (by omega)])
theorem det_self {n k : Nat} (M : Nat → Nat → Int) : det n (rowIn M k (M k)) = det n M := by
  refine congrFun (dW_congr (fun i _ c _ => ?_)) full
  simp only [rowIn]
  by_cases h : i = k
  · rw [if_pos h, h]
  · rw [if_neg h]
theorem det_other {n k i : Nat} (M : Nat → Nat → Int) (hk : k < n) (hi : i < n) (h : i ≠ k) : det n (rowIn M k (M i)) = 0 := by
  have hz : ∃ r, r ≤ n ∧ dW n (rowIn M k (M i)) r = fun _ => 0 := by
    rcases Nat.lt_or_gt_of_ne h with hlt | hgt
    · refine ⟨k + 1, hk, ?_⟩
      rw [dW, rowIn_dW (Nat.le_refl k), show rowIn M k (M i) k = M i from if_pos rfl]
      exact dW_again n M hlt
    · refine ⟨i + 1, hi, ?_⟩
      rw [dW, show rowIn M k (M i) i = rowIn M k (M i) k by unfold rowIn; rw [if_neg h, if_pos rfl]]
      exact dW_again n (rowIn M k (M i)) hgt
  obtain ⟨r, hr, h0⟩ := hz
  have := dW_zero h0 (n - r)
  rw [show r + (n - r) = n by omega] at this
  exact congrFun this full
theorem wg_unit (n : Nat) (u : Nat → Int) (w : (Nat → Bool) → Int) : wg n u w = fun S => sm n (fun j => u j * wg n (unit j) w S) := by
  funext S
  have h : ∀ j, j < n → u j * wg n (unit j) w S = if S j then sg (cb S n + 1 + cb S j) * u j * w (era S j) else 0 := by
    intro j hj
    unfold wg
    rw [sm_one hj (fun k _ hne => by simp [unit, hne])]
    by_cases e : S j <;> simp [e, unit, Int.mul_comm, Int.mul_left_comm]
  rw [sm_congr h]
  rfl
/-- a determinant by one of its rows -/
theorem det_row {n k : Nat} (M : Nat → Nat → Int) (u : Nat → Int) (hk : k < n) : det n (rowIn M k u) = sm n (fun j => u j * cof n M k j) := by
  have h : ∀ d : Nat, dW n (rowIn M k u) (k + 1 + d) = fun S => sm n (fun j => u j * dW n (rowIn M k (unit j)) (k + 1 + d) S) := by
    intro d
    induction d with
    | zero =>
      rw [Nat.add_zero, dW, rowIn_dW (Nat.le_refl k), show rowIn M k u k = u from if_pos rfl, wg_unit]
      funext S
      refine sm_congr (fun j _ => ?_)
      rw [dW, rowIn_dW (Nat.le_refl k), show rowIn M k (unit j) k = unit j from if_pos rfl]
    | succ d ih =>
      rw [← Nat.add_assoc, dW, ih, show rowIn M k u (k + 1 + d) = M (k + 1 + d) from if_neg (by omega), wg_sm]
      funext S
      refine sm_congr (fun j _ => ?_)
      rw [dW, show rowIn M k (unit j) (k + 1 + d) = M (k + 1 + d) from if_neg (by omega)]
  have := congrFun (h (n - (k + 1))) full
  rw [show k + 1 + (n - (k + 1)) = n by omega] at this
  exact this
theorem det_adj {n i k : Nat} (M : Nat → Nat → Int) (hi : i < n) (hk : k < n) : sm n (fun j => M i j * cof n M k j) = if i = k then det n M else 0 := by
  rw [← det_row M (M i) hk]
  by_cases h : i = k
  · rw [if_pos h, h, det_self]
  · rw [if_neg h, det_other M hk hi h]

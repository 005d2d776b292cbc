/-! the cofactor by a smaller determinant: a row and a column left out -/
def skp (i r : Nat) : Nat := if r < i then r else r + 1
theorem skp_ne (i r : Nat) : skp i r ≠ i := by unfold skp; split <;> omega
theorem dW_move {n : Nat} {M : Nat → Nat → Int} {i : Nat} (u : Nat → Int) : ∀ d : Nat, dW n (rowIn M i u) (i + 1 + d) = fun S => sg d * wg n u (dW n (fun r => M (skp i r)) (i + d)) S
  | 0 => by
    funext S
    rw [Nat.add_zero, Nat.add_zero, dW, rowIn_dW (Nat.le_refl i), show rowIn M i u i = u from if_pos rfl, show sg 0 = 1 from rfl, Int.one_mul]
    refine congrFun (congrArg (wg n u) (dW_congr (fun r hr k _ => ?_))) S
    rw [show skp i r = r from if_pos hr]
  | d + 1 => by
    rw [← Nat.add_assoc, dW, dW_move u d, show rowIn M i u (i + 1 + d) = M (i + 1 + d) from if_neg (by omega), wg_mul, wg_anti]
    funext S
    rw [sg_succ, ← Nat.add_assoc, dW, show skp i (i + d) = i + 1 + d by unfold skp; rw [if_neg (by omega)]; omega, Int.mul_neg, Int.neg_mul]
/-- a sum without the place j -/
theorem sm_skp {f : Nat → Int} {j : Nat} (h0 : f j = 0) : ∀ n : Nat, j ≤ n → sm (n + 1) f = sm n (fun k => f (skp j k))
  | n, hj => by
    induction n with
    | zero =>
      have : j = 0 := by omega
      subst this
      show sm 0 f + f 0 = 0
      rw [h0]
      rfl
    | succ n ih =>
      by_cases e : j = n + 1
      · subst e
        rw [sm, h0, Int.add_zero]
        exact sm_congr (fun k hk => by rw [show skp (n + 1) k = k from if_pos hk])
      · rw [sm, ih (by omega), sm, show skp j n = n + 1 by unfold skp; rw [if_neg (by omega)]]
theorem cb_skp {S : Nat → Bool} {j : Nat} (h0 : S j = false) : ∀ k : Nat, cb S (skp j k) = cb (fun c => S (skp j c)) k
  | 0 => by
    unfold skp
    split
    · rfl
    · have : j = 0 := by omega
      subst this
      simp [cb, h0]
  | k + 1 => by
    have ih := cb_skp h0 k
    rw [cb, ← ih]
    by_cases h1 : k + 1 < j
    · rw [show skp j (k + 1) = k + 1 from if_pos h1, show skp j k = k from if_pos (by omega), cb]
    · by_cases h2 : k < j
      · have e : k + 1 = j := by omega
        rw [show skp j (k + 1) = k + 1 + 1 from if_neg h1, show skp j k = k from if_pos h2, cb, cb, e, h0]
        simp
      · rw [show skp j (k + 1) = k + 1 + 1 from if_neg h1, show skp j k = k + 1 from if_neg h2, cb]
theorem cb_skp_all {S : Nat → Bool} {j n : Nat} (h0 : S j = false) (hj : j ≤ n) : cb S (n + 1) = cb (fun c => S (skp j c)) n := by
  rw [← cb_skp h0 n]
  unfold skp
  split
  · have : j = n + 1 := by omega
    omega
  · rfl
theorem era_skp (S : Nat → Bool) (j k : Nat) : (fun c => era S (skp j k) (skp j c)) = era (fun c => S (skp j c)) k := by
  funext c
  simp only [era]
  have : decide (skp j c = skp j k) = decide (c = k) := by
    apply decide_eq_decide.mpr
    unfold skp
    split <;> split <;> omega
  rw [this]
theorem dW_skp {n : Nat} (M : Nat → Nat → Int) {j : Nat} (hj : j ≤ n) : ∀ (r : Nat) (S : Nat → Bool), S j = false → dW (n + 1) M r S = dW n (fun i k => M i (skp j k)) r (fun c => S (skp j c))
  | 0, _, _ => rfl
  | r + 1, S, h0 => by
    rw [dW, dW, wg, wg, sm_skp (by simp [h0]) n hj]
    refine sm_congr (fun k _ => ?_)
    have h1 : era S (skp j k) j = false := by rw [era_ne (fun e => skp_ne j k e.symm), h0]
    rw [dW_skp M hj r (era S (skp j k)) h1, era_skp, cb_skp h0, cb_skp_all h0 hj]
/-- the cofactor is, but for its sign, the determinant without row i and column j -/
theorem cof_minor {n i j : Nat} (M : Nat → Nat → Int) (hi : i < n + 1) (hj : j < n + 1) : cof (n + 1) M i j = sg (i + j) * dW n (fun r k => M (skp i r) (skp j k)) n (fun _ => true) := by
  have h := congrFun (dW_move (n := n + 1) (M := M) (i := i) (unit j) (n - i)) full
  rw [show i + 1 + (n - i) = n + 1 by omega, show i + (n - i) = n by omega] at h
  unfold cof det
  rw [h]
  rw [show wg (n + 1) (unit j) (dW (n + 1) (fun r => M (skp i r)) n) full = sg (cb full (n + 1) + 1 + cb full j) * dW (n + 1) (fun r => M (skp i r)) n (era full j) by
    unfold wg
    rw [sm_one hj (fun k _ hne => by simp [unit, hne])]
    simp [full, unit]]
  rw [dW_skp (fun r => M (skp i r)) (by omega : j ≤ n) n (era full j) (era_self full j)]
  have hc : ∀ k, cb full k = k := by
    intro k
    induction k with
    | zero => rfl
    | succ k ih => rw [cb, ih]; simp [full]
  rw [show (fun c => era full j (skp j c)) = (fun _ => true) from funext fun c => by rw [era_ne (skp_ne j c)]; rfl, hc, hc, ← Int.mul_assoc, ← sg_add]
  rw [show sg (n - i + (n + 1 + 1 + j)) = sg (i + j) by unfold sg; rw [show (n - i + (n + 1 + 1 + j)) % 2 = (i + j) % 2 by omega]]

/-! the reference: determinants put together from minors by sets of columns -/
theorem bit9 : ∀ S, S < 512 → ∀ k, k < 9 → (nI S >>> (nI k &&& 31) &&& nI 1) = nI (if S.testBit k then 1 else 0) := by decide +kernel
theorem clr9 : ∀ S, S < 512 → ∀ k, k < 9 → S.testBit k = true → (nI S &&& (nI 1 <<< (nI k &&& 31) ^^^ (-1))) = nI (S ^^^ 2 ^ k) ∧ S ^^^ 2 ^ k < S := by decide +kernel
theorem shl9 : ∀ n, n < 10 → nI 1 <<< (nI n &&& 31) = nI (2 ^ n) := by decide +kernel
theorem bit1 {S k : Nat} (hS : S < 512) (hk : k < 9) : (nI S >>> (nI k &&& 31) &&& nI 1) = nI 1 ↔ S.testBit k = true := by
  rw [bit9 S hS k hk]
  cases S.testBit k <;> decide
theorem clr_era {S k : Nat} (h : S.testBit k = true) : (S ^^^ 2 ^ k).testBit = era S.testBit k := by
  funext j
  rw [Nat.testBit_xor, Nat.testBit_two_pow]
  unfold era
  by_cases e : j = k
  · subst e; simp [h]
  · have e2 : k ≠ j := fun q => e q.symm
    simp [e, e2]
theorem i32_m1 : Int32.ofInt (-1) = -1 := by decide
theorem ofI_1 : Int64.ofInt 1 = 1 := by simp
theorem ofI_0 : Int64.ofInt 0 = 0 := by simp
theorem cb_none : ∀ n, cb (fun _ => false) n = 0
  | 0 => rfl
  | n + 1 => by rw [cb, cb_none n]; rfl
theorem cb_le (S : Nat → Bool) : ∀ n, cb S n ≤ n
  | 0 => Nat.le_refl 0
  | n + 1 => by rw [cb]; have := cb_le S n; split <;> omega
theorem cb_pos {S : Nat → Bool} {k : Nat} (h : S k = true) : ∀ {n : Nat}, k < n → 1 ≤ cb S n
  | 0, hk => absurd hk (Nat.not_lt_zero k)
  | n + 1, hk => by
    rw [cb]
    by_cases e : k = n
    · subst e; rw [if_pos h]; omega
    · have := cb_pos h (by omega : k < n); omega
theorem cb_nat {S n : Nat} (h1 : 1 ≤ S) (h2 : S < 2 ^ n) : 1 ≤ cb S.testBit n := by
  obtain ⟨k, hk⟩ : ∃ k, S.testBit k = true := Nat.exists_testBit_of_ne_zero (by omega)
  refine cb_pos hk (Nat.lt_of_not_le fun hn => ?_)
  rw [Nat.testBit_lt_two_pow (Nat.lt_of_lt_of_le h2 (Nat.pow_le_pow_right (by decide) hn))] at hk
  cases hk
theorem nI_m1 (a b : Nat) : nI a + (-1) + nI b = nI (a + b) + (-1) := by rw [← nI_add, Int32.add_assoc, Int32.add_comm (-1), ← Int32.add_assoc]
theorem skp_lo {i r : Nat} (h : r < i) : skp i r = r := if_pos h
theorem skp_hi {i r : Nat} (h : ¬ r < i) : skp i r = r + 1 := if_neg h
theorem skp_lt {i r n : Nat} (hr : r < n) (h : (i = 9 ∧ n = 9) ∨ (i < 9 ∧ n = 8)) : skp i r < 9 := by unfold skp; split <;> omega
/-- what the minors of the sets below S hold -/
def mnI (n : Nat) (M : Nat → Nat → Int) (S : Nat) (f : Nat → Int64) : Prop := ∀ T, T < S → f T = Int64.ofInt (dW n M (cb T.testBit n) T.testBit)
def mnF (n : Nat) (M : Nat → Nat → Int) (S P : Nat) : Nat → Int := fun k => if S.testBit k then sg (cb S.testBit n + 1 + cb S.testBit k) * M P k * dW n M P (era S.testBit k) else 0
theorem mnI_next {n : Nat} {M : Nat → Nat → Int} {S P : Nat} {f : Nat → Int64} {v : Int64} (h : mnI n M S f) (hP : cb S.testBit n = P + 1) (hv : v = Int64.ofInt (sm n (mnF n M S P))) : mnI n M (S + 1) (vp_updL f S v) := by
  intro T hT
  unfold vp_updL
  by_cases e : T = S
  · subst e
    rw [if_pos rfl, hv, hP]
    rfl
  · rw [if_neg e]
    exact h T (by omega)
theorem sg_par {a b : Nat} (h : a % 2 = b % 2) : sg a = sg b := by unfold sg; rw [h]
theorem ofInt_neg64 (a : Int) : Int64.ofInt (-a) = - Int64.ofInt a := by simp
theorem mn_skip {n : Nat} {M : Nat → Nat → Int} {S P k : Nat} (h : S.testBit k = false) : sm (k + 1) (mnF n M S P) = sm k (mnF n M S P) := by
  rw [sm, show mnF n M S P k = 0 by unfold mnF; rw [h]; rfl, Int.add_zero]
theorem mn_take {n : Nat} {M : Nat → Nat → Int} {S P k : Nat} {f : Nat → Int64} {z x : Int64} (hk : k < n) (h : S.testBit k = true) (hm : mnI n M S f) (hP : cb S.testBit n = P + 1) (hS : S ^^^ 2 ^ k < S) (hz : z = Int64.ofInt (sm k (mnF n M S P))) (hx : x = Int64.ofInt (M P k) * f (S ^^^ 2 ^ k)) :
    ((P + cb S.testBit k) % 2 = 0 → z + x = Int64.ofInt (sm (k + 1) (mnF n M S P))) ∧ (¬ (P + cb S.testBit k) % 2 = 0 → z + -x = Int64.ofInt (sm (k + 1) (mnF n M S P))) := by
  have e1 : f (S ^^^ 2 ^ k) = Int64.ofInt (dW n M P (era S.testBit k)) := by
    rw [hm _ hS, clr_era h]
    have := cb_era_gt (S := S.testBit) h hk
    rw [show cb (era S.testBit k) n = P by omega]
  have e2 : mnF n M S P k = sg (P + cb S.testBit k) * M P k * dW n M P (era S.testBit k) := by
    unfold mnF
    rw [h, hP, if_pos rfl, sg_par (a := P + 1 + 1 + cb S.testBit k) (b := P + cb S.testBit k) (by omega)]
  rw [sm, e2, hz, hx, e1, ← Int64.ofInt_mul]
  refine ⟨fun hp => ?_, fun hp => ?_⟩
  · rw [show sg (P + cb S.testBit k) = 1 from if_pos hp, Int.one_mul, Int64.ofInt_add]
  · rw [show sg (P + cb S.testBit k) = -1 from if_neg hp, ← ofInt_neg64, ← Int64.ofInt_add, Int.neg_mul, Int.one_mul, Int.neg_mul]
theorem wg_congrS {n : Nat} {v : Nat → Int} {w : (Nat → Bool) → Int} (hw : ∀ S S' : Nat → Bool, (∀ j, j < n → S j = S' j) → w S = w S') {S S' : Nat → Bool} (h : ∀ j, j < n → S j = S' j) : wg n v w S = wg n v w S' := by
  have hc : ∀ k, k ≤ n → cb S k = cb S' k := by
    intro k hk
    induction k with
    | zero => rfl
    | succ k ih => rw [cb, cb, ih (by omega), h k (by omega)]
  unfold wg
  refine sm_congr (fun k hk => ?_)
  rw [h k hk, hc n (Nat.le_refl n), hc k (by omega), hw (era S k) (era S' k) (fun j hj => by unfold era; rw [h j hj])]
theorem dW_congrS (n : Nat) (M : Nat → Nat → Int) : ∀ (r : Nat) (S S' : Nat → Bool), (∀ j, j < n → S j = S' j) → dW n M r S = dW n M r S'
  | 0, _, _, _ => rfl
  | r + 1, _, _, h => wg_congrS (fun S S' q => dW_congrS n M r S S' q) h
theorem cb_allT {S : Nat → Bool} : ∀ {n : Nat}, (∀ j, j < n → S j = true) → cb S n = n
  | 0, _ => rfl
  | n + 1, h => by rw [cb, cb_allT (fun j hj => h j (by omega)), h n (by omega)]; rfl
theorem mn_last {n : Nat} {M : Nat → Nat → Int} {f : Nat → Int64} (h : mnI n M (2 ^ n) f) : f (2 ^ n - 1) = Int64.ofInt (dW n M n (fun _ => true)) := by
  have hp : 0 < 2 ^ n := Nat.two_pow_pos n
  have hb : ∀ j, j < n → (2 ^ n - 1).testBit j = true := fun j hj => by rw [Nat.testBit_two_pow_sub_one]; simp [hj]
  rw [h _ (by omega), cb_allT hb]
  exact congrArg Int64.ofInt (dW_congrS n M n _ _ hb)
section CT
variable {p : Program} {l : Launch} {e : Env} {R : Room} {s : State} {m : MethodId} {args : Array Value} {below : List Frame} {meth : Method} {c : Code} {H : Heap} {locs : List Loc} {cells slots : Nat} {Q : State → Prop}
/-- two ways that meet again -/
theorem wCut {pc pc2 : Nat} {ls : Array Slot} {st : List Value} (I : Array Slot → Prop) (k1 : (∀ ls, I ls → W p l e R s m args below meth c H locs cells slots Q (F0 m pc2 ls [])) → W p l e R s m args below meth c H locs cells slots Q (F0 m pc ls st)) (k2 : ∀ ls, I ls → W p l e R s m args below meth c H locs cells slots Q (F0 m pc2 ls [])) : W p l e R s m args below meth c H locs cells slots Q (F0 m pc ls st) := k1 k2
end CT

/-! from links to the matrix; the stages of the elimination as the class holds them -/
def ceC (e o i j : Nat) : Int := if i = e then (if j = e then 1 else if j = o ∧ o < 9 then -1 else 0) else 0
def ceR (now : Nat → Int32) (k e o i j : Nat) : Int := ceC e o i j * (now k).toInt
def sC1 (e o i : Nat) : Int := if i = e ∧ 9 ≤ o then 1 else 0
def ceS (now : Nat → Int32) (k e o i : Nat) : Int := sC1 e o i * ((now k).toInt * (now (24 + o - 9)).toInt)
def ctR (now : Nat → Int32) (i j k : Nat) : Int := ceR now k (fe k) (se k) i j + ceR now k (se k) (fe k) i j
def ctS (now : Nat → Int32) (i k : Nat) : Int := ceS now k (fe k) (se k) i + ceS now k (se k) (fe k) i
theorem gather {i : Nat} (hi : i < 9) (a : Nat → Int) (x : Nat → Int) : sm 4 (fun s => a s * x (lk i s)) = sm 24 (fun l => sm 4 (fun s => if lk i s = l then a s else 0) * x l) := by
  have h1 : sm 24 (fun l => sm 4 (fun s => if lk i s = l then a s else 0) * x l) = sm 24 (fun l => sm 4 (fun s => (if lk i s = l then a s else 0) * x l)) := sm_congr (fun l _ => (sm_mulr _ _ 4).symm)
  rw [h1, sm_swap (fun l s => (if lk i s = l then a s else 0) * x l) 4 24]
  refine sm_congr (fun s hs => ?_)
  rw [sm_one (lk_lt hi hs) (fun l _ e => by rw [if_neg (fun q => e q.symm), Int.zero_mul]), if_pos rfl]
theorem coR : ∀ i, i < 9 → ∀ j, j < 9 → ∀ k, k < 24 → ceC (fe k) (se k) i j + ceC (se k) (fe k) i j = sm 4 (fun s => if lk i s = k then ((if j = i then 1 else 0) - (if ot i s = j then 1 else 0)) else 0) := by decide +kernel
theorem ctR_A {now : Nat → Int32} {i j : Nat} (hi : i < 9) (hj : j < 9) : sm 24 (ctR now i j) = AM now i j := by
  unfold AM
  rw [if_pos ⟨hi, hj⟩]
  have h1 : sm 4 (amT now i j) = sm 4 (fun s => ((if j = i then 1 else 0) - (if ot i s = j then 1 else 0)) * (now (lk i s)).toInt) := by
    refine sm_congr (fun s _ => ?_)
    unfold amT cdI
    rw [Int.sub_mul]
    congr 1
    · split <;> simp
    · split <;> simp
  rw [h1, gather hi (fun s => (if j = i then 1 else 0) - (if ot i s = j then 1 else 0)) (fun k => (now k).toInt)]
  refine sm_congr (fun k hk => ?_)
  unfold ctR ceR
  rw [← Int.add_mul, coR i hi j hj k hk]
def be (k : Nat) : Nat := if 9 ≤ fe k then fe k else se k
theorem coS : ∀ i, i < 9 → ∀ k, k < 24 → sC1 (fe k) (se k) i + sC1 (se k) (fe k) i = sm 4 (fun s => if lk i s = k then (if ot i s < 9 then 0 else 1) else 0) := by decide +kernel
theorem be_ot : ∀ i, i < 9 → ∀ s, s < 4 → ¬ ot i s < 9 → be (lk i s) = ot i s := by decide
theorem ce_be1 : ∀ i, i < 9 → ∀ k, k < 24 → (i = fe k ∧ 9 ≤ se k) → be k = se k := by decide
theorem ce_be2 : ∀ i, i < 9 → ∀ k, k < 24 → (i = se k ∧ 9 ≤ fe k) → be k = fe k := by decide
theorem ctS_A {now : Nat → Int32} {i : Nat} (hi : i < 9) : sm 24 (ctS now i) = sm 4 (fun s => if ot i s < 9 then 0 else (now (lk i s)).toInt * (now (24 + ot i s - 9)).toInt) := by
  have h1 : sm 4 (fun s => if ot i s < 9 then 0 else (now (lk i s)).toInt * (now (24 + ot i s - 9)).toInt) = sm 4 (fun s => (if ot i s < 9 then 0 else 1) * (fun k => (now k).toInt * (now (24 + be k - 9)).toInt) (lk i s)) := by
    refine sm_congr (fun s hs => ?_)
    by_cases h : ot i s < 9
    · rw [if_pos h, if_pos h, Int.zero_mul]
    · rw [if_neg h, if_neg h, Int.one_mul]
      show _ = (now (lk i s)).toInt * (now (24 + be (lk i s) - 9)).toInt
      rw [be_ot i hi s hs h]
  rw [h1, gather hi (fun s => if ot i s < 9 then 0 else 1) (fun k => (now k).toInt * (now (24 + be k - 9)).toInt)]
  refine sm_congr (fun k hk => ?_)
  have hc := coS i hi k hk
  rw [← hc, Int.add_mul]
  unfold ctS ceS
  have e1 : sC1 (fe k) (se k) i * ((now k).toInt * (now (24 + se k - 9)).toInt) = sC1 (fe k) (se k) i * ((now k).toInt * (now (24 + be k - 9)).toInt) := by
    unfold sC1
    by_cases h : i = fe k ∧ 9 ≤ se k
    · rw [ce_be1 i hi k hk h]
    · rw [if_neg h, Int.zero_mul, Int.zero_mul]
  have e2 : sC1 (se k) (fe k) i * ((now k).toInt * (now (24 + fe k - 9)).toInt) = sC1 (se k) (fe k) i * ((now k).toInt * (now (24 + be k - 9)).toInt) := by
    unfold sC1
    by_cases h : i = se k ∧ 9 ≤ fe k
    · rw [ce_be2 i hi k hk h]
    · rw [if_neg h, Int.zero_mul, Int.zero_mul]
  rw [e1, e2]
theorem rtR_sm {now : Nat → Int32} (hr : rgM now) {c : Nat} (hc : c < 9) : ∀ s, s ≤ 4 → rtR now c s = (now (36 + c) - now (45 + c)).toInt64 + Int64.ofInt (sm s (fun s => if ot c s < 9 then 0 else (now (lk c s)).toInt * (now (24 + ot c s - 9)).toInt))
  | 0, _ => by rw [sm, ofI_0, Int64.add_zero]; rfl
  | s + 1, hs => by
    rw [rtR, sm, Int64.ofInt_add, rtR_sm hr hc s (by omega)]
    by_cases h : ot c s < 9
    · rw [if_pos h, if_pos h, ofI_0, Int64.add_zero]
    · rw [if_neg h, if_neg h, Int64.add_assoc]
      congr 2
      have h1 := hr.1 _ (lk_lt hc (show s < 4 by omega))
      have h2 := ot_lt hc (show s < 4 by omega)
      have h3 := hr.2 (24 + ot c s - 9) (by omega) (by omega)
      rw [ofI_32, Int32.toInt_mul]
      congr 1
      have h4 : 0 ≤ (now (lk c s)).toInt * (now (24 + ot c s - 9)).toInt := Int.mul_nonneg h1.1 h3.1
      have h5 : (now (lk c s)).toInt * (now (24 + ot c s - 9)).toInt ≤ 2 * 1000 := im_mono h1.2 h3.2 (by decide) h3.1
      rw [Int.bmod_eq_of_le (by omega) (by omega)]
theorem sup_eq {now : Nat → Int32} (hr : rgM now) {c : Nat} (hc : c < 9) : (now (36 + c) - now (45 + c)).toInt64 + Int64.ofInt (sm 24 (ctS now c)) = rtR now c 4 := by
  rw [rtR_sm hr hc 4 (by omega), ctS_A hc]
/-- the stages: the left half, the right half -/
def stg (A : Nat → Nat → Int) (k i j : Nat) : Int := if j < 9 then Lm 9 A k i j else Tm A k i (j - 9)
section STG
variable {A : Nat → Nat → Int}
theorem stg_step (hB : Bal 9 A) {k i j : Nat} (hk : k < 9) (hi : i < 9) (hj : j < 18) (hik : i ≠ k) (hp : pv A k ≠ 0) (hp1 : pv A (k + 1) ≠ 0) : pv A k * stg A (k + 1) i j = pv A (k + 1) * stg A k i j - stg A k i k * stg A k k j := by
  have e : stg A k i k = Lm 9 A k i k := if_pos hk
  rw [e]
  unfold stg
  by_cases h : j < 9
  · rw [if_pos h, if_pos h, if_pos h]; exact Lm_step hB.1 hk hi hik hp hp1
  · rw [if_neg h, if_neg h, if_neg h]; exact Tm_step hB.1 hk hi (by omega) hik hp hp1
theorem stg_row (hB : Bal 9 A) {k j : Nat} (hk : k < 9) (hp : pv A k ≠ 0) (hp1 : pv A (k + 1) ≠ 0) : stg A (k + 1) k j = stg A k k j := by
  unfold stg
  by_cases h : j < 9
  · rw [if_pos h, if_pos h]; exact Lm_row hB.1 hk hp hp1
  · rw [if_neg h, if_neg h]; exact Tm_row hB.1 hk hp hp1
theorem p8 : ∀ k : Nat, k < 10 → (8 : Int) ^ k ≤ 134217728 := by decide
theorem p8b : ∀ k : Nat, k < 10 → ((k : Int) + 1) * 8 ^ k ≤ 1342177280 := by decide
theorem pv_B (hB : Bal 9 A) {k : Nat} (hk : k ≤ 9) (h : ∀ j, j < k → pv A (j + 1) ≠ 0) : 0 < pv A k ∧ pv A k ≤ 134217728 :=
  ⟨(Gd_all hB hk h).1, Int.le_trans (pv_le hB hk h) (p8 k (by omega))⟩
theorem stg_B (hB : Bal 9 A) {k i j : Nat} (hk : k ≤ 9) (h : ∀ j, j < k → pv A (j + 1) ≠ 0) (hi : i < 9) (hj : j < 18) : -2147483648 ≤ stg A k i j ∧ stg A k i j ≤ 2147483648 := by
  have hG := Gd_all hB hk h
  have hp := pv_B hB hk h
  unfold stg
  by_cases e : j < 9
  · rw [if_pos e]
    have h1 := hG.2.2.2.1 i hi
    have h2 := Gd_dia hG hi
    by_cases e2 : j = i
    · subst e2; omega
    · have h3 := hG.2.1 i j hi e e2
      have h4 := Gd_off hG hi e e2
      omega
  · rw [if_neg e]
    have h1 := hG.2.2.2.2 i (j - 9) hi (by omega)
    have h2 := Int.le_trans (Tm_le hB hk h hi (show j - 9 < 9 by omega)) (p8b k (by omega))
    omega
theorem stg_piv (hB : Bal 9 A) {k : Nat} (hk : k < 9) (h : ∀ j, j < k → pv A (j + 1) ≠ 0) : stg A k k k = pv A (k + 1) := by
  unfold stg
  rw [if_pos hk]
  exact Lm_piv hB.1 hk (Int.ne_of_gt (pv_B hB (by omega) h).1)
theorem stg_0 {i j : Nat} (hi : i < 9) : stg A 0 i j = if j < 9 then A i j else if i = j - 9 then 1 else 0 := by
  unfold stg
  rw [Lm_0 hi, Tm_0]
theorem stg_9 {i j : Nat} (hi : i < 9) (hj : j < 9) : stg A 9 i (9 + j) = cof 9 A i j := by
  unfold stg Tm
  rw [if_neg (by omega), if_pos (by omega), if_pos hi, Nat.add_sub_cancel_left]
end STG
theorem ofI_T {x : Int} (h1 : -2 ^ 63 ≤ x) (h2 : x < 2 ^ 63) : (Int64.ofInt x).toInt = x := Int64.toInt_ofInt_of_le h1 h2
theorem ofI_z {x : Int} (h1 : -2 ^ 63 ≤ x) (h2 : x < 2 ^ 63) : Int64.ofInt x = 0 ↔ x = 0 := by
  constructor
  · intro h
    have h3 := ofI_T h1 h2
    rw [h] at h3
    exact h3.symm
  · intro h; subst h; exact ofI_0
theorem elim_ofI {p1 a f b p0 q : Int} (h0 : 0 < p0) (hp0 : p0 ≤ 134217728) (hp1 : 0 ≤ p1 ∧ p1 ≤ 134217728) (ha : -2147483648 ≤ a ∧ a ≤ 2147483648) (hf : -1073741824 ≤ f ∧ f ≤ 1073741824) (hb : -2147483648 ≤ b ∧ b ≤ 2147483648) (hq : -2147483648 ≤ q ∧ q ≤ 2147483648) (h : p0 * q = p1 * a - f * b) :
    (Int64.ofInt p1 * Int64.ofInt a - Int64.ofInt f * Int64.ofInt b) / Int64.ofInt p0 = Int64.ofInt q := by
  rw [← Int64.ofInt_mul, ← Int64.ofInt_mul, ← Int64.ofInt_sub, ← h]
  have hm1 : p0 * q ≤ 134217728 * 2147483648 := by
    rcases Int.lt_or_le q 0 with hn | hn
    · exact Int.le_trans (im_pn (Int.le_of_lt h0) (Int.le_of_lt hn)) (by decide)
    · exact im_mono hp0 hq.2 (by decide) hn
  have hm2 : -(134217728 * 2147483648) ≤ p0 * q := by
    rcases Int.lt_or_le q 0 with hn | hn
    · have := im_mono (a := p0) (b := 134217728) (c := -q) (d := 2147483648) hp0 (by omega) (by decide) (by omega)
      rw [Int.mul_neg] at this
      omega
    · exact Int.le_trans (by decide) (im_pp (Int.le_of_lt h0) hn)
  apply Int64.toInt_inj.mp
  rw [Int64.toInt_div, ofI_T (by omega) (by omega), ofI_T (by omega) (by omega), ofI_T (by omega) (by omega), Int.mul_tdiv_cancel_left _ (Int.ne_of_gt h0), Int.bmod_eq_of_le (by omega) (by omega)]

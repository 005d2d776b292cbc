/-! looseness: what the search of the reference finds is what the pivots say -/
def nS (g : Nat → Nat → Bool) (k z : Nat) : Nat := if (9 ≤ ot (k / 4) (k % 4) ∨ z.testBit (ot (k / 4) (k % 4)) = true) ∧ g (k / 4) (k % 4) = true then z ||| 2 ^ (k / 4) else z
def nK (g : Nat → Nat → Bool) : Nat → Nat → Nat
  | 0, z => z
  | k + 1, z => nS g k (nK g k z)
def nR (g : Nat → Nat → Bool) : Nat → Nat
  | 0 => 0
  | r + 1 => nK g 36 (nR g r)
theorem or9 : ∀ z, z < 512 → ∀ c, c < 9 → (nI z ||| nI 1 <<< (nI c &&& 31)) = nI (z ||| 2 ^ c) ∧ z ||| 2 ^ c < 512 := by decide +kernel
theorem i32_or0 (z : Int32) : z ||| nI 0 = z := by rw [nI_0]; exact Int32.or_zero
theorem bit21 {z c : Nat} (hz : z < 512) (hc : c < 21) : (nI z >>> (nI c &&& 31) &&& nI 1) = nI 1 ↔ z.testBit c = true := by
  have key : ∀ c, c < 21 → 9 ≤ c → ∀ z, z < 512 → ((nI z >>> (nI c &&& 31) &&& nI 1) = nI 1 ↔ z.testBit c = true) := by decide +kernel
  by_cases h : c < 9
  · exact bit1 hz h
  · exact key c hc (by omega) z hz
theorem nS_lt {g : Nat → Nat → Bool} {k z : Nat} (hk : k < 36) (hz : z < 512) : nS g k z < 512 := by
  unfold nS
  split
  · exact (or9 z hz (k / 4) (by omega)).2
  · exact hz
theorem nK_lt {g : Nat → Nat → Bool} {z : Nat} (hz : z < 512) : ∀ {k : Nat}, k ≤ 36 → nK g k z < 512
  | 0, _ => hz
  | k + 1, h => nS_lt (by omega) (nK_lt hz (by omega))
theorem nR_lt {g : Nat → Nat → Bool} : ∀ r, nR g r < 512
  | 0 => (by decide : 0 < 512)
  | r + 1 => nK_lt (nR_lt r) (Nat.le_refl 36)
theorem lsS_n {cd : Nat → Nat → Int32} {k z : Nat} (hk : k < 36) (hz : z < 512) : lsS cd k (nI z) = nI (nS (fun c s => decide (0 < cd c s)) k z) := by
  have ho := ot_lt (c := k / 4) (s := k % 4) (by omega) (by omega)
  unfold lsS nS
  by_cases h : (9 ≤ ot (k / 4) (k % 4) ∨ z.testBit (ot (k / 4) (k % 4)) = true) ∧ 0 < cd (k / 4) (k % 4)
  · rw [if_pos ⟨h.1.imp id (bit21 hz ho).mpr, h.2⟩, if_pos ⟨h.1, by simpa using h.2⟩]
    exact (or9 z hz (k / 4) (by omega)).1
  · rw [if_neg (fun q => h ⟨q.1.imp id (bit21 hz ho).mp, q.2⟩), if_neg (fun q => h ⟨q.1, by simpa using q.2⟩), i32_or0]
theorem lsK_n {cd : Nat → Nat → Int32} {z : Nat} (hz : z < 512) : ∀ {k : Nat}, k ≤ 36 → lsK cd k (nI z) = nI (nK (fun c s => decide (0 < cd c s)) k z)
  | 0, _ => rfl
  | k + 1, h => by rw [lsK, lsK_n hz (by omega), lsS_n (by omega) (nK_lt hz (by omega)), nK]
theorem lsR_n {cd : Nat → Nat → Int32} : ∀ r, lsR cd r = nI (nR (fun c s => decide (0 < cd c s)) r)
  | 0 => rfl
  | r + 1 => by rw [lsR, lsR_n r, lsK_n (nR_lt r) (Nat.le_refl 36), nR]
theorem nS_ge {g : Nat → Nat → Bool} {k z j : Nat} (h : z.testBit j = true) : (nS g k z).testBit j = true := by
  unfold nS
  split
  · rw [Nat.testBit_or, h]; rfl
  · exact h
theorem nK_mono {g : Nat → Nat → Bool} {z j : Nat} {k : Nat} : ∀ d : Nat, (nK g k z).testBit j = true → (nK g (k + d) z).testBit j = true
  | 0, h => h
  | d + 1, h => nS_ge (nK_mono d h)
theorem nK_ge {g : Nat → Nat → Bool} {z j k : Nat} (h : z.testBit j = true) : (nK g k z).testBit j = true := by
  have := nK_mono (g := g) (z := z) (j := j) (k := 0) k h
  rwa [Nat.zero_add] at this
/-- nothing more is connected -/
def ncl (g : Nat → Nat → Bool) (z : Nat) : Prop := ∀ c, c < 9 → ∀ s, s < 4 → (9 ≤ ot c s ∨ z.testBit (ot c s) = true) → g c s = true → z.testBit c = true
theorem or_bit {z c : Nat} (h : z.testBit c = true) : z ||| 2 ^ c = z := by
  apply Nat.eq_of_testBit_eq
  intro j
  rw [Nat.testBit_or, Nat.testBit_two_pow]
  by_cases e : c = j
  · subst e; rw [h]; rfl
  · simp [e]
theorem ncl_fix {g : Nat → Nat → Bool} {z : Nat} (h : ncl g z) : ∀ {k : Nat}, k ≤ 36 → nK g k z = z
  | 0, _ => rfl
  | k + 1, hk => by
    rw [nK, ncl_fix h (by omega)]
    unfold nS
    split
    · next q => exact or_bit (h (k / 4) (by omega) (k % 4) (by omega) q.1 q.2)
    · rfl
theorem fix_ncl {g : Nat → Nat → Bool} {z : Nat} (h : nK g 36 z = z) : ncl g z := by
  intro c hc s hs h1 h2
  have e : nK g (4 * c + s) z = z := by
    apply Nat.eq_of_testBit_eq
    intro j
    cases hj : z.testBit j with
    | true => exact nK_ge hj
    | false =>
      cases hq : (nK g (4 * c + s) z).testBit j with
      | false => rfl
      | true =>
        have := nK_mono (g := g) (z := z) (j := j) (k := 4 * c + s) (36 - (4 * c + s)) hq
        rw [show 4 * c + s + (36 - (4 * c + s)) = 36 by omega, h, hj] at this
        cases this
  have h3 : (nK g (4 * c + s + 1) z).testBit c = true := by
    rw [nK, e]
    unfold nS
    rw [show (4 * c + s) / 4 = c by omega, show (4 * c + s) % 4 = s by omega, if_pos ⟨h1, h2⟩, Nat.testBit_or, Nat.testBit_two_pow]
    simp
  have := nK_mono (g := g) (z := z) (j := c) (k := 4 * c + s + 1) (36 - (4 * c + s + 1)) h3
  rw [show 4 * c + s + 1 + (36 - (4 * c + s + 1)) = 36 by omega, h] at this
  exact this
theorem cb_mono {S S' : Nat → Bool} (h : ∀ j, S j = true → S' j = true) : ∀ n, cb S n ≤ cb S' n
  | 0 => Nat.le_refl 0
  | n + 1 => by
    rw [cb, cb]
    have := cb_mono h n
    cases e : S n with
    | true => rw [h n e]; simp; exact this
    | false => simp; omega
theorem cb_strict {S S' : Nat → Bool} (h : ∀ j, S j = true → S' j = true) {i : Nat} (h1 : S i = false) (h2 : S' i = true) : ∀ {n : Nat}, i < n → cb S n < cb S' n
  | 0, hi => absurd hi (Nat.not_lt_zero i)
  | n + 1, hi => by
    rw [cb, cb]
    by_cases e : i = n
    · subst e
      rw [h1, h2]
      have := cb_mono h i
      simp; omega
    · have := cb_strict h h1 h2 (by omega : i < n)
      cases e : S n with
      | true => rw [h n e]; simp; exact this
      | false => simp; omega
theorem bit_hi {z j : Nat} (hz : z < 512) (hj : 9 ≤ j) : z.testBit j = false := Nat.testBit_lt_two_pow (Nat.lt_of_lt_of_le hz (Nat.pow_le_pow_right (by decide) hj : 2 ^ 9 ≤ 2 ^ j))
theorem nR_grow {g : Nat → Nat → Bool} : ∀ r, ncl g (nR g r) ∨ r ≤ cb (nR g r).testBit 9
  | 0 => Or.inr (Nat.zero_le _)
  | r + 1 => by
    rcases nR_grow (g := g) r with h | h
    · left
      rw [nR, ncl_fix h (Nat.le_refl 36)]
      exact h
    · by_cases e : nK g 36 (nR g r) = nR g r
      · left
        rw [nR, e]
        exact fix_ncl e
      · right
        obtain ⟨j, hj⟩ : ∃ j, ¬ (nK g 36 (nR g r)).testBit j = (nR g r).testBit j := Classical.byContradiction fun q => e (Nat.eq_of_testBit_eq fun j => Classical.byContradiction fun q2 => q ⟨j, q2⟩)
        have h1 : (nR g r).testBit j = false := by
          cases hb : (nR g r).testBit j with
          | false => rfl
          | true => rw [nK_ge hb, hb] at hj; exact absurd rfl hj
        have h2 : (nK g 36 (nR g r)).testBit j = true := by
          cases hb : (nK g 36 (nR g r)).testBit j with
          | true => rfl
          | false => rw [hb, h1] at hj; exact absurd rfl hj
        have h3 : j < 9 := Nat.lt_of_not_le fun q => by rw [bit_hi (nK_lt (nR_lt r) (Nat.le_refl 36)) q] at h2; cases h2
        have := cb_strict (S := (nR g r).testBit) (S' := (nK g 36 (nR g r)).testBit) (fun i hi => nK_ge hi) h1 h2 h3
        rw [nR]
        omega
theorem cb_full {S : Nat → Bool} : ∀ {n : Nat}, n ≤ cb S n → ∀ j, j < n → S j = true
  | 0, _, j, hj => absurd hj (Nat.not_lt_zero j)
  | n + 1, h, j, hj => by
    rw [cb] at h
    have h1 := cb_le S n
    have h2 : S n = true := by
      cases e : S n with
      | true => rfl
      | false => rw [e] at h; simp at h; omega
    rw [h2] at h
    simp at h
    by_cases e : j = n
    · rw [e]; exact h2
    · exact cb_full h j (by omega)
theorem full511 {z : Nat} (hz : z < 512) (h : ∀ j, j < 9 → z.testBit j = true) : z = 511 := by
  apply Nat.eq_of_testBit_eq
  intro j
  rw [show (511 : Nat) = 2 ^ 9 - 1 from rfl, Nat.testBit_two_pow_sub_one]
  by_cases hj : j < 9
  · rw [h j hj]; simp [hj]
  · rw [bit_hi hz (by omega)]; simp [hj]
theorem bits511 {j : Nat} (hj : j < 9) : (511 : Nat).testBit j = true := by
  rw [show (511 : Nat) = 2 ^ 9 - 1 from rfl, Nat.testBit_two_pow_sub_one]; simp [hj]
/-- either all cells are reached, or what is reached is closed -/
theorem nR_end (g : Nat → Nat → Bool) : nR g 9 = 511 ∨ ncl g (nR g 9) := by
  rcases nR_grow (g := g) 9 with h | h
  · exact Or.inr h
  · exact Or.inl (full511 (nR_lt 9) (cb_full h))
theorem opp9 : ∀ c, c < 9 → ∀ s, s < 4 → ot c s < 9 → ∃ s2, s2 < 4 ∧ ot (ot c s) s2 = c ∧ lk (ot c s) s2 = lk c s := by decide +kernel
/-- the matrix times a column, by the links -/
theorem AM_apply {now : Nat → Int32} {x : Nat → Int} {i : Nat} (hi : i < 9) : sm 9 (fun j => AM now i j * x j) = sm 4 (fun s => cdI now i s * (x i - (if ot i s < 9 then x (ot i s) else 0))) := by
  rw [sm_congr (g := fun j => sm 4 (fun s => amT now i j s * x j)) (fun j hj => by unfold AM; rw [if_pos ⟨hi, hj⟩, sm_mulr]), sm_swap]
  refine sm_congr (fun s _ => ?_)
  unfold amT
  rw [sm_congr (g := fun j => (if j = i then cdI now i s * x i else 0) + - (if ot i s = j then cdI now i s * x j else 0)) (fun j _ => by
    by_cases e1 : j = i
    · subst e1
      by_cases e2 : ot j s = j
      · simp only [e2, if_true]; rw [Int.sub_mul]; omega
      · simp only [e2, if_true, if_false]; rw [Int.sub_mul]; omega
    · by_cases e2 : ot i s = j
      · simp only [e1, e2, if_true, if_false]; rw [Int.sub_mul]; omega
      · simp only [e1, e2, if_false]; rw [Int.sub_mul]; omega)]
  rw [sm_add, sm_neg, sm_one hi (fun k _ e => if_neg e), if_pos rfl]
  by_cases ho : ot i s < 9
  · rw [if_pos ho, sm_one ho (fun k _ e => if_neg (fun q => e q.symm)), if_pos rfl, Int.mul_sub]; omega
  · rw [if_neg ho, sm_0 (fun k hk => if_neg (by omega)), Int.mul_sub]; omega
theorem sm_zero_each {f : Nat → Int} : ∀ {n : Nat}, (∀ k, k < n → 0 ≤ f k) → sm n f = 0 → ∀ k, k < n → f k = 0
  | 0, _, _, k, hk => absurd hk (Nat.not_lt_zero k)
  | n + 1, h, h0, k, hk => by
    rw [sm] at h0
    have h1 := sm_nn (n := n) (fun k hk => h k (by omega))
    have h2 := h n (by omega)
    by_cases e : k = n
    · rw [e]; omega
    · exact sm_zero_each (n := n) (fun k hk => h k (by omega)) (by omega) k (by omega)
section LO
variable {now : Nat → Int32}
abbrev gNow (now : Nat → Int32) : Nat → Nat → Bool := fun c s => decide (0 < now (lk c s))
theorem i32_pos {x : Int32} : 0 < x ↔ 0 < x.toInt := by
  rw [Int32.lt_iff_toInt_lt]
  have : (0 : Int32).toInt = 0 := by decide
  rw [this]
/-- a closed set that isn't all: the determinant is 0 -/
theorem loose_det (h : ∀ k, k < 24 → 0 ≤ (now k).toInt ∧ (now k).toInt ≤ 2) (hz : nR (gNow now) 9 ≠ 511) : pv (AM now) 9 = 0 := by
  have hcl := (nR_end (gNow now)).resolve_left hz
  obtain ⟨q, hq, hqb⟩ : ∃ q, q < 9 ∧ (nR (gNow now) 9).testBit q = false := Classical.byContradiction fun hn => hz (full511 (nR_lt 9) (fun j hj => by
    cases e : (nR (gNow now) 9).testBit j with
    | true => rfl
    | false => exact absurd ⟨j, hj, e⟩ hn))
  refine Classical.byContradiction fun hp => ?_
  have hx := row_zero (A := AM now) (k := 9) (Y := fun m => if (nR (gNow now) 9).testBit m = true then 0 else 1) (fun j hj => by
    rw [sm_congr (g := fun m => AM now j m * (if (nR (gNow now) 9).testBit m = true then 0 else 1)) (fun m _ => by rw [AM_sym now m j, Int.mul_comm]), AM_apply hj]
    refine sm_0 (fun s hs => ?_)
    have hc0 := (h _ (lk_lt hj hs)).1
    by_cases hjb : (nR (gNow now) 9).testBit j = true
    · rw [if_pos hjb]
      by_cases ho : ot j s < 9
      · rw [if_pos ho]
        by_cases hob : (nR (gNow now) 9).testBit (ot j s) = true
        · rw [if_pos hob]; simp
        · have : cdI now j s = 0 := by
            refine Classical.byContradiction fun hne => hob ?_
            obtain ⟨s2, hs2, e1, e2⟩ := opp9 j hj s hs ho
            refine hcl (ot j s) ho s2 hs2 (Or.inr (by rw [e1]; exact hjb)) ?_
            simp only [gNow, decide_eq_true_eq]
            rw [e2, i32_pos]
            unfold cdI at hne
            omega
          rw [this, Int.zero_mul]
      · rw [if_neg ho]; simp
    · rw [if_neg hjb]
      have hno : ∀ (q : 9 ≤ ot j s ∨ (nR (gNow now) 9).testBit (ot j s) = true), cdI now j s = 0 := fun q => by
        refine Classical.byContradiction fun hne => hjb (hcl j hj s hs q ?_)
        simp only [gNow, decide_eq_true_eq]
        rw [i32_pos]
        unfold cdI at hne
        omega
      by_cases ho : ot j s < 9
      · by_cases hob : (nR (gNow now) 9).testBit (ot j s) = true
        · rw [hno (Or.inr hob), Int.zero_mul]
        · rw [if_pos ho, if_neg hob]; simp
      · rw [hno (Or.inl (by omega)), Int.zero_mul]) hp hq
  have hx : (if (nR (gNow now) 9).testBit q = true then (0 : Int) else 1) = 0 := hx
  rw [hqb] at hx
  simp at hx
theorem max9 (x : Nat → Int) : ∀ n : Nat, ∃ i, i < n + 1 ∧ ∀ j, j < n + 1 → x j ≤ x i
  | 0 => ⟨0, by decide, fun j hj => by rw [show j = 0 by omega]; exact Int.le_refl _⟩
  | n + 1 => by
    obtain ⟨i, hi, h⟩ := max9 x n
    by_cases e : x i ≤ x (n + 1)
    · exact ⟨n + 1, by omega, fun j hj => by
        by_cases q : j = n + 1
        · rw [q]; exact Int.le_refl _
        · exact Int.le_trans (h j (by omega)) e⟩
    · exact ⟨i, by omega, fun j hj => by
        by_cases q : j = n + 1
        · rw [q]; omega
        · exact h j (by omega)⟩
/-- where all cells are reached no pivot is 0 -/
theorem tight_piv (h : ∀ k, k < 24 → 0 ≤ (now k).toInt ∧ (now k).toInt ≤ 2) (hz : nR (gNow now) 9 = 511) : ∀ k, k < 9 → pv (AM now) (k + 1) ≠ 0 := by
  have hB := AM_bal h
  intro k
  induction k using Nat.strongRecOn with
  | _ k ih =>
    intro hk hp
    have hG := Gd_all hB (by omega : k ≤ 9) (fun j hj => ih j hj (by omega))
    have hkk : Lm 9 (AM now) k k k = 0 := by rw [Lm_piv hB.1 hk (by have := hG.1; omega), hp]
    have hrow : ∀ j, j < 9 → Lm 9 (AM now) k k j = 0 := fun j hj => by
      by_cases e : j = k
      · rw [e]; exact hkk
      · have h1 := Gd_off hG hk hj e
        have h2 := hG.2.1 k j hk hj e
        omega
    obtain ⟨i, hi, hmax⟩ := max9 (fun m => Tm (AM now) k k m) 8
    have hmu : 0 < Tm (AM now) k k i := by
      have h1 := hmax k (by omega)
      have h2 : Tm (AM now) k k k = pv (AM now) k := by unfold Tm; rw [if_neg (by omega), if_pos rfl]
      have h3 := hG.1
      have h1 : Tm (AM now) k k k ≤ Tm (AM now) k k i := h1
      omega
    have heq : ∀ c, c < 9 → Tm (AM now) k k c = Tm (AM now) k k i → ∀ s, s < 4 → 0 < cdI now c s → ot c s < 9 ∧ Tm (AM now) k k (ot c s) = Tm (AM now) k k i := by
      intro c hc hcm s hs hcd
      have h1 : sm 9 (fun j => AM now c j * Tm (AM now) k k j) = 0 := by
        rw [← hrow c hc]
        unfold Lm
        exact sm_congr (fun m _ => by rw [AM_sym now c m, Int.mul_comm])
      rw [AM_apply hc] at h1
      have hle : ∀ s, s < 4 → (if ot c s < 9 then Tm (AM now) k k (ot c s) else 0) ≤ Tm (AM now) k k c := fun s hs => by
        rw [hcm]
        split
        · next q => exact hmax _ q
        · omega
      have h2 := sm_zero_each (fun s hs => Int.mul_nonneg (h _ (lk_lt hc hs)).1 (by have := hle s hs; omega)) h1 s hs
      rcases Int.mul_eq_zero.mp h2 with h3 | h3
      · have h3 : cdI now c s = 0 := h3
        omega
      · have h3 : Tm (AM now) k k c - (if ot c s < 9 then Tm (AM now) k k (ot c s) else 0) = 0 := h3
        by_cases ho : ot c s < 9
        · rw [if_pos ho] at h3
          exact ⟨ho, by omega⟩
        · rw [if_neg ho] at h3
          omega
    have hinv : ∀ z, (∀ c, c < 9 → Tm (AM now) k k c = Tm (AM now) k k i → z.testBit c = false) → ∀ m, m ≤ 36 → ∀ c, c < 9 → Tm (AM now) k k c = Tm (AM now) k k i → (nK (gNow now) m z).testBit c = false := by
      intro z hz0 m
      induction m with
      | zero => exact fun _ => hz0
      | succ m im =>
        intro hm c hc hcm
        have i1 := im (by omega)
        rw [nK]
        unfold nS
        split
        · next q =>
          rw [Nat.testBit_or, Nat.testBit_two_pow, i1 c hc hcm]
          by_cases e : m / 4 = c
          · exfalso
            rw [e] at q
            have hcd : 0 < cdI now c (m % 4) := by
              have := q.2
              simp only [gNow, decide_eq_true_eq] at this
              exact i32_pos.mp this
            obtain ⟨ho, hom⟩ := heq c hc hcm (m % 4) (by omega) hcd
            rcases q.1 with q1 | q1
            · omega
            · rw [i1 _ ho hom] at q1; cases q1
          · simp [e]
        · exact i1 c hc hcm
    have hall : ∀ r, ∀ c, c < 9 → Tm (AM now) k k c = Tm (AM now) k k i → (nR (gNow now) r).testBit c = false := by
      intro r
      induction r with
      | zero => intro c _ _; exact Nat.zero_testBit c
      | succ r ir => exact hinv _ ir 36 (Nat.le_refl 36)
    have := hall 9 i (by omega) rfl
    rw [hz, bits511 (by omega)] at this
    cases this
end LO

/-! the matrix of the balance equations, as whole numbers -/
theorem ofI_32 (x : Int32) : x.toInt64 = Int64.ofInt x.toInt := by
  apply Int64.toInt_inj.mp
  have h1 := Int32.toInt_lt x
  have h2 := Int32.le_toInt x
  rw [Int32.toInt_toInt64, Int64.toInt_ofInt_of_le (by omega) (by omega)]
def cdI (now : Nat → Int32) (c s : Nat) : Int := (now (lk c s)).toInt
def amT (now : Nat → Int32) (c j s : Nat) : Int := (if j = c then cdI now c s else 0) - (if ot c s = j then cdI now c s else 0)
def AM (now : Nat → Int32) (c j : Nat) : Int := if c < 9 ∧ j < 9 then sm 4 (amT now c j) else 0
theorem ot_ne {c s : Nat} (hc : c < 9) (hs : s < 4) : ot c s ≠ c := by unfold ot; (repeat' split) <;> omega
theorem lmR_sm {now : Nat → Int32} {c : Nat} (hc : c < 9) : ∀ {s : Nat}, s ≤ 4 → ∀ {j : Nat}, j < 9 → lmR now c s j = Int64.ofInt (sm s (amT now c j))
  | 0, _, _, _ => ofI_0.symm
  | s + 1, hs, j, hj => by
    have hne := ot_ne hc (by omega : s < 4)
    have ih : ∀ {j : Nat}, j < 9 → lmR now c s j = Int64.ofInt (sm s (amT now c j)) := fun {j} hj => lmR_sm hc (by omega) hj
    have eb : (now (lk c s)).toInt64 = Int64.ofInt (cdI now c s) := ofI_32 _
    rw [lmR, sm, Int64.ofInt_add]
    unfold amT
    by_cases ho : ot c s < 9
    · rw [if_pos ho]
      unfold vp_updL
      by_cases e1 : j = ot c s
      · rw [if_pos e1, if_neg hne, if_neg (by omega : ¬ j = c), if_pos e1.symm, ← e1, ih hj, eb, Int.zero_sub, ofInt_neg64, Int64.sub_eq_add_neg]
        rfl
      · rw [if_neg e1, if_neg (fun q => e1 q.symm : ¬ ot c s = j)]
        by_cases e2 : j = c
        · rw [if_pos e2, if_pos e2, ih hc, eb, Int.sub_zero, e2]
          rfl
        · rw [if_neg e2, if_neg e2, ih hj, Int.sub_zero, ofI_0, Int64.add_zero]
          rfl
    · rw [if_neg ho]
      unfold vp_updL
      rw [if_neg (by omega : ¬ ot c s = j)]
      by_cases e2 : j = c
      · rw [if_pos e2, if_pos e2, ih hc, eb, Int.sub_zero, e2]
        rfl
      · rw [if_neg e2, if_neg e2, ih hj, Int.sub_zero, ofI_0, Int64.add_zero]
        rfl
theorem lmR_A {now : Nat → Int32} {c j : Nat} (hc : c < 9) (hj : j < 9) : lmR now c 4 j = Int64.ofInt (AM now c j) := by
  rw [lmR_sm hc (Nat.le_refl 4) hj]
  unfold AM
  rw [if_pos ⟨hc, hj⟩]
/-- the links between two cells, from either side -/
def lks (c j : Nat) : List Nat := (List.range 4).filterMap (fun s => if ot c s = j then some (lk c s) else none)
theorem lks_sym : ∀ c, c < 9 → ∀ j, j < 9 → lks c j = lks j c := by decide +kernel
def lsm (f : Nat → Int) : List Nat → Int
  | [] => 0
  | a :: l => lsm f l + f a
theorem lks_sm (f : Nat → Int) (c j : Nat) : sm 4 (fun s => if ot c s = j then f (lk c s) else 0) = lsm f (lks c j) := by
  unfold lks
  rw [show List.range 4 = [0, 1, 2, 3] from rfl]
  simp only [sm, List.filterMap_cons, List.filterMap_nil]
  by_cases h0 : ot c 0 = j <;> by_cases h1 : ot c 1 = j <;> by_cases h2 : ot c 2 = j <;> by_cases h3 : ot c 3 = j <;> simp only [h0, h1, h2, h3, if_true, if_false, lsm] <;> omega
theorem AM_sub {now : Nat → Int32} {c j : Nat} (hc : c < 9) (hj : j < 9) : AM now c j = (if j = c then sm 4 (cdI now c) else 0) - lsm (fun k => (now k).toInt) (lks c j) := by
  unfold AM
  rw [if_pos ⟨hc, hj⟩, ← lks_sm]
  unfold amT cdI
  by_cases e : j = c
  · simp only [e, if_true]
    simp only [sm]
    omega
  · simp only [e, if_false]
    simp only [sm]
    omega
theorem AM_sym (now : Nat → Int32) (c j : Nat) : AM now c j = AM now j c := by
  by_cases h : c < 9 ∧ j < 9
  · rw [AM_sub h.1 h.2, AM_sub h.2 h.1, lks_sym c h.1 j h.2]
    by_cases e : j = c
    · rw [e]
    · rw [if_neg e, if_neg (fun q => e q.symm)]
  · unfold AM
    rw [if_neg h, if_neg (fun q => h ⟨q.2, q.1⟩)]
theorem AM_bal {now : Nat → Int32} (h : ∀ k, k < 24 → 0 ≤ (now k).toInt ∧ (now k).toInt ≤ 2) : Bal 9 (AM now) := by
  have hcd : ∀ {c s : Nat}, c < 9 → s < 4 → 0 ≤ cdI now c s ∧ cdI now c s ≤ 2 := fun hc hs => h _ (lk_lt hc hs)
  refine ⟨AM_sym now, fun c j hc hj e => ?_, fun c hc => ?_, fun c hc => ?_⟩
  · unfold AM
    rw [if_pos ⟨hc, hj⟩]
    have : 0 ≤ sm 4 (fun s => - amT now c j s) := sm_nn (fun s hs => by
      unfold amT
      rw [if_neg e]
      have := hcd hc hs
      split <;> omega)
    rw [sm_neg] at this
    omega
  · rw [sm_congr (g := fun j => sm 4 (amT now c j)) (fun j hj => by unfold AM; rw [if_pos ⟨hc, hj⟩]), sm_swap]
    refine sm_nn (fun s hs => ?_)
    unfold amT
    have h2 := hcd hc hs
    rw [show (fun j => (if j = c then cdI now c s else 0) - (if ot c s = j then cdI now c s else 0)) = (fun j => (if j = c then cdI now c s else 0) + - (if ot c s = j then cdI now c s else 0)) from funext fun j => Int.sub_eq_add_neg, sm_add, sm_neg, sm_one hc (fun k _ e => if_neg e), if_pos rfl]
    by_cases ho : ot c s < 9
    · rw [sm_one ho (fun k _ e => if_neg (fun q => e q.symm)), if_pos rfl]; omega
    · rw [sm_0 (fun k hk => if_neg (by omega))]; omega
  · unfold AM
    rw [if_pos ⟨hc, hc⟩]
    have h3 : ∀ s, s < 4 → amT now c c s ≤ 2 := fun s hs => by
      unfold amT
      rw [if_pos rfl, if_neg (ot_ne hc hs)]
      have := hcd hc hs
      omega
    have h0 := h3 0 (by decide)
    have h1 := h3 1 (by decide)
    have h2 := h3 2 (by decide)
    have h4 := h3 3 (by decide)
    simp only [sm]
    omega

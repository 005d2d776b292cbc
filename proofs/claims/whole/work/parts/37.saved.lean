/-! the class: saved states -/
theorem cpy_i {f g : Nat → Int32} {n j : Nat} (h : j < n) : va_cpy f g 0 0 n j = f j := by
  unfold va_cpy; rw [if_pos ⟨Nat.zero_le _, by omega⟩]; congr 1; omega
theorem cpy_d {f g : Nat → UInt64} {n j : Nat} (h : j < n) : va_cpy f g 0 0 n j = f j := by
  unfold va_cpy; rw [if_pos ⟨Nat.zero_le _, by omega⟩]; congr 1; omega
/-- block b has become a copy of block q, all else is as it was -/
def cpB (b q : Nat) (u u9 : CS) : Prop := (∀ k, k < 72 → nwB u9 b k = nwB u q k) ∧ (∀ j, j < 9 → u9.2.1 (17 + 8 * b + 7) j = u.2.1 (17 + 8 * q + 7) j) ∧ (∀ c, c < 5 → c ≠ b → nwB u9 c = nwB u c ∧ u9.2.1 (17 + 8 * c + 7) = u.2.1 (17 + 8 * c + 7)) ∧ u9.2.2 = u.2.2
theorem nwB_congr {u u1 : CS} {b : Nat} (h : ∀ k, 17 + 8 * b < k → k < 17 + 8 * b + 7 → u1.1 k = u.1 k) : nwB u1 b = nwB u b := by
  unfold nwB
  rw [h (17 + 8 * b + 1) (by omega) (by omega), h (17 + 8 * b + 2) (by omega) (by omega), h (17 + 8 * b + 3) (by omega) (by omega), h (17 + 8 * b + 4) (by omega) (by omega), h (17 + 8 * b + 5) (by omega) (by omega), h (17 + 8 * b + 6) (by omega) (by omega)]
theorem cpB_mk {u u9 : CS} {b q : Nat} (h1 : ∀ j, j < 24 → u9.1 (17 + 8 * b + 1) j = u.1 (17 + 8 * q + 1) j) (h2 : ∀ j, j < 12 → u9.1 (17 + 8 * b + 2) j = u.1 (17 + 8 * q + 2) j) (h3 : ∀ j, j < 9 → u9.1 (17 + 8 * b + 3) j = u.1 (17 + 8 * q + 3) j) (h4 : ∀ j, j < 9 → u9.1 (17 + 8 * b + 4) j = u.1 (17 + 8 * q + 4) j) (h5 : ∀ j, j < 9 → u9.1 (17 + 8 * b + 5) j = u.1 (17 + 8 * q + 5) j) (h6 : ∀ j, j < 9 → u9.1 (17 + 8 * b + 6) j = u.1 (17 + 8 * q + 6) j) (h7 : ∀ j, j < 9 → u9.2.1 (17 + 8 * b + 7) j = u.2.1 (17 + 8 * q + 7) j)
    (hi : ∀ k, (k ≤ 17 + 8 * b ∨ 17 + 8 * b + 7 ≤ k) → u9.1 k = u.1 k) (hd : ∀ k, k ≠ 17 + 8 * b + 7 → u9.2.1 k = u.2.1 k) (hl : u9.2.2 = u.2.2) : cpB b q u u9 := by
  refine ⟨fun k hk => ?_, h7, fun c hc e => ⟨nwB_congr (fun k a b => hi k (by omega)), hd _ (by omega)⟩, hl⟩
  unfold nwB
  (repeat' split)
  · exact h1 k (by omega)
  · exact h2 _ (by omega)
  · exact h3 _ (by omega)
  · exact h4 _ (by omega)
  · exact h5 _ (by omega)
  · exact h6 _ (by omega)
/-- the row of saved places when the first is moved to the end -/
def rotS (n : Nat) (sv : Nat → Nat) : Nat → Nat := fun j => if n = 4 then (if j < 3 then sv (j + 1) else if j = 3 then sv 0 else sv j) else sv j
def svOk (sv : Nat → Nat) : Prop := (∀ j, j < 4 → 1 ≤ sv j ∧ sv j < 5) ∧ ∀ i, i < 4 → ∀ j, j < 4 → sv i = sv j → i = j
theorem rotS_ok {n : Nat} {sv : Nat → Nat} (h : svOk sv) : svOk (rotS n sv) := by
  unfold rotS
  by_cases e : n = 4
  · refine ⟨fun j hj => ?_, fun i hi j hj q => ?_⟩
    · simp only [e, if_true]
      (repeat' split)
      · exact h.1 _ (by omega)
      · exact h.1 _ (by omega)
      · exact h.1 _ hj
    · simp only [e, if_true] at q
      revert q
      (repeat' split) <;> intro q
      · have := h.2 _ (by omega) _ (by omega) q; omega
      · have := h.2 _ (by omega) _ (by omega) q; omega
      · omega
      · have := h.2 _ (by omega) _ (by omega) q; omega
      · omega
      · omega
      · omega
      · omega
      · omega
  · simp only [e, if_false]; exact h
theorem rotS_lt {n j : Nat} {sv : Nat → Nat} (h : j < kpM n) (hn : n ≤ 4) : rotS n sv j = sv (j + kpD n) := by
  unfold rotS kpD kpM at *
  by_cases e : n = 4
  · rw [if_pos e] at h; rw [if_pos e, if_pos h, if_pos e]
  · rw [if_neg e, if_neg e, Nat.add_zero]
theorem hd_X1_copyFrom : yX1_copyFrom.cls = RX1 ∧ yX1_copyFrom.cls ≠ "java/lang/invoke/MethodHandle" ∧ yX1_copyFrom.cls ≠ "java/lang/invoke/VarHandle" ∧ (parseMethodDescriptor yX1_copyFrom.desc).map (fun d => d.parameters.length) = some 1 := by decide +kernel
set_option maxHeartbeats 4000000 in
set_option maxRecDepth 100000 in
/-- copyFrom(other) -/
theorem c_X1_copyFrom (l : Launch) (dd : va_G) (cy : Nat → ClassId) (ad : Nat → Nat) (X : va_W) (tt : Nat × Nat) (u : CS) (sz : Nat) (b0 q0 : Nat) (hb0 : b0 < 5) (hq0 : q0 < 5) (hne : b0 ≠ q0) : Met l yX1_copyFrom wsX1_copyFrom ({ frames := 1, cells := 0, slots := 0, locals := 43 }) (va_Pc [.ref (ad (17 + 8 * b0)), .ref (ad (17 + 8 * q0))] (wrC dd cy tt (wC cy ad u ++ X) sz)) (va_Qv (fun u9 => cpB b0 q0 u u9) (wB dd cy (fun u9 : CS => wC cy ad u9 ++ X) (va_A (wC cy ad u ++ X) sz)) (va_A (wC cy ad u ++ X) sz)) 0 0 (va_A (wC cy ad u ++ X) sz) := by
  refine Met.ofW (cc := cX1_copyFrom) (maxL := 2) (ret := none) (by decide) rfl ?_
  intro p e s m args below meth c s₁ B hml hv
  obtain ⟨rfl, hsz, hP, hK, hD0, hSt⟩ := hv
  have hx := B.exec
  have hb := B.bytes
  have hr := B.returns
  have hts := atoms_spec (ws := wsX1_copyFrom) B.pre
  have hown : s.vm.findClass RX1 = some m.cls := findClass_of_methodNamed B.named
  have hlocks := B.notSynchronized
  subst hsz
  have hD := hD0.self (sz := s.heap.size)
  generalize hAe : va_A (wC cy ad u ++ X) s.heap.size = A at hD hSt ⊢
  have hA : ∀ q : Nat, s.heap.size ≤ q → A q := fun q h => by rw [← hAe]; exact Or.inr h
  have hS : va_S A s.heap s.heap [] := va_S.rf
  have hl := lv_entry ([.ref (ad (17 + 8 * b0)), .ref (ad (17 + 8 * q0))]) (n := 2) (Nat.le_of_ble_eq_true rfl)
  rw [lg_entry_eq]
  generalize (lg_sl ([.ref (ad (17 + 8 * b0)), .ref (ad (17 + 8 * q0))]) ++ List.replicate (2 - (lg_sl ([.ref (ad (17 + 8 * b0)), .ref (ad (17 + 8 * q0))])).length) Slot.unset).toArray = ls at hl ⊢
  have hl : lv_has ls 2 [(0, .ref (ad (17 + 8 * b0))), (1, .ref (ad (17 + 8 * q0)))] := hl
  refine lv_aload_n hx hb dX1_copyFrom_0 rfl (lv_at hl 1 rfl) ?_
  refine va_get (D := dd) (ci := 3) (v := .ref (ad (17 + 8 * q0 + 1))) (C := RX1) (T := TX1) (N := 7) hx hb hts (fun _ h9 => List.mem_cons_of_mem _ (List.mem_append_right _ h9)) hown hK hP (17 + 8 * q0) (wC_st cy ad u X (b := q0) (by omega)) rfl 0 (by decide) (hts (Cond.fieldLink RX1 9 "HeadGrid$State" "conductances" "[I") (List.mem_of_getElem? (i := 1) rfl)) (fun _ h9 => h9) rfl dX1_copyFrom_1 ?_
  refine lv_iconst (v := nI 0) hx hb dX1_copyFrom_4 (by decide) ?_
  refine lv_aload_n hx hb dX1_copyFrom_5 rfl (lv_at hl 0 rfl) ?_
  refine va_get (D := dd) (ci := 3) (v := .ref (ad (17 + 8 * b0 + 1))) (C := RX1) (T := TX1) (N := 7) hx hb hts (fun _ h9 => List.mem_cons_of_mem _ (List.mem_append_right _ h9)) hown hK hP (17 + 8 * b0) (wC_st cy ad u X (b := b0) (by omega)) rfl 0 (by decide) (hts (Cond.fieldLink RX1 9 "HeadGrid$State" "conductances" "[I") (List.mem_of_getElem? (i := 1) rfl)) (fun _ h9 => h9) rfl dX1_copyFrom_6 ?_
  refine lv_iconst (v := nI 0) hx hb dX1_copyFrom_9 (by decide) ?_
  refine lv_bipush (v := nI 24) hx hb dX1_copyFrom_10 (by decide) ?_
  refine va_copyi hx hb (hml.trans hl.1.symm) hown (hts (Cond.methodLink RX1 40 arraycopyName) (List.mem_of_getElem? (i := 2) rfl)) (hts (Cond.native arraycopyName) (List.mem_of_getElem? (i := 3) rfl)) (hts (Cond.static arraycopyName) (List.mem_of_getElem? (i := 4) rfl)) (hts (Cond.initialized "java/lang/System") (List.mem_of_getElem? (i := 5) rfl)) hK hP hD hS (17 + 8 * q0 + 1) (17 + 8 * b0 + 1) 0 0 (wC_a0 cy ad u X (b := q0) (by omega)) (wC_a0 cy ad u X (b := b0) (by omega)) rfl rfl rfl (by decide) (by decide) (by decide) (by decide) (by decide) (fun _ _ => rfl) (Nat.le_of_ble_eq_true rfl) (by decide) dX1_copyFrom_12 (fun H locs hP hD hS => ?_)
  rw [show (nI 0).toNatClampNeg = 0 by decide, show (nI 24).toNatClampNeg = 24 by decide, wC_sa0 cy ad u X (b := b0) (by omega) _] at hP hD
  obtain ⟨us1, hus1⟩ : ∃ z9z : CS, z9z = (va_up u.1 (17 + 8 * b0 + 1) (va_cpy (u.1 (17 + 8 * q0 + 1)) (u.1 (17 + 8 * b0 + 1)) 0 0 24), u.2) := ⟨_, rfl⟩
  rw [← hus1] at hP hD
  have pus1_s : us1.1 (17 + 8 * b0 + 1) = (va_cpy (u.1 (17 + 8 * q0 + 1)) (u.1 (17 + 8 * b0 + 1)) 0 0 24) := by rw [hus1]; first | exact va_up_s _ _ _ | rfl
  have pus1_o : ∀ j9, j9 ≠ 17 + 8 * b0 + 1 → us1.1 j9 = u.1 j9 := fun j9 h9 => by rw [hus1]; exact va_up_n h9
  have pus1_21 : us1.2.1 = u.2.1 := by rw [hus1]
  have pus1_221 : us1.2.2.1 = u.2.2.1 := by rw [hus1]
  have pus1_222 : us1.2.2.2 = u.2.2.2 := by rw [hus1]
  refine lv_aload_n hx hb dX1_copyFrom_15 rfl (lv_at hl 1 rfl) ?_
  refine va_get (D := dd) (ci := 3) (v := .ref (ad (17 + 8 * q0 + 2))) (C := RX1) (T := TX1) (N := 7) hx hb hts (fun _ h9 => List.mem_cons_of_mem _ (List.mem_append_right _ h9)) hown hK hP (17 + 8 * q0) (wC_st cy ad us1 X (b := q0) (by omega)) rfl 1 (by decide) (hts (Cond.fieldLink RX1 21 "HeadGrid$State" "edgeHeads" "[I") (List.mem_of_getElem? (i := 6) rfl)) (fun _ h9 => h9) rfl dX1_copyFrom_16 ?_
  refine lv_iconst (v := nI 0) hx hb dX1_copyFrom_19 (by decide) ?_
  refine lv_aload_n hx hb dX1_copyFrom_20 rfl (lv_at hl 0 rfl) ?_
  refine va_get (D := dd) (ci := 3) (v := .ref (ad (17 + 8 * b0 + 2))) (C := RX1) (T := TX1) (N := 7) hx hb hts (fun _ h9 => List.mem_cons_of_mem _ (List.mem_append_right _ h9)) hown hK hP (17 + 8 * b0) (wC_st cy ad us1 X (b := b0) (by omega)) rfl 1 (by decide) (hts (Cond.fieldLink RX1 21 "HeadGrid$State" "edgeHeads" "[I") (List.mem_of_getElem? (i := 6) rfl)) (fun _ h9 => h9) rfl dX1_copyFrom_21 ?_
  refine lv_iconst (v := nI 0) hx hb dX1_copyFrom_24 (by decide) ?_
  refine lv_bipush (v := nI 12) hx hb dX1_copyFrom_25 (by decide) ?_
  refine va_copyi hx hb (hml.trans hl.1.symm) hown (hts (Cond.methodLink RX1 40 arraycopyName) (List.mem_of_getElem? (i := 2) rfl)) (hts (Cond.native arraycopyName) (List.mem_of_getElem? (i := 3) rfl)) (hts (Cond.static arraycopyName) (List.mem_of_getElem? (i := 4) rfl)) (hts (Cond.initialized "java/lang/System") (List.mem_of_getElem? (i := 5) rfl)) hK hP hD hS (17 + 8 * q0 + 2) (17 + 8 * b0 + 2) 0 0 (wC_a1 cy ad us1 X (b := q0) (by omega)) (wC_a1 cy ad us1 X (b := b0) (by omega)) rfl rfl rfl (by decide) (by decide) (by decide) (by decide) (by decide) (fun _ _ => rfl) (Nat.le_of_ble_eq_true rfl) (by decide) dX1_copyFrom_27 (fun H locs hP hD hS => ?_)
  rw [show (nI 0).toNatClampNeg = 0 by decide, show (nI 12).toNatClampNeg = 12 by decide, wC_sa1 cy ad us1 X (b := b0) (by omega) _] at hP hD
  obtain ⟨us2, hus2⟩ : ∃ z9z : CS, z9z = (va_up us1.1 (17 + 8 * b0 + 2) (va_cpy (us1.1 (17 + 8 * q0 + 2)) (us1.1 (17 + 8 * b0 + 2)) 0 0 12), us1.2) := ⟨_, rfl⟩
  rw [← hus2] at hP hD
  have pus2_s : us2.1 (17 + 8 * b0 + 2) = (va_cpy (us1.1 (17 + 8 * q0 + 2)) (us1.1 (17 + 8 * b0 + 2)) 0 0 12) := by rw [hus2]; first | exact va_up_s _ _ _ | rfl
  have pus2_o : ∀ j9, j9 ≠ 17 + 8 * b0 + 2 → us2.1 j9 = us1.1 j9 := fun j9 h9 => by rw [hus2]; exact va_up_n h9
  have pus2_21 : us2.2.1 = us1.2.1 := by rw [hus2]
  have pus2_221 : us2.2.2.1 = us1.2.2.1 := by rw [hus2]
  have pus2_222 : us2.2.2.2 = us1.2.2.2 := by rw [hus2]
  refine lv_aload_n hx hb dX1_copyFrom_30 rfl (lv_at hl 1 rfl) ?_
  refine va_get (D := dd) (ci := 3) (v := .ref (ad (17 + 8 * q0 + 3))) (C := RX1) (T := TX1) (N := 7) hx hb hts (fun _ h9 => List.mem_cons_of_mem _ (List.mem_append_right _ h9)) hown hK hP (17 + 8 * q0) (wC_st cy ad us2 X (b := q0) (by omega)) rfl 2 (by decide) (hts (Cond.fieldLink RX1 24 "HeadGrid$State" "recharges" "[I") (List.mem_of_getElem? (i := 7) rfl)) (fun _ h9 => h9) rfl dX1_copyFrom_31 ?_
  refine lv_iconst (v := nI 0) hx hb dX1_copyFrom_34 (by decide) ?_
  refine lv_aload_n hx hb dX1_copyFrom_35 rfl (lv_at hl 0 rfl) ?_
  refine va_get (D := dd) (ci := 3) (v := .ref (ad (17 + 8 * b0 + 3))) (C := RX1) (T := TX1) (N := 7) hx hb hts (fun _ h9 => List.mem_cons_of_mem _ (List.mem_append_right _ h9)) hown hK hP (17 + 8 * b0) (wC_st cy ad us2 X (b := b0) (by omega)) rfl 2 (by decide) (hts (Cond.fieldLink RX1 24 "HeadGrid$State" "recharges" "[I") (List.mem_of_getElem? (i := 7) rfl)) (fun _ h9 => h9) rfl dX1_copyFrom_36 ?_
  refine lv_iconst (v := nI 0) hx hb dX1_copyFrom_39 (by decide) ?_
  refine lv_bipush (v := nI 9) hx hb dX1_copyFrom_40 (by decide) ?_
  refine va_copyi hx hb (hml.trans hl.1.symm) hown (hts (Cond.methodLink RX1 40 arraycopyName) (List.mem_of_getElem? (i := 2) rfl)) (hts (Cond.native arraycopyName) (List.mem_of_getElem? (i := 3) rfl)) (hts (Cond.static arraycopyName) (List.mem_of_getElem? (i := 4) rfl)) (hts (Cond.initialized "java/lang/System") (List.mem_of_getElem? (i := 5) rfl)) hK hP hD hS (17 + 8 * q0 + 3) (17 + 8 * b0 + 3) 0 0 (wC_a2 cy ad us2 X (b := q0) (by omega)) (wC_a2 cy ad us2 X (b := b0) (by omega)) rfl rfl rfl (by decide) (by decide) (by decide) (by decide) (by decide) (fun _ _ => rfl) (Nat.le_of_ble_eq_true rfl) (by decide) dX1_copyFrom_42 (fun H locs hP hD hS => ?_)
  rw [show (nI 0).toNatClampNeg = 0 by decide, show (nI 9).toNatClampNeg = 9 by decide, wC_sa2 cy ad us2 X (b := b0) (by omega) _] at hP hD
  obtain ⟨us3, hus3⟩ : ∃ z9z : CS, z9z = (va_up us2.1 (17 + 8 * b0 + 3) (va_cpy (us2.1 (17 + 8 * q0 + 3)) (us2.1 (17 + 8 * b0 + 3)) 0 0 9), us2.2) := ⟨_, rfl⟩
  rw [← hus3] at hP hD
  have pus3_s : us3.1 (17 + 8 * b0 + 3) = (va_cpy (us2.1 (17 + 8 * q0 + 3)) (us2.1 (17 + 8 * b0 + 3)) 0 0 9) := by rw [hus3]; first | exact va_up_s _ _ _ | rfl
  have pus3_o : ∀ j9, j9 ≠ 17 + 8 * b0 + 3 → us3.1 j9 = us2.1 j9 := fun j9 h9 => by rw [hus3]; exact va_up_n h9
  have pus3_21 : us3.2.1 = us2.2.1 := by rw [hus3]
  have pus3_221 : us3.2.2.1 = us2.2.2.1 := by rw [hus3]
  have pus3_222 : us3.2.2.2 = us2.2.2.2 := by rw [hus3]
  refine lv_aload_n hx hb dX1_copyFrom_45 rfl (lv_at hl 1 rfl) ?_
  refine va_get (D := dd) (ci := 3) (v := .ref (ad (17 + 8 * q0 + 4))) (C := RX1) (T := TX1) (N := 7) hx hb hts (fun _ h9 => List.mem_cons_of_mem _ (List.mem_append_right _ h9)) hown hK hP (17 + 8 * q0) (wC_st cy ad us3 X (b := q0) (by omega)) rfl 3 (by decide) (hts (Cond.fieldLink RX1 27 "HeadGrid$State" "rates" "[I") (List.mem_of_getElem? (i := 8) rfl)) (fun _ h9 => h9) rfl dX1_copyFrom_46 ?_
  refine lv_iconst (v := nI 0) hx hb dX1_copyFrom_49 (by decide) ?_
  refine lv_aload_n hx hb dX1_copyFrom_50 rfl (lv_at hl 0 rfl) ?_
  refine va_get (D := dd) (ci := 3) (v := .ref (ad (17 + 8 * b0 + 4))) (C := RX1) (T := TX1) (N := 7) hx hb hts (fun _ h9 => List.mem_cons_of_mem _ (List.mem_append_right _ h9)) hown hK hP (17 + 8 * b0) (wC_st cy ad us3 X (b := b0) (by omega)) rfl 3 (by decide) (hts (Cond.fieldLink RX1 27 "HeadGrid$State" "rates" "[I") (List.mem_of_getElem? (i := 8) rfl)) (fun _ h9 => h9) rfl dX1_copyFrom_51 ?_
  refine lv_iconst (v := nI 0) hx hb dX1_copyFrom_54 (by decide) ?_
  refine lv_bipush (v := nI 9) hx hb dX1_copyFrom_55 (by decide) ?_
  refine va_copyi hx hb (hml.trans hl.1.symm) hown (hts (Cond.methodLink RX1 40 arraycopyName) (List.mem_of_getElem? (i := 2) rfl)) (hts (Cond.native arraycopyName) (List.mem_of_getElem? (i := 3) rfl)) (hts (Cond.static arraycopyName) (List.mem_of_getElem? (i := 4) rfl)) (hts (Cond.initialized "java/lang/System") (List.mem_of_getElem? (i := 5) rfl)) hK hP hD hS (17 + 8 * q0 + 4) (17 + 8 * b0 + 4) 0 0 (wC_a3 cy ad us3 X (b := q0) (by omega)) (wC_a3 cy ad us3 X (b := b0) (by omega)) rfl rfl rfl (by decide) (by decide) (by decide) (by decide) (by decide) (fun _ _ => rfl) (Nat.le_of_ble_eq_true rfl) (by decide) dX1_copyFrom_57 (fun H locs hP hD hS => ?_)
  rw [show (nI 0).toNatClampNeg = 0 by decide, show (nI 9).toNatClampNeg = 9 by decide, wC_sa3 cy ad us3 X (b := b0) (by omega) _] at hP hD
  obtain ⟨us4, hus4⟩ : ∃ z9z : CS, z9z = (va_up us3.1 (17 + 8 * b0 + 4) (va_cpy (us3.1 (17 + 8 * q0 + 4)) (us3.1 (17 + 8 * b0 + 4)) 0 0 9), us3.2) := ⟨_, rfl⟩
  rw [← hus4] at hP hD
  have pus4_s : us4.1 (17 + 8 * b0 + 4) = (va_cpy (us3.1 (17 + 8 * q0 + 4)) (us3.1 (17 + 8 * b0 + 4)) 0 0 9) := by rw [hus4]; first | exact va_up_s _ _ _ | rfl
  have pus4_o : ∀ j9, j9 ≠ 17 + 8 * b0 + 4 → us4.1 j9 = us3.1 j9 := fun j9 h9 => by rw [hus4]; exact va_up_n h9
  have pus4_21 : us4.2.1 = us3.2.1 := by rw [hus4]
  have pus4_221 : us4.2.2.1 = us3.2.2.1 := by rw [hus4]
  have pus4_222 : us4.2.2.2 = us3.2.2.2 := by rw [hus4]
  refine lv_aload_n hx hb dX1_copyFrom_60 rfl (lv_at hl 1 rfl) ?_
  refine va_get (D := dd) (ci := 3) (v := .ref (ad (17 + 8 * q0 + 5))) (C := RX1) (T := TX1) (N := 7) hx hb hts (fun _ h9 => List.mem_cons_of_mem _ (List.mem_append_right _ h9)) hown hK hP (17 + 8 * q0) (wC_st cy ad us4 X (b := q0) (by omega)) rfl 4 (by decide) (hts (Cond.fieldLink RX1 30 "HeadGrid$State" "floors" "[I") (List.mem_of_getElem? (i := 9) rfl)) (fun _ h9 => h9) rfl dX1_copyFrom_61 ?_
  refine lv_iconst (v := nI 0) hx hb dX1_copyFrom_64 (by decide) ?_
  refine lv_aload_n hx hb dX1_copyFrom_65 rfl (lv_at hl 0 rfl) ?_
  refine va_get (D := dd) (ci := 3) (v := .ref (ad (17 + 8 * b0 + 5))) (C := RX1) (T := TX1) (N := 7) hx hb hts (fun _ h9 => List.mem_cons_of_mem _ (List.mem_append_right _ h9)) hown hK hP (17 + 8 * b0) (wC_st cy ad us4 X (b := b0) (by omega)) rfl 4 (by decide) (hts (Cond.fieldLink RX1 30 "HeadGrid$State" "floors" "[I") (List.mem_of_getElem? (i := 9) rfl)) (fun _ h9 => h9) rfl dX1_copyFrom_66 ?_
  refine lv_iconst (v := nI 0) hx hb dX1_copyFrom_69 (by decide) ?_
  refine lv_bipush (v := nI 9) hx hb dX1_copyFrom_70 (by decide) ?_
  refine va_copyi hx hb (hml.trans hl.1.symm) hown (hts (Cond.methodLink RX1 40 arraycopyName) (List.mem_of_getElem? (i := 2) rfl)) (hts (Cond.native arraycopyName) (List.mem_of_getElem? (i := 3) rfl)) (hts (Cond.static arraycopyName) (List.mem_of_getElem? (i := 4) rfl)) (hts (Cond.initialized "java/lang/System") (List.mem_of_getElem? (i := 5) rfl)) hK hP hD hS (17 + 8 * q0 + 5) (17 + 8 * b0 + 5) 0 0 (wC_a4 cy ad us4 X (b := q0) (by omega)) (wC_a4 cy ad us4 X (b := b0) (by omega)) rfl rfl rfl (by decide) (by decide) (by decide) (by decide) (by decide) (fun _ _ => rfl) (Nat.le_of_ble_eq_true rfl) (by decide) dX1_copyFrom_72 (fun H locs hP hD hS => ?_)
  rw [show (nI 0).toNatClampNeg = 0 by decide, show (nI 9).toNatClampNeg = 9 by decide, wC_sa4 cy ad us4 X (b := b0) (by omega) _] at hP hD
  obtain ⟨us5, hus5⟩ : ∃ z9z : CS, z9z = (va_up us4.1 (17 + 8 * b0 + 5) (va_cpy (us4.1 (17 + 8 * q0 + 5)) (us4.1 (17 + 8 * b0 + 5)) 0 0 9), us4.2) := ⟨_, rfl⟩
  rw [← hus5] at hP hD
  have pus5_s : us5.1 (17 + 8 * b0 + 5) = (va_cpy (us4.1 (17 + 8 * q0 + 5)) (us4.1 (17 + 8 * b0 + 5)) 0 0 9) := by rw [hus5]; first | exact va_up_s _ _ _ | rfl
  have pus5_o : ∀ j9, j9 ≠ 17 + 8 * b0 + 5 → us5.1 j9 = us4.1 j9 := fun j9 h9 => by rw [hus5]; exact va_up_n h9
  have pus5_21 : us5.2.1 = us4.2.1 := by rw [hus5]
  have pus5_221 : us5.2.2.1 = us4.2.2.1 := by rw [hus5]
  have pus5_222 : us5.2.2.2 = us4.2.2.2 := by rw [hus5]
  refine lv_aload_n hx hb dX1_copyFrom_75 rfl (lv_at hl 1 rfl) ?_
  refine va_get (D := dd) (ci := 3) (v := .ref (ad (17 + 8 * q0 + 6))) (C := RX1) (T := TX1) (N := 7) hx hb hts (fun _ h9 => List.mem_cons_of_mem _ (List.mem_append_right _ h9)) hown hK hP (17 + 8 * q0) (wC_st cy ad us5 X (b := q0) (by omega)) rfl 5 (by decide) (hts (Cond.fieldLink RX1 33 "HeadGrid$State" "limits" "[I") (List.mem_of_getElem? (i := 10) rfl)) (fun _ h9 => h9) rfl dX1_copyFrom_76 ?_
  refine lv_iconst (v := nI 0) hx hb dX1_copyFrom_79 (by decide) ?_
  refine lv_aload_n hx hb dX1_copyFrom_80 rfl (lv_at hl 0 rfl) ?_
  refine va_get (D := dd) (ci := 3) (v := .ref (ad (17 + 8 * b0 + 6))) (C := RX1) (T := TX1) (N := 7) hx hb hts (fun _ h9 => List.mem_cons_of_mem _ (List.mem_append_right _ h9)) hown hK hP (17 + 8 * b0) (wC_st cy ad us5 X (b := b0) (by omega)) rfl 5 (by decide) (hts (Cond.fieldLink RX1 33 "HeadGrid$State" "limits" "[I") (List.mem_of_getElem? (i := 10) rfl)) (fun _ h9 => h9) rfl dX1_copyFrom_81 ?_
  refine lv_iconst (v := nI 0) hx hb dX1_copyFrom_84 (by decide) ?_
  refine lv_bipush (v := nI 9) hx hb dX1_copyFrom_85 (by decide) ?_
  refine va_copyi hx hb (hml.trans hl.1.symm) hown (hts (Cond.methodLink RX1 40 arraycopyName) (List.mem_of_getElem? (i := 2) rfl)) (hts (Cond.native arraycopyName) (List.mem_of_getElem? (i := 3) rfl)) (hts (Cond.static arraycopyName) (List.mem_of_getElem? (i := 4) rfl)) (hts (Cond.initialized "java/lang/System") (List.mem_of_getElem? (i := 5) rfl)) hK hP hD hS (17 + 8 * q0 + 6) (17 + 8 * b0 + 6) 0 0 (wC_a5 cy ad us5 X (b := q0) (by omega)) (wC_a5 cy ad us5 X (b := b0) (by omega)) rfl rfl rfl (by decide) (by decide) (by decide) (by decide) (by decide) (fun _ _ => rfl) (Nat.le_of_ble_eq_true rfl) (by decide) dX1_copyFrom_87 (fun H locs hP hD hS => ?_)
  rw [show (nI 0).toNatClampNeg = 0 by decide, show (nI 9).toNatClampNeg = 9 by decide, wC_sa5 cy ad us5 X (b := b0) (by omega) _] at hP hD
  obtain ⟨us6, hus6⟩ : ∃ z9z : CS, z9z = (va_up us5.1 (17 + 8 * b0 + 6) (va_cpy (us5.1 (17 + 8 * q0 + 6)) (us5.1 (17 + 8 * b0 + 6)) 0 0 9), us5.2) := ⟨_, rfl⟩
  rw [← hus6] at hP hD
  have pus6_s : us6.1 (17 + 8 * b0 + 6) = (va_cpy (us5.1 (17 + 8 * q0 + 6)) (us5.1 (17 + 8 * b0 + 6)) 0 0 9) := by rw [hus6]; first | exact va_up_s _ _ _ | rfl
  have pus6_o : ∀ j9, j9 ≠ 17 + 8 * b0 + 6 → us6.1 j9 = us5.1 j9 := fun j9 h9 => by rw [hus6]; exact va_up_n h9
  have pus6_21 : us6.2.1 = us5.2.1 := by rw [hus6]
  have pus6_221 : us6.2.2.1 = us5.2.2.1 := by rw [hus6]
  have pus6_222 : us6.2.2.2 = us5.2.2.2 := by rw [hus6]
  refine lv_aload_n hx hb dX1_copyFrom_90 rfl (lv_at hl 1 rfl) ?_
  refine va_get (D := dd) (ci := 3) (v := .ref (ad (17 + 8 * q0 + 7))) (C := RX1) (T := TX1) (N := 7) hx hb hts (fun _ h9 => List.mem_cons_of_mem _ (List.mem_append_right _ h9)) hown hK hP (17 + 8 * q0) (wC_st cy ad us6 X (b := q0) (by omega)) rfl 6 (by decide) (hts (Cond.fieldLink RX1 36 "HeadGrid$State" "relaxedHeads" "[D") (List.mem_of_getElem? (i := 11) rfl)) (fun _ h9 => h9) rfl dX1_copyFrom_91 ?_
  refine lv_iconst (v := nI 0) hx hb dX1_copyFrom_94 (by decide) ?_
  refine lv_aload_n hx hb dX1_copyFrom_95 rfl (lv_at hl 0 rfl) ?_
  refine va_get (D := dd) (ci := 3) (v := .ref (ad (17 + 8 * b0 + 7))) (C := RX1) (T := TX1) (N := 7) hx hb hts (fun _ h9 => List.mem_cons_of_mem _ (List.mem_append_right _ h9)) hown hK hP (17 + 8 * b0) (wC_st cy ad us6 X (b := b0) (by omega)) rfl 6 (by decide) (hts (Cond.fieldLink RX1 36 "HeadGrid$State" "relaxedHeads" "[D") (List.mem_of_getElem? (i := 11) rfl)) (fun _ h9 => h9) rfl dX1_copyFrom_96 ?_
  refine lv_iconst (v := nI 0) hx hb dX1_copyFrom_99 (by decide) ?_
  refine lv_bipush (v := nI 9) hx hb dX1_copyFrom_100 (by decide) ?_
  refine va_copyd hx hb (hml.trans hl.1.symm) hown (hts (Cond.methodLink RX1 40 arraycopyName) (List.mem_of_getElem? (i := 2) rfl)) (hts (Cond.native arraycopyName) (List.mem_of_getElem? (i := 3) rfl)) (hts (Cond.static arraycopyName) (List.mem_of_getElem? (i := 4) rfl)) (hts (Cond.initialized "java/lang/System") (List.mem_of_getElem? (i := 5) rfl)) hK hP hD hS (17 + 8 * q0 + 7) (17 + 8 * b0 + 7) 2 2 (wC_a6 cy ad us6 X (b := q0) (by omega)) (wC_a6 cy ad us6 X (b := b0) (by omega)) rfl rfl rfl (by decide) (by decide) (by decide) (by decide) (by decide) (fun _ _ => rfl) (Nat.le_of_ble_eq_true rfl) (by decide) dX1_copyFrom_102 (fun H locs hP hD hS => ?_)
  rw [show (nI 0).toNatClampNeg = 0 by decide, show (nI 9).toNatClampNeg = 9 by decide, wC_sa6 cy ad us6 X (b := b0) (by omega) _] at hP hD
  obtain ⟨us7, hus7⟩ : ∃ z9z : CS, z9z = (us6.1, va_up us6.2.1 (17 + 8 * b0 + 7) (va_cpy (us6.2.1 (17 + 8 * q0 + 7)) (us6.2.1 (17 + 8 * b0 + 7)) 0 0 9), us6.2.2) := ⟨_, rfl⟩
  rw [← hus7] at hP hD
  have pus7_s : us7.2.1 (17 + 8 * b0 + 7) = (va_cpy (us6.2.1 (17 + 8 * q0 + 7)) (us6.2.1 (17 + 8 * b0 + 7)) 0 0 9) := by rw [hus7]; first | exact va_up_s _ _ _ | rfl
  have pus7_o : ∀ j9, j9 ≠ 17 + 8 * b0 + 7 → us7.2.1 j9 = us6.2.1 j9 := fun j9 h9 => by rw [hus7]; exact va_up_n h9
  have pus7_1 : us7.1 = us6.1 := by rw [hus7]
  have pus7_221 : us7.2.2.1 = us6.2.2.1 := by rw [hus7]
  have pus7_222 : us7.2.2.2 = us6.2.2.2 := by rw [hus7]
  exact W.vret hx hb hr (fun t ht hW => ⟨⟨us7, rfl, cpB_mk (fun j9 h9 => by rw [pus7_1, pus6_o _ (by omega), pus5_o _ (by omega), pus4_o _ (by omega), pus3_o _ (by omega), pus2_o _ (by omega), pus1_s, cpy_i h9]) (fun j9 h9 => by rw [pus7_1, pus6_o _ (by omega), pus5_o _ (by omega), pus4_o _ (by omega), pus3_o _ (by omega), pus2_s, cpy_i h9, pus1_o _ (by omega)]) (fun j9 h9 => by rw [pus7_1, pus6_o _ (by omega), pus5_o _ (by omega), pus4_o _ (by omega), pus3_s, cpy_i h9, pus2_o _ (by omega), pus1_o _ (by omega)]) (fun j9 h9 => by rw [pus7_1, pus6_o _ (by omega), pus5_o _ (by omega), pus4_s, cpy_i h9, pus3_o _ (by omega), pus2_o _ (by omega), pus1_o _ (by omega)]) (fun j9 h9 => by rw [pus7_1, pus6_o _ (by omega), pus5_s, cpy_i h9, pus4_o _ (by omega), pus3_o _ (by omega), pus2_o _ (by omega), pus1_o _ (by omega)]) (fun j9 h9 => by rw [pus7_1, pus6_s, cpy_i h9, pus5_o _ (by omega), pus4_o _ (by omega), pus3_o _ (by omega), pus2_o _ (by omega), pus1_o _ (by omega)]) (fun j9 h9 => by rw [pus7_s, cpy_d h9, pus6_21, pus5_21, pus4_21, pus3_21, pus2_21, pus1_21]) (fun k9 h9 => by rw [pus7_1, pus6_o k9 (by omega), pus5_o k9 (by omega), pus4_o k9 (by omega), pus3_o k9 (by omega), pus2_o k9 (by omega), pus1_o k9 (by omega)]) (fun k9 h9 => by rw [pus7_o k9 h9, pus6_21, pus5_21, pus4_21, pus3_21, pus2_21, pus1_21]) (by rw [hus7]; show us6.2.2 = u.2.2; rw [hus6]; show us5.2.2 = u.2.2; rw [hus5]; show us4.2.2 = u.2.2; rw [hus4]; show us3.2.2 = u.2.2; rw [hus3]; show us2.2.2 = u.2.2; rw [hus2]; show us1.2.2 = u.2.2; rw [hus1]), by rw [ht]; exact hP, va_K.moved hW.alike hK, hD⟩, hS.F ht⟩) hS.2.2 dX1_copyFrom_105
theorem hd_X2_dropOldest : yX2_dropOldest.cls = RX2 ∧ yX2_dropOldest.cls ≠ "java/lang/invoke/MethodHandle" ∧ yX2_dropOldest.cls ≠ "java/lang/invoke/VarHandle" ∧ (parseMethodDescriptor yX2_dropOldest.desc).map (fun d => d.parameters.length) = some 0 := by decide +kernel
set_option maxHeartbeats 4000000 in
set_option maxRecDepth 100000 in
/-- dropOldest() -/
theorem c_X2_dropOldest (l : Launch) (dd : va_G) (cy : Nat → ClassId) (ad : Nat → Nat) (X : va_W) (tt : Nat × Nat) (u : CS) (sz : Nat) (hok : svOk u.2.2.2.2.2.2) (h_savedCount : nI 4 = u.2.2.2.1) : Met l yX2_dropOldest wsX2_dropOldest ({ frames := 0, cells := 0, slots := 0, locals := 0 }) (va_Pc [.ref (ad 0)] (wrC dd cy tt (wC cy ad u ++ X) sz)) (va_Qv (fun u9 => u9.2.2.2.1 = nI 3 ∧ u9.2.2.2.2.2.2 = rotS 4 u.2.2.2.2.2.2 ∧ u9.1 = u.1 ∧ u9.2.1 = u.2.1 ∧ u9.2.2.1 = u.2.2.1 ∧ u9.2.2.2.2.1 = u.2.2.2.2.1 ∧ u9.2.2.2.2.2.1 = u.2.2.2.2.2.1) (wB dd cy (fun u9 : CS => wC cy ad u9 ++ X) (va_A (wC cy ad u ++ X) sz)) (va_A (wC cy ad u ++ X) sz)) 0 0 (va_A (wC cy ad u ++ X) sz) := by
  refine Met.ofW (cc := cX2_dropOldest) (maxL := 3) (ret := none) (by decide) rfl ?_
  intro p e s m args below meth c s₁ B hml hv
  obtain ⟨rfl, hsz, hP, hK, hD0, hSt⟩ := hv
  have hx := B.exec
  have hb := B.bytes
  have hr := B.returns
  have hts := atoms_spec (ws := wsX2_dropOldest) B.pre
  have hown : s.vm.findClass RX2 = some m.cls := findClass_of_methodNamed B.named
  have hlocks := B.notSynchronized
  subst hsz
  have hD := hD0.self (sz := s.heap.size)
  generalize hAe : va_A (wC cy ad u ++ X) s.heap.size = A at hD hSt ⊢
  have hA : ∀ q : Nat, s.heap.size ≤ q → A q := fun q h => by rw [← hAe]; exact Or.inr h
  have hS : va_S A s.heap s.heap [] := va_S.rf
  have h50 := (hok.1 0 (by decide)).2
  have hl := lv_entry ([.ref (ad 0)]) (n := 3) (Nat.le_of_ble_eq_true rfl)
  rw [lg_entry_eq]
  generalize (lg_sl ([.ref (ad 0)]) ++ List.replicate (3 - (lg_sl ([.ref (ad 0)])).length) Slot.unset).toArray = ls at hl ⊢
  have hl : lv_has ls 3 [(0, .ref (ad 0))] := hl
  refine lv_aload_n hx hb dX2_dropOldest_0 rfl (lv_at hl 0 rfl) ?_
  refine va_get (D := dd) (ci := 4) (v := .ref (ad 1)) (C := RX2) (T := TX2) (N := 7) hx hb hts (fun _ h9 => List.mem_cons_of_mem _ (List.mem_append_right _ h9)) hown hK hP (0) (wC_0 cy ad u X) rfl 1 (by decide) (hts (Cond.fieldLink RX2 16 "HeadGrid" "saved" "[LHeadGrid$State;") (List.mem_of_getElem? (i := 1) rfl)) (fun _ h9 => h9) rfl dX2_dropOldest_1 ?_
  refine lv_iconst (v := nI 0) hx hb dX2_dropOldest_4 (by decide) ?_
  refine wa_aaldO hx hb hK hP (wC_1 cy ad u X) (t0 := 3) rfl (i := 0) (by omega) (by decide) rfl dX2_dropOldest_5 ?_
  refine lv_astore_n (lv' := [(1, .ref (ad (17 + 8 * (u.2.2.2.2.2.2 0)))), (0, .ref (ad 0))]) hx hb dX2_dropOldest_6 rfl hl (by decide) rfl (fun ls hl => ?_)
  refine lv_iconst (v := nI 1) hx hb dX2_dropOldest_7 (by decide) ?_
  refine lv_istore_n (lv' := [(2, .int (nI 1)), (1, .ref (ad (17 + 8 * (u.2.2.2.2.2.2 0)))), (0, .ref (ad 0))]) hx hb dX2_dropOldest_8 rfl hl (by decide) rfl (fun ls hl => ?_)
  refine wLoop (σ := Nat × CS) (fun k x H locs ls => k = 4 - x.1 ∧ (1 ≤ x.1) ∧ (x.1 ≤ 4) ∧ (x.2.1 = u.1 ∧ x.2.2.1 = u.2.1 ∧ x.2.2.2.1 = u.2.2.1 ∧ x.2.2.2.2.2.1 = u.2.2.2.2.1 ∧ x.2.2.2.2.2.2.1 = u.2.2.2.2.2.1) ∧ (nI 4 = x.2.2.2.2.1) ∧ (∀ j9, x.2.2.2.2.2.2.2 j9 = if j9 + 1 < x.1 then u.2.2.2.2.2.2 (j9 + 1) else u.2.2.2.2.2.2 j9) ∧ va_P dd vwCl (wC cy ad x.2 ++ X) H ∧ va_D A (wC cy ad x.2 ++ X) ∧ va_S A s.heap H locs ∧ lv_has ls 3 [(2, .int (nI x.1)), (1, .ref (ad (17 + 8 * (u.2.2.2.2.2.2 0)))), (0, .ref (ad 0))]) ?_ _ (1, u) _ _ _ ⟨rfl, (Nat.le_refl 1), (by show 1 ≤ 4; omega), ⟨rfl, rfl, rfl, rfl, rfl⟩, h_savedCount, (fun j9 => by rw [if_neg (by show ¬ j9 + 1 < 1; omega)]), hP, hD, hS, lv_sub hl [0, 1, 2] rfl⟩
  intro k x H locs ls hI ih
  obtain ⟨i0, u1⟩ := x
  obtain ⟨hk, hi0, hi1, hF, h_savedCount, hV, hP, hD, hS, hl⟩ := hI
  have hk : k = 4 - i0 := hk
  have hi0 : 1 ≤ i0 := hi0
  have hi1 : i0 ≤ 4 := hi1
  have hF : u1.1 = u.1 ∧ u1.2.1 = u.2.1 ∧ u1.2.2.1 = u.2.2.1 ∧ u1.2.2.2.2.1 = u.2.2.2.2.1 ∧ u1.2.2.2.2.2.1 = u.2.2.2.2.2.1 := hF
  have h_savedCount : nI 4 = u1.2.2.2.1 := h_savedCount
  have hV : ∀ j9, u1.2.2.2.2.2.2 j9 = if j9 + 1 < i0 then u.2.2.2.2.2.2 (j9 + 1) else u.2.2.2.2.2.2 j9 := hV
  have hP : va_P dd vwCl (wC cy ad u1 ++ X) H := hP
  have hD : va_D A (wC cy ad u1 ++ X) := hD
  have hl : lv_has ls 3 [(2, .int (nI i0)), (1, .ref (ad (17 + 8 * (u.2.2.2.2.2.2 0)))), (0, .ref (ad 0))] := hl
  have h50 := (hok.1 0 (by decide)).2
  have h5i : i0 < 4 → u1.2.2.2.2.2.2 i0 < 5 := fun q9 => by rw [hV, if_neg (by omega)]; exact (hok.1 i0 q9).2
  refine lv_iload_n hx hb dX2_dropOldest_9 rfl (lv_at hl 0 rfl) ?_
  refine lv_iconst (v := nI 4) hx hb dX2_dropOldest_10 (by decide) ?_
  refine wn_icmp_ge (tgt := 34) hx hb dX2_dropOldest_11 (by decide) (by omega) (by omega) (fun c1 => ?_) (fun c1 => ?_)
  · refine lv_aload_n hx hb dX2_dropOldest_34 rfl (lv_at hl 2 rfl) ?_
    refine va_get (D := dd) (ci := 4) (v := .ref (ad 1)) (C := RX2) (T := TX2) (N := 7) hx hb hts (fun _ h9 => List.mem_cons_of_mem _ (List.mem_append_right _ h9)) hown hK hP (0) (wC_0 cy ad u1 X) rfl 1 (by decide) (hts (Cond.fieldLink RX2 16 "HeadGrid" "saved" "[LHeadGrid$State;") (List.mem_of_getElem? (i := 1) rfl)) (fun _ h9 => h9) rfl dX2_dropOldest_35 ?_
    refine lv_iconst (v := nI 3) hx hb dX2_dropOldest_38 (by decide) ?_
    refine lv_aload_n hx hb dX2_dropOldest_39 rfl (lv_at hl 1 rfl) ?_
    refine wa_aast hx hb hK hP hD hS (wC_1 cy ad u1 X) (t0 := 3) rfl (wC_st cy ad u1 X (b := (u.2.2.2.2.2.2 0)) (by omega)) rfl (i := 3) (by omega) (by decide) dX2_dropOldest_40 (wC_ssav cy ad u1 X _ _) (fun H locs hP hD hS => ?_)
    obtain ⟨us2, hus2⟩ : ∃ z9z : CS, z9z = (u1.1, u1.2.1, u1.2.2.1, u1.2.2.2.1, u1.2.2.2.2.1, u1.2.2.2.2.2.1, va_up u1.2.2.2.2.2.2 3 (u.2.2.2.2.2.2 0)) := ⟨_, rfl⟩
    rw [← hus2] at hP hD
    have pus2_1 : us2.1 = u1.1 := by rw [hus2]
    have pus2_21 : us2.2.1 = u1.2.1 := by rw [hus2]
    have pus2_221 : us2.2.2.1 = u1.2.2.1 := by rw [hus2]
    have pus2_2221 : us2.2.2.2.1 = u1.2.2.2.1 := by rw [hus2]
    have pus2_22221 : us2.2.2.2.2.1 = u1.2.2.2.2.1 := by rw [hus2]
    have pus2_222221 : us2.2.2.2.2.2.1 = u1.2.2.2.2.2.1 := by rw [hus2]
    have pus2_v : us2.2.2.2.2.2.2 = va_up u1.2.2.2.2.2.2 3 (u.2.2.2.2.2.2 0) := by rw [hus2]
    have h_savedCount : (nI 4) = us2.2.2.2.1 := by rw [hus2]; exact h_savedCount
    refine lv_aload_n hx hb dX2_dropOldest_41 rfl (lv_at hl 2 rfl) ?_
    refine lv_dup hx hb dX2_dropOldest_42 rfl ?_
    refine va_get (D := dd) (ci := 4) (v := .int (nI 4)) (C := RX2) (T := TX2) (N := 7) hx hb hts (fun _ h9 => List.mem_cons_of_mem _ (List.mem_append_right _ h9)) hown hK hP (0) (wC_0 cy ad us2 X) rfl 2 (by decide) (hts (Cond.fieldLink RX2 20 "HeadGrid" "savedCount" "I") (List.mem_of_getElem? (i := 2) rfl)) (fun _ h9 => h9) (by rw [h_savedCount]; rfl) dX2_dropOldest_43 ?_
    refine lv_iconst (v := nI 1) hx hb dX2_dropOldest_46 (by decide) ?_
    refine wn_isub hx hb dX2_dropOldest_47 (by omega) ?_
    refine va_put (D := dd) (ci := 4) (v := .int (nI (4 - 1))) (ty := .int) (C := RX2) (T := TX2) (N := 7) hx hb hts (fun _ h9 => List.mem_cons_of_mem _ (List.mem_append_right _ h9)) tyX2 tyX2_ok nmX2 hown hK hP hD hS (0) (wC_0 cy ad us2 X) rfl 2 (by decide) (hts (Cond.fieldLink RX2 20 "HeadGrid" "savedCount" "I") (List.mem_of_getElem? (i := 2) rfl)) (fun _ h9 => h9) rfl (tyX2_ok 2 (by decide)) rfl rfl (Nat.le_of_ble_eq_true rfl) dX2_dropOldest_48 (fun H locs hP hD hS => ?_)
    have hP : va_P dd vwCl (wC cy ad (us2.1, us2.2.1, us2.2.2.1, (nI (4 - 1)), us2.2.2.2.2) ++ X) H := hP
    have hD : va_D A (wC cy ad (us2.1, us2.2.1, us2.2.2.1, (nI (4 - 1)), us2.2.2.2.2) ++ X) := hD
    obtain ⟨us3, hus3⟩ : ∃ z9z : CS, z9z = (us2.1, us2.2.1, us2.2.2.1, (nI (4 - 1)), us2.2.2.2.2) := ⟨_, rfl⟩
    rw [← hus3] at hP hD
    have pus3_1 : us3.1 = us2.1 := by rw [hus3]
    have pus3_21 : us3.2.1 = us2.2.1 := by rw [hus3]
    have pus3_221 : us3.2.2.1 = us2.2.2.1 := by rw [hus3]
    have pus3_222222 : us3.2.2.2.2.2.2 = us2.2.2.2.2.2.2 := by rw [hus3]
    have h_savedCount : (nI (4 - 1)) = us3.2.2.2.1 := by rw [hus3]
    have pus3_solved : us3.2.2.2.2.1 = us2.2.2.2.2.1 := by rw [hus3]
    have pus3_denominator : us3.2.2.2.2.2.1 = us2.2.2.2.2.2.1 := by rw [hus3]
    exact W.vret hx hb hr (fun t ht hW => ⟨⟨us3, rfl, ⟨h_savedCount.symm, by funext j9; rw [pus3_222222, pus2_v]; unfold rotS; rw [if_pos rfl]; exact (Classical.em (j9 = 3)).elim (fun e9 => by rw [e9, va_up_s, if_neg (by decide), if_pos rfl]) (fun e9 => by rw [va_up_n e9, hV, show i0 = 4 by omega]; exact (Classical.em (j9 < 3)).elim (fun q9 => by rw [if_pos (by omega), if_pos q9]) (fun q9 => by rw [if_neg (by omega), if_neg q9, if_neg e9])), (pus3_1.trans pus2_1).trans hF.1, (pus3_21.trans pus2_21).trans hF.2.1, (pus3_221.trans pus2_221).trans hF.2.2.1, (pus3_solved.trans pus2_22221).trans hF.2.2.2.1, (pus3_denominator.trans pus2_222221).trans hF.2.2.2.2⟩, by rw [ht]; exact hP, va_K.moved hW.alike hK, hD⟩, hS.F ht⟩) hS.2.2 dX2_dropOldest_51
  · have h5 := h5i (by omega)
    refine lv_aload_n hx hb dX2_dropOldest_14 rfl (lv_at hl 2 rfl) ?_
    refine va_get (D := dd) (ci := 4) (v := .ref (ad 1)) (C := RX2) (T := TX2) (N := 7) hx hb hts (fun _ h9 => List.mem_cons_of_mem _ (List.mem_append_right _ h9)) hown hK hP (0) (wC_0 cy ad u1 X) rfl 1 (by decide) (hts (Cond.fieldLink RX2 16 "HeadGrid" "saved" "[LHeadGrid$State;") (List.mem_of_getElem? (i := 1) rfl)) (fun _ h9 => h9) rfl dX2_dropOldest_15 ?_
    refine lv_iload_n hx hb dX2_dropOldest_18 rfl (lv_at hl 0 rfl) ?_
    refine lv_iconst (v := nI 1) hx hb dX2_dropOldest_19 (by decide) ?_
    refine wn_isub hx hb dX2_dropOldest_20 (by omega) ?_
    refine lv_aload_n hx hb dX2_dropOldest_21 rfl (lv_at hl 2 rfl) ?_
    refine va_get (D := dd) (ci := 4) (v := .ref (ad 1)) (C := RX2) (T := TX2) (N := 7) hx hb hts (fun _ h9 => List.mem_cons_of_mem _ (List.mem_append_right _ h9)) hown hK hP (0) (wC_0 cy ad u1 X) rfl 1 (by decide) (hts (Cond.fieldLink RX2 16 "HeadGrid" "saved" "[LHeadGrid$State;") (List.mem_of_getElem? (i := 1) rfl)) (fun _ h9 => h9) rfl dX2_dropOldest_22 ?_
    refine lv_iload_n hx hb dX2_dropOldest_25 rfl (lv_at hl 0 rfl) ?_
    refine wa_aaldO hx hb hK hP (wC_1 cy ad u1 X) (t0 := 3) rfl (i := i0) (by omega) (by decide) rfl dX2_dropOldest_26 ?_
    refine wa_aast hx hb hK hP hD hS (wC_1 cy ad u1 X) (t0 := 3) rfl (wC_st cy ad u1 X (b := (u1.2.2.2.2.2.2 i0)) (by omega)) rfl (i := i0 - 1) (by omega) (by decide) dX2_dropOldest_27 (wC_ssav cy ad u1 X _ _) (fun H locs hP hD hS => ?_)
    obtain ⟨us4, hus4⟩ : ∃ z9z : CS, z9z = (u1.1, u1.2.1, u1.2.2.1, u1.2.2.2.1, u1.2.2.2.2.1, u1.2.2.2.2.2.1, va_up u1.2.2.2.2.2.2 (i0 - 1) (u1.2.2.2.2.2.2 i0)) := ⟨_, rfl⟩
    rw [← hus4] at hP hD
    have pus4_1 : us4.1 = u1.1 := by rw [hus4]
    have pus4_21 : us4.2.1 = u1.2.1 := by rw [hus4]
    have pus4_221 : us4.2.2.1 = u1.2.2.1 := by rw [hus4]
    have pus4_2221 : us4.2.2.2.1 = u1.2.2.2.1 := by rw [hus4]
    have pus4_22221 : us4.2.2.2.2.1 = u1.2.2.2.2.1 := by rw [hus4]
    have pus4_222221 : us4.2.2.2.2.2.1 = u1.2.2.2.2.2.1 := by rw [hus4]
    have pus4_v : us4.2.2.2.2.2.2 = va_up u1.2.2.2.2.2.2 (i0 - 1) (u1.2.2.2.2.2.2 i0) := by rw [hus4]
    have h_savedCount : (nI 4) = us4.2.2.2.1 := by rw [hus4]; exact h_savedCount
    refine lv_iinc (v := (nI (i0 + 1))) (lv' := [(2, .int (nI (i0 + 1))), (1, .ref (ad (17 + 8 * (u.2.2.2.2.2.2 0)))), (0, .ref (ad 0))]) hx hb dX2_dropOldest_28 hl (k := 0) rfl (nI_1 _) (by decide) rfl (fun ls hl => ?_)
    refine lv_goto (tgt := 9) hx hb dX2_dropOldest_31 (by decide) ?_
    exact ih (4 - (i0 + 1)) (i0 + 1, us4) _ _ ls (by omega) ⟨rfl, (by show 1 ≤ i0 + 1; omega), (by show i0 + 1 ≤ 4; omega), ⟨pus4_1.trans hF.1, pus4_21.trans hF.2.1, pus4_221.trans hF.2.2.1, pus4_22221.trans hF.2.2.2.1, pus4_222221.trans hF.2.2.2.2⟩, h_savedCount, (fun j9 => by rw [pus4_v]; exact (Classical.em (j9 = i0 - 1)).elim (fun e9 => by rw [e9, va_up_s, hV, if_neg (by omega), if_pos (by show i0 - 1 + 1 < i0 + 1; omega), show i0 - 1 + 1 = i0 by omega]) (fun e9 => by rw [va_up_n e9, hV]; exact (Classical.em (j9 + 1 < i0)).elim (fun q9 => by rw [if_pos q9, if_pos (by show j9 + 1 < i0 + 1; omega)]) (fun q9 => by rw [if_neg q9, if_neg (by show ¬ j9 + 1 < i0 + 1; omega)]))), hP, hD, hS, lv_sub hl [0, 1, 2] rfl⟩
theorem hd_X2_saveNow : yX2_saveNow.cls = RX2 ∧ yX2_saveNow.cls ≠ "java/lang/invoke/MethodHandle" ∧ yX2_saveNow.cls ≠ "java/lang/invoke/VarHandle" ∧ (parseMethodDescriptor yX2_saveNow.desc).map (fun d => d.parameters.length) = some 0 := by decide +kernel
set_option maxHeartbeats 4000000 in
set_option maxRecDepth 100000 in
/-- saveNow() -/
theorem c_X2_saveNow (l : Launch) (dd : va_G) (cy : Nat → ClassId) (ad : Nat → Nat) (X : va_W) (tt : Nat × Nat) (u : CS) (sz : Nat) (n : Nat) (hn : n ≤ 4) (hok : svOk u.2.2.2.2.2.2) (h_savedCount : nI n = u.2.2.2.1) : Met l yX2_saveNow wsX2_saveNow ({ frames := 2, cells := 0, slots := 0, locals := 64 }) (va_Pc [.ref (ad 0)] (wrC dd cy tt (wC cy ad u ++ X) sz)) (va_Qv (fun u9 => u9.2.2.2.1 = nI (kpM n + 1) ∧ u9.2.2.2.2.1 = nI 0 ∧ u9.2.2.2.2.2.2 = rotS n u.2.2.2.2.2.2 ∧ (∀ k, k < 72 → nwB u9 (rotS n u.2.2.2.2.2.2 (kpM n)) k = nw u k) ∧ (∀ j, j < 9 → u9.2.1 (17 + 8 * rotS n u.2.2.2.2.2.2 (kpM n) + 7) j = u.2.1 24 j) ∧ (∀ c, c < 5 → c ≠ rotS n u.2.2.2.2.2.2 (kpM n) → nwB u9 c = nwB u c ∧ u9.2.1 (17 + 8 * c + 7) = u.2.1 (17 + 8 * c + 7))) (wB dd cy (fun u9 : CS => wC cy ad u9 ++ X) (va_A (wC cy ad u ++ X) sz)) (va_A (wC cy ad u ++ X) sz)) 0 0 (va_A (wC cy ad u ++ X) sz) := by
  refine Met.ofW (cc := cX2_saveNow) (maxL := 1) (ret := none) (by decide) rfl ?_
  intro p e s m args below meth c s₁ B hml hv
  obtain ⟨rfl, hsz, hP, hK, hD0, hSt⟩ := hv
  have hx := B.exec
  have hb := B.bytes
  have hr := B.returns
  have hts := atoms_spec (ws := wsX2_saveNow) B.pre
  have hown : s.vm.findClass RX2 = some m.cls := findClass_of_methodNamed B.named
  have hlocks := B.notSynchronized
  subst hsz
  have hD := hD0.self (sz := s.heap.size)
  generalize hAe : va_A (wC cy ad u ++ X) s.heap.size = A at hD hSt ⊢
  have hA : ∀ q : Nat, s.heap.size ≤ q → A q := fun q h => by rw [← hAe]; exact Or.inr h
  have hS : va_S A s.heap s.heap [] := va_S.rf
  have hl := lv_entry ([.ref (ad 0)]) (n := 1) (Nat.le_of_ble_eq_true rfl)
  rw [lg_entry_eq]
  generalize (lg_sl ([.ref (ad 0)]) ++ List.replicate (1 - (lg_sl ([.ref (ad 0)])).length) Slot.unset).toArray = ls at hl ⊢
  have hl : lv_has ls 1 [(0, .ref (ad 0))] := hl
  refine lv_aload_n hx hb dX2_saveNow_0 rfl (lv_at hl 0 rfl) ?_
  refine va_get (D := dd) (ci := 4) (v := .int (nI n)) (C := RX2) (T := TX2) (N := 7) hx hb hts (fun _ h9 => List.mem_cons_of_mem _ (List.mem_append_left _ (List.mem_append_right _ h9))) hown hK hP (0) (wC_0 cy ad u X) rfl 2 (by decide) (hts (Cond.fieldLink RX2 20 "HeadGrid" "savedCount" "I") (List.mem_of_getElem? (i := 1) rfl)) (fun _ h9 => h9) (by rw [h_savedCount]; rfl) dX2_saveNow_1 ?_
  refine lv_iconst (v := nI 4) hx hb dX2_saveNow_4 (by decide) ?_
  refine wn_icmp_ne (tgt := 12) hx hb dX2_saveNow_5 (by decide) (by omega) (by omega) (fun cN => ?_) (fun cN => ?_)
  · have mU : kpM n = n ∧ rotS n u.2.2.2.2.2.2 = u.2.2.2.2.2.2 := by unfold kpM rotS; rw [if_neg cN]; exact ⟨rfl, funext fun j9 => if_neg cN⟩
    have hE : u.1 = u.1 ∧ u.2.1 = u.2.1 ∧ u.2.2.1 = u.2.2.1 ∧ u.2.2.2.2.2.2 = rotS n u.2.2.2.2.2.2 ∧ u.2.2.2.2.2.1 = u.2.2.2.2.2.1 := ⟨rfl, rfl, rfl, mU.2.symm, rfl⟩
    have hm9 : n < 4 := by omega
    have hr9 : svOk (rotS n u.2.2.2.2.2.2) := rotS_ok hok
    have hB9 : 1 ≤ u.2.2.2.2.2.2 n ∧ u.2.2.2.2.2.2 n < 5 := by rw [hE.2.2.2.1]; exact hr9.1 n (by omega)
    refine lv_aload_n hx hb dX2_saveNow_12 rfl (lv_at hl 0 rfl) ?_
    refine va_get (D := dd) (ci := 4) (v := .ref (ad 1)) (C := RX2) (T := TX2) (N := 7) hx hb hts (fun _ h9 => List.mem_cons_of_mem _ (List.mem_append_left _ (List.mem_append_right _ h9))) hown hK hP (0) (wC_0 cy ad u X) rfl 1 (by decide) (hts (Cond.fieldLink RX2 16 "HeadGrid" "saved" "[LHeadGrid$State;") (List.mem_of_getElem? (i := 2) rfl)) (fun _ h9 => h9) rfl dX2_saveNow_13 ?_
    refine lv_aload_n hx hb dX2_saveNow_16 rfl (lv_at hl 0 rfl) ?_
    refine va_get (D := dd) (ci := 4) (v := .int (nI n)) (C := RX2) (T := TX2) (N := 7) hx hb hts (fun _ h9 => List.mem_cons_of_mem _ (List.mem_append_left _ (List.mem_append_right _ h9))) hown hK hP (0) (wC_0 cy ad u X) rfl 2 (by decide) (hts (Cond.fieldLink RX2 20 "HeadGrid" "savedCount" "I") (List.mem_of_getElem? (i := 1) rfl)) (fun _ h9 => h9) (by rw [h_savedCount]; rfl) dX2_saveNow_17 ?_
    refine wa_aaldO hx hb hK hP (wC_1 cy ad u X) (t0 := 3) rfl (i := n) (by omega) (by decide) rfl dX2_saveNow_20 ?_
    refine lv_aload_n hx hb dX2_saveNow_21 rfl (lv_at hl 0 rfl) ?_
    refine va_get (D := dd) (ci := 4) (v := .ref (ad 17)) (C := RX2) (T := TX2) (N := 7) hx hb hts (fun _ h9 => List.mem_cons_of_mem _ (List.mem_append_left _ (List.mem_append_right _ h9))) hown hK hP (0) (wC_0 cy ad u X) rfl 0 (by decide) (hts (Cond.fieldLink RX2 10 "HeadGrid" "now" "LHeadGrid$State;") (List.mem_of_getElem? (i := 3) rfl)) (fun _ h9 => h9) rfl dX2_saveNow_22 ?_
    refine wc_callv (va_runV (As := [.ref (ad 17)]) (rest := []) ⟨hx, hb, hml, hown, hts⟩ (c_X1_copyFrom l dd cy ad X tt u _ (u.2.2.2.2.2.2 n) 0 hB9.2 (by decide) (by omega)) (cwV 1 hts gX2_saveNow_X1_copyFrom rfl rfl rfl hd_X1_copyFrom ⟨Nat.le_of_ble_eq_true rfl, Nat.le_of_ble_eq_true rfl⟩) (wrC_V hP hK hD hSt hS hA (wC_st cy ad u X (b := (u.2.2.2.2.2.2 n)) (by omega)) rfl) rfl rfl hl.1 rfl (lv_room (Nat.le_of_ble_eq_true rfl)) dX2_saveNow_25 ⟨Nat.le_of_ble_eq_true rfl, Nat.le_of_ble_eq_true rfl⟩) hD hS hA (fun us2 H locs w3 hP hD hS => ?_)
    have hcp := w3
    have h_savedCount : nI n = us2.2.2.2.1 := by rw [hcp.2.2.2]; exact h_savedCount
    refine lv_aload_n hx hb dX2_saveNow_28 rfl (lv_at hl 0 rfl) ?_
    refine lv_dup hx hb dX2_saveNow_29 rfl ?_
    refine va_get (D := dd) (ci := 4) (v := .int (nI n)) (C := RX2) (T := TX2) (N := 7) hx hb hts (fun _ h9 => List.mem_cons_of_mem _ (List.mem_append_left _ (List.mem_append_right _ h9))) hown hK hP (0) (wC_0 cy ad us2 X) rfl 2 (by decide) (hts (Cond.fieldLink RX2 20 "HeadGrid" "savedCount" "I") (List.mem_of_getElem? (i := 1) rfl)) (fun _ h9 => h9) (by rw [h_savedCount]; rfl) dX2_saveNow_30 ?_
    refine lv_iconst (v := nI 1) hx hb dX2_saveNow_33 (by decide) ?_
    refine wn_iadd hx hb dX2_saveNow_34 ?_
    refine va_put (D := dd) (ci := 4) (v := .int (nI (n + 1))) (ty := .int) (C := RX2) (T := TX2) (N := 7) hx hb hts (fun _ h9 => List.mem_cons_of_mem _ (List.mem_append_left _ (List.mem_append_right _ h9))) tyX2 tyX2_ok nmX2 hown hK hP hD hS (0) (wC_0 cy ad us2 X) rfl 2 (by decide) (hts (Cond.fieldLink RX2 20 "HeadGrid" "savedCount" "I") (List.mem_of_getElem? (i := 1) rfl)) (fun _ h9 => h9) rfl (tyX2_ok 2 (by decide)) rfl rfl (Nat.le_of_ble_eq_true rfl) dX2_saveNow_35 (fun H locs hP hD hS => ?_)
    have hP : va_P dd vwCl (wC cy ad (us2.1, us2.2.1, us2.2.2.1, (nI (n + 1)), us2.2.2.2.2) ++ X) H := hP
    have hD : va_D A (wC cy ad (us2.1, us2.2.1, us2.2.2.1, (nI (n + 1)), us2.2.2.2.2) ++ X) := hD
    obtain ⟨us4, hus4⟩ : ∃ z9z : CS, z9z = (us2.1, us2.2.1, us2.2.2.1, (nI (n + 1)), us2.2.2.2.2) := ⟨_, rfl⟩
    rw [← hus4] at hP hD
    have pus4_1 : us4.1 = us2.1 := by rw [hus4]
    have pus4_21 : us4.2.1 = us2.2.1 := by rw [hus4]
    have pus4_221 : us4.2.2.1 = us2.2.2.1 := by rw [hus4]
    have pus4_222222 : us4.2.2.2.2.2.2 = us2.2.2.2.2.2.2 := by rw [hus4]
    have h_savedCount : (nI (n + 1)) = us4.2.2.2.1 := by rw [hus4]
    have pus4_solved : us4.2.2.2.2.1 = us2.2.2.2.2.1 := by rw [hus4]
    have pus4_denominator : us4.2.2.2.2.2.1 = us2.2.2.2.2.2.1 := by rw [hus4]
    have h9_count := h_savedCount
    refine lv_aload_n hx hb dX2_saveNow_38 rfl (lv_at hl 0 rfl) ?_
    refine lv_iconst (v := nI 0) hx hb dX2_saveNow_39 (by decide) ?_
    refine va_put (D := dd) (ci := 4) (v := .int (nI 0)) (ty := .boolean) (C := RX2) (T := TX2) (N := 7) hx hb hts (fun _ h9 => List.mem_cons_of_mem _ (List.mem_append_left _ (List.mem_append_right _ h9))) tyX2 tyX2_ok nmX2 hown hK hP hD hS (0) (wC_0 cy ad us4 X) rfl 4 (by decide) (hts (Cond.fieldLink RX2 31 "HeadGrid" "solved" "Z") (List.mem_of_getElem? (i := 4) rfl)) (fun _ h9 => h9) rfl (tyX2_ok 4 (by decide)) rfl rfl (Nat.le_of_ble_eq_true rfl) dX2_saveNow_40 (fun H locs hP hD hS => ?_)
    have hP : va_P dd vwCl (wC cy ad (us4.1, us4.2.1, us4.2.2.1, us4.2.2.2.1, (nI 0), us4.2.2.2.2.2) ++ X) H := hP
    have hD : va_D A (wC cy ad (us4.1, us4.2.1, us4.2.2.1, us4.2.2.2.1, (nI 0), us4.2.2.2.2.2) ++ X) := hD
    obtain ⟨us5, hus5⟩ : ∃ z9z : CS, z9z = (us4.1, us4.2.1, us4.2.2.1, us4.2.2.2.1, (nI 0), us4.2.2.2.2.2) := ⟨_, rfl⟩
    rw [← hus5] at hP hD
    have pus5_1 : us5.1 = us4.1 := by rw [hus5]
    have pus5_21 : us5.2.1 = us4.2.1 := by rw [hus5]
    have pus5_221 : us5.2.2.1 = us4.2.2.1 := by rw [hus5]
    have pus5_222222 : us5.2.2.2.2.2.2 = us4.2.2.2.2.2.2 := by rw [hus5]
    have pus5_savedCount : us5.2.2.2.1 = us4.2.2.2.1 := by rw [hus5]
    have h_savedCount : (nI (n + 1)) = us5.2.2.2.1 := by rw [pus5_savedCount]; exact h_savedCount
    have h_solved : (nI 0) = us5.2.2.2.2.1 := by rw [hus5]
    have pus5_denominator : us5.2.2.2.2.2.1 = us4.2.2.2.2.2.1 := by rw [hus5]
    have eP1 : us5.1 = us2.1 := pus5_1.trans pus4_1
    have eP2 : us5.2.1 = us2.2.1 := pus5_21.trans pus4_21
    have eNB : ∀ c9, nwB us5 c9 = nwB us2 c9 := fun c9 => by unfold nwB; rw [eP1]
    have eN0 : ∀ c9, nwB u c9 = nwB u c9 := fun c9 => by unfold nwB; rw [hE.1]
    have eB : u.2.2.2.2.2.2 n = rotS n u.2.2.2.2.2.2 (kpM n) := by rw [mU.2, mU.1]
    rw [eB] at hcp
    exact W.vret hx hb hr (fun t ht hW => ⟨⟨us5, rfl, ⟨by rw [pus5_savedCount, ← h9_count, mU.1], h_solved.symm, by rw [pus5_222222, pus4_222222, hcp.2.2.2]; exact hE.2.2.2.1, fun k9 h9 => by rw [eNB, hcp.1 k9 h9, eN0]; rfl, fun j9 h9 => by rw [eP2, hcp.2.1 j9 h9, hE.2.1], fun c9 h9 h8 => ⟨by rw [eNB, (hcp.2.2.1 c9 h9 h8).1, eN0], by rw [eP2, (hcp.2.2.1 c9 h9 h8).2, hE.2.1]⟩⟩, by rw [ht]; exact hP, va_K.moved hW.alike hK, hD⟩, hS.F ht⟩) hS.2.2 dX2_saveNow_43
  · refine lv_aload_n hx hb dX2_saveNow_8 rfl (lv_at hl 0 rfl) ?_
    have hn4 : n = 4 := by omega
    subst hn4
    refine wc_callv (va_runV (As := []) (rest := []) ⟨hx, hb, hml, hown, hts⟩ (c_X2_dropOldest l dd cy ad X tt u _ hok h_savedCount) (cwV 0 hts gX2_saveNow_X2_dropOldest rfl rfl rfl hd_X2_dropOldest ⟨Nat.le_of_ble_eq_true rfl, Nat.le_of_ble_eq_true rfl⟩) (wrC_V hP hK hD hSt hS hA (wC_0 cy ad u X) rfl) rfl rfl hl.1 rfl (lv_room (Nat.le_of_ble_eq_true rfl)) dX2_saveNow_9 ⟨Nat.le_of_ble_eq_true rfl, Nat.le_of_ble_eq_true rfl⟩) hD hS hA (fun us7 H locs w8 hP hD hS => ?_)
    obtain ⟨dC, dV, d1, d2, d3, d4, d5⟩ := w8
    have h_savedCount : nI 3 = us7.2.2.2.1 := dC.symm
    have mU : kpM 4 = 3 := rfl
    have hE : us7.1 = u.1 ∧ us7.2.1 = u.2.1 ∧ us7.2.2.1 = u.2.2.1 ∧ us7.2.2.2.2.2.2 = rotS 4 u.2.2.2.2.2.2 ∧ us7.2.2.2.2.2.1 = u.2.2.2.2.2.1 := ⟨d1, d2, d3, dV, d5⟩
    have hr9 : svOk (rotS 4 u.2.2.2.2.2.2) := rotS_ok hok
    have hB9 : 1 ≤ us7.2.2.2.2.2.2 3 ∧ us7.2.2.2.2.2.2 3 < 5 := by rw [hE.2.2.2.1]; exact hr9.1 3 (by omega)
    refine lv_aload_n hx hb dX2_saveNow_12 rfl (lv_at hl 0 rfl) ?_
    refine va_get (D := dd) (ci := 4) (v := .ref (ad 1)) (C := RX2) (T := TX2) (N := 7) hx hb hts (fun _ h9 => List.mem_cons_of_mem _ (List.mem_append_left _ (List.mem_append_right _ h9))) hown hK hP (0) (wC_0 cy ad us7 X) rfl 1 (by decide) (hts (Cond.fieldLink RX2 16 "HeadGrid" "saved" "[LHeadGrid$State;") (List.mem_of_getElem? (i := 2) rfl)) (fun _ h9 => h9) rfl dX2_saveNow_13 ?_
    refine lv_aload_n hx hb dX2_saveNow_16 rfl (lv_at hl 0 rfl) ?_
    refine va_get (D := dd) (ci := 4) (v := .int (nI 3)) (C := RX2) (T := TX2) (N := 7) hx hb hts (fun _ h9 => List.mem_cons_of_mem _ (List.mem_append_left _ (List.mem_append_right _ h9))) hown hK hP (0) (wC_0 cy ad us7 X) rfl 2 (by decide) (hts (Cond.fieldLink RX2 20 "HeadGrid" "savedCount" "I") (List.mem_of_getElem? (i := 1) rfl)) (fun _ h9 => h9) (by rw [h_savedCount]; rfl) dX2_saveNow_17 ?_
    refine wa_aaldO hx hb hK hP (wC_1 cy ad us7 X) (t0 := 3) rfl (i := 3) (by omega) (by decide) rfl dX2_saveNow_20 ?_
    refine lv_aload_n hx hb dX2_saveNow_21 rfl (lv_at hl 0 rfl) ?_
    refine va_get (D := dd) (ci := 4) (v := .ref (ad 17)) (C := RX2) (T := TX2) (N := 7) hx hb hts (fun _ h9 => List.mem_cons_of_mem _ (List.mem_append_left _ (List.mem_append_right _ h9))) hown hK hP (0) (wC_0 cy ad us7 X) rfl 0 (by decide) (hts (Cond.fieldLink RX2 10 "HeadGrid" "now" "LHeadGrid$State;") (List.mem_of_getElem? (i := 3) rfl)) (fun _ h9 => h9) rfl dX2_saveNow_22 ?_
    refine wc_callv (va_runV (As := [.ref (ad 17)]) (rest := []) ⟨hx, hb, hml, hown, hts⟩ (c_X1_copyFrom l dd cy ad X tt us7 _ (us7.2.2.2.2.2.2 3) 0 hB9.2 (by decide) (by omega)) (cwV 1 hts gX2_saveNow_X1_copyFrom rfl rfl rfl hd_X1_copyFrom ⟨Nat.le_of_ble_eq_true rfl, Nat.le_of_ble_eq_true rfl⟩) (wrC_V hP hK hD hSt hS hA (wC_st cy ad us7 X (b := (us7.2.2.2.2.2.2 3)) (by omega)) rfl) rfl rfl hl.1 rfl (lv_room (Nat.le_of_ble_eq_true rfl)) dX2_saveNow_25 ⟨Nat.le_of_ble_eq_true rfl, Nat.le_of_ble_eq_true rfl⟩) hD hS hA (fun us10 H locs w11 hP hD hS => ?_)
    have hcp := w11
    have h_savedCount : nI 3 = us10.2.2.2.1 := by rw [hcp.2.2.2]; exact h_savedCount
    refine lv_aload_n hx hb dX2_saveNow_28 rfl (lv_at hl 0 rfl) ?_
    refine lv_dup hx hb dX2_saveNow_29 rfl ?_
    refine va_get (D := dd) (ci := 4) (v := .int (nI 3)) (C := RX2) (T := TX2) (N := 7) hx hb hts (fun _ h9 => List.mem_cons_of_mem _ (List.mem_append_left _ (List.mem_append_right _ h9))) hown hK hP (0) (wC_0 cy ad us10 X) rfl 2 (by decide) (hts (Cond.fieldLink RX2 20 "HeadGrid" "savedCount" "I") (List.mem_of_getElem? (i := 1) rfl)) (fun _ h9 => h9) (by rw [h_savedCount]; rfl) dX2_saveNow_30 ?_
    refine lv_iconst (v := nI 1) hx hb dX2_saveNow_33 (by decide) ?_
    refine wn_iadd hx hb dX2_saveNow_34 ?_
    refine va_put (D := dd) (ci := 4) (v := .int (nI (3 + 1))) (ty := .int) (C := RX2) (T := TX2) (N := 7) hx hb hts (fun _ h9 => List.mem_cons_of_mem _ (List.mem_append_left _ (List.mem_append_right _ h9))) tyX2 tyX2_ok nmX2 hown hK hP hD hS (0) (wC_0 cy ad us10 X) rfl 2 (by decide) (hts (Cond.fieldLink RX2 20 "HeadGrid" "savedCount" "I") (List.mem_of_getElem? (i := 1) rfl)) (fun _ h9 => h9) rfl (tyX2_ok 2 (by decide)) rfl rfl (Nat.le_of_ble_eq_true rfl) dX2_saveNow_35 (fun H locs hP hD hS => ?_)
    have hP : va_P dd vwCl (wC cy ad (us10.1, us10.2.1, us10.2.2.1, (nI (3 + 1)), us10.2.2.2.2) ++ X) H := hP
    have hD : va_D A (wC cy ad (us10.1, us10.2.1, us10.2.2.1, (nI (3 + 1)), us10.2.2.2.2) ++ X) := hD
    obtain ⟨us12, hus12⟩ : ∃ z9z : CS, z9z = (us10.1, us10.2.1, us10.2.2.1, (nI (3 + 1)), us10.2.2.2.2) := ⟨_, rfl⟩
    rw [← hus12] at hP hD
    have pus12_1 : us12.1 = us10.1 := by rw [hus12]
    have pus12_21 : us12.2.1 = us10.2.1 := by rw [hus12]
    have pus12_221 : us12.2.2.1 = us10.2.2.1 := by rw [hus12]
    have pus12_222222 : us12.2.2.2.2.2.2 = us10.2.2.2.2.2.2 := by rw [hus12]
    have h_savedCount : (nI (3 + 1)) = us12.2.2.2.1 := by rw [hus12]
    have pus12_solved : us12.2.2.2.2.1 = us10.2.2.2.2.1 := by rw [hus12]
    have pus12_denominator : us12.2.2.2.2.2.1 = us10.2.2.2.2.2.1 := by rw [hus12]
    have h9_count := h_savedCount
    refine lv_aload_n hx hb dX2_saveNow_38 rfl (lv_at hl 0 rfl) ?_
    refine lv_iconst (v := nI 0) hx hb dX2_saveNow_39 (by decide) ?_
    refine va_put (D := dd) (ci := 4) (v := .int (nI 0)) (ty := .boolean) (C := RX2) (T := TX2) (N := 7) hx hb hts (fun _ h9 => List.mem_cons_of_mem _ (List.mem_append_left _ (List.mem_append_right _ h9))) tyX2 tyX2_ok nmX2 hown hK hP hD hS (0) (wC_0 cy ad us12 X) rfl 4 (by decide) (hts (Cond.fieldLink RX2 31 "HeadGrid" "solved" "Z") (List.mem_of_getElem? (i := 4) rfl)) (fun _ h9 => h9) rfl (tyX2_ok 4 (by decide)) rfl rfl (Nat.le_of_ble_eq_true rfl) dX2_saveNow_40 (fun H locs hP hD hS => ?_)
    have hP : va_P dd vwCl (wC cy ad (us12.1, us12.2.1, us12.2.2.1, us12.2.2.2.1, (nI 0), us12.2.2.2.2.2) ++ X) H := hP
    have hD : va_D A (wC cy ad (us12.1, us12.2.1, us12.2.2.1, us12.2.2.2.1, (nI 0), us12.2.2.2.2.2) ++ X) := hD
    obtain ⟨us13, hus13⟩ : ∃ z9z : CS, z9z = (us12.1, us12.2.1, us12.2.2.1, us12.2.2.2.1, (nI 0), us12.2.2.2.2.2) := ⟨_, rfl⟩
    rw [← hus13] at hP hD
    have pus13_1 : us13.1 = us12.1 := by rw [hus13]
    have pus13_21 : us13.2.1 = us12.2.1 := by rw [hus13]
    have pus13_221 : us13.2.2.1 = us12.2.2.1 := by rw [hus13]
    have pus13_222222 : us13.2.2.2.2.2.2 = us12.2.2.2.2.2.2 := by rw [hus13]
    have pus13_savedCount : us13.2.2.2.1 = us12.2.2.2.1 := by rw [hus13]
    have h_savedCount : (nI (3 + 1)) = us13.2.2.2.1 := by rw [pus13_savedCount]; exact h_savedCount
    have h_solved : (nI 0) = us13.2.2.2.2.1 := by rw [hus13]
    have pus13_denominator : us13.2.2.2.2.2.1 = us12.2.2.2.2.2.1 := by rw [hus13]
    have eP1 : us13.1 = us10.1 := pus13_1.trans pus12_1
    have eP2 : us13.2.1 = us10.2.1 := pus13_21.trans pus12_21
    have eNB : ∀ c9, nwB us13 c9 = nwB us10 c9 := fun c9 => by unfold nwB; rw [eP1]
    have eN0 : ∀ c9, nwB us7 c9 = nwB u c9 := fun c9 => by unfold nwB; rw [hE.1]
    have eB : us7.2.2.2.2.2.2 3 = rotS 4 u.2.2.2.2.2.2 (kpM 4) := by rw [hE.2.2.2.1, mU]
    rw [eB] at hcp
    exact W.vret hx hb hr (fun t ht hW => ⟨⟨us13, rfl, ⟨by rw [pus13_savedCount, ← h9_count, mU], h_solved.symm, by rw [pus13_222222, pus12_222222, hcp.2.2.2]; exact hE.2.2.2.1, fun k9 h9 => by rw [eNB, hcp.1 k9 h9, eN0]; rfl, fun j9 h9 => by rw [eP2, hcp.2.1 j9 h9, hE.2.1], fun c9 h9 h8 => ⟨by rw [eNB, (hcp.2.2.1 c9 h9 h8).1, eN0], by rw [eP2, (hcp.2.2.1 c9 h9 h8).2, hE.2.1]⟩⟩, by rw [ht]; exact hP, va_K.moved hW.alike hK, hD⟩, hS.F ht⟩) hS.2.2 dX2_saveNow_43

/-! the class: the solution of the balance equations -/
def frX (u u1 : CS) : Prop := u1.1 = u.1 ∧ u1.2.1 = u.2.1 ∧ u1.2.2.2 = u.2.2.2
theorem frX_rf {u : CS} : frX u u := ⟨rfl, rfl, rfl⟩
theorem frX_t {u u1 u2 : CS} (h : frX u u1) (h1 : frX u1 u2) : frX u u2 := ⟨h1.1.trans h.1, h1.2.1.trans h.2.1, h1.2.2.trans h.2.2⟩
theorem frX_nw {u u1 : CS} (h : frX u u1) : nw u1 = nw u := nw_congr h.1
theorem i64_a0 (x : Int64) : x + Int64.ofInt 0 = x := by rw [ofI_0, Int64.add_zero]
/-- what the class holds of a solution of the settings -/
def slv (now : Nat → Int32) (u : CS) : Prop := u.2.2.2.2.2.1 = Int64.ofInt (det 9 (AM now)) ∧ (nR (gNow now) 9 = 511 → (∀ a, a < 9 → ∀ b, b < 9 → u.2.2.1 (8 + a) (9 + b) = Int64.ofInt (cof 9 (AM now) a b)) ∧ ∀ a, a < 9 → u.2.2.1 5 a = (cn now).2.2.1 9 a)
theorem hd_X0_scaledInfluence : yX0_scaledInfluence.cls = RX0 ∧ yX0_scaledInfluence.cls ≠ "java/lang/invoke/MethodHandle" ∧ yX0_scaledInfluence.cls ≠ "java/lang/invoke/VarHandle" ∧ (parseMethodDescriptor yX0_scaledInfluence.desc).map (fun d => d.parameters.length) = some 2 := by decide +kernel
set_option maxHeartbeats 4000000 in
set_option maxRecDepth 100000 in
/-- scaledInfluence(i, j) -/
theorem c_X0_scaledInfluence (l : Launch) (dd : va_G) (cy : Nat → ClassId) (ad : Nat → Nat) (X : va_W) (tt : Nat × Nat) (u : CS) (i j : Nat) (hi : i < 9) (hj : j < 9) : Met l yX0_scaledInfluence wsX0_scaledInfluence ({ frames := 0, cells := 0, slots := 0, locals := 0 }) (va_Pc [.ref (ad 2), .int (nI i), .int (nI j)] (rdC dd cy tt (wC cy ad u ++ X))) (vp_Sl (fun r => r = u.2.2.1 (8 + i) (9 + j))) 0 0 (fun _ => False) := by
  refine Met.ofW (cc := cX0_scaledInfluence) (maxL := 3) (ret := (some .long)) (by decide) rfl ?_
  intro p e s m args below meth c s₁ B hml hv
  obtain ⟨rfl, hP, hK, hSt⟩ := hv
  have hx := B.exec
  have hb := B.bytes
  have hr := B.returns
  have hts := atoms_spec (ws := wsX0_scaledInfluence) B.pre
  have hown : s.vm.findClass RX0 = some m.cls := findClass_of_methodNamed B.named
  have hlocks := B.notSynchronized
  have hS : va_S (fun _ => False) s.heap s.heap [] := va_S.rf
  have hl := lv_entry ([.ref (ad 2), .int (nI i), .int (nI j)]) (n := 3) (Nat.le_of_ble_eq_true rfl)
  rw [lg_entry_eq]
  generalize (lg_sl ([.ref (ad 2), .int (nI i), .int (nI j)]) ++ List.replicate (3 - (lg_sl ([.ref (ad 2), .int (nI i), .int (nI j)])).length) Slot.unset).toArray = ls at hl ⊢
  have hl : lv_has ls 3 [(0, .ref (ad 2)), (1, .int (nI i)), (2, .int (nI j))] := hl
  refine lv_aload_n hx hb dX0_scaledInfluence_0 rfl (lv_at hl 0 rfl) ?_
  refine va_get (D := dd) (ci := 2) (v := .ref (ad 3)) (C := RX0) (T := TX0) (N := 4) hx hb hts (fun _ h9 => List.mem_cons_of_mem _ (List.mem_append_left _ (List.mem_append_right _ h9))) hown hK hP (2) (wC_2 cy ad u X) rfl 0 (by decide) (hts (Cond.fieldLink RX0 11 "HeadGrid$Solution" "rows" "[[J") (List.mem_of_getElem? (i := 1) rfl)) (fun _ h9 => h9) rfl dX0_scaledInfluence_1 ?_
  refine lv_iload_n hx hb dX0_scaledInfluence_4 rfl (lv_at hl 1 rfl) ?_
  refine wa_aaldA hx hb hK hP (wC_3 cy ad u X) (t0 := 4) rfl (i := i) (by omega) (by decide) rfl dX0_scaledInfluence_5 ?_
  refine lv_bipush (v := nI 9) hx hb dX0_scaledInfluence_6 (by decide) ?_
  refine lv_iload_n hx hb dX0_scaledInfluence_8 rfl (lv_at hl 2 rfl) ?_
  refine wn_iadd hx hb dX0_scaledInfluence_9 ?_
  refine wa_lald hx hb hK hP (wC_row cy ad u X (i := i) (by omega)) (t0 := 1) rfl (i := 9 + j) (by omega) (by decide) dX0_scaledInfluence_10 ?_
  exact W.lret (v := u.2.2.1 (8 + i) (9 + j)) hx hb hr (fun t ht hW => ⟨u.2.2.1 (8 + i) (9 + j), rfl, rfl, ht⟩) (fun q hq => absurd hq List.not_mem_nil) dX0_scaledInfluence_11
theorem hd_X0_fillUnitMatrix : yX0_fillUnitMatrix.cls = RX0 ∧ yX0_fillUnitMatrix.cls ≠ "java/lang/invoke/MethodHandle" ∧ yX0_fillUnitMatrix.cls ≠ "java/lang/invoke/VarHandle" ∧ (parseMethodDescriptor yX0_fillUnitMatrix.desc).map (fun d => d.parameters.length) = some 0 := by decide +kernel
set_option maxHeartbeats 4000000 in
set_option maxRecDepth 100000 in
/-- fillUnitMatrix() -/
theorem c_X0_fillUnitMatrix (l : Launch) (dd : va_G) (cy : Nat → ClassId) (ad : Nat → Nat) (X : va_W) (tt : Nat × Nat) (u : CS) (sz : Nat)  : Met l yX0_fillUnitMatrix wsX0_fillUnitMatrix ({ frames := 1, cells := 0, slots := 0, locals := 24 }) (va_Pc [.ref (ad 2)] (wrC dd cy tt (wC cy ad u ++ X) sz)) (va_Qv (fun u9 => frX u u9 ∧ ∀ i, i < 9 → ∀ j, j < 18 → u9.2.2.1 (8 + i) j = if j = 9 + i then 1 else 0) (wB dd cy (fun u9 : CS => wC cy ad u9 ++ X) (va_A (wC cy ad u ++ X) sz)) (va_A (wC cy ad u ++ X) sz)) 0 0 (va_A (wC cy ad u ++ X) sz) := by
  refine Met.ofW (cc := cX0_fillUnitMatrix) (maxL := 2) (ret := none) (by decide) rfl ?_
  intro p e s m args below meth c s₁ B hml hv
  obtain ⟨rfl, hsz, hP, hK, hD0, hSt⟩ := hv
  have hx := B.exec
  have hb := B.bytes
  have hr := B.returns
  have hts := atoms_spec (ws := wsX0_fillUnitMatrix) B.pre
  have hown : s.vm.findClass RX0 = some m.cls := findClass_of_methodNamed B.named
  have hlocks := B.notSynchronized
  subst hsz
  have hD := hD0.self (sz := s.heap.size)
  generalize hAe : va_A (wC cy ad u ++ X) s.heap.size = A at hD hSt ⊢
  have hA : ∀ q : Nat, s.heap.size ≤ q → A q := fun q h => by rw [← hAe]; exact Or.inr h
  have hS : va_S A s.heap s.heap [] := va_S.rf
  have hl := lv_entry ([.ref (ad 2)]) (n := 2) (Nat.le_of_ble_eq_true rfl)
  rw [lg_entry_eq]
  generalize (lg_sl ([.ref (ad 2)]) ++ List.replicate (2 - (lg_sl ([.ref (ad 2)])).length) Slot.unset).toArray = ls at hl ⊢
  have hl : lv_has ls 2 [(0, .ref (ad 2))] := hl
  refine lv_iconst (v := nI 0) hx hb dX0_fillUnitMatrix_0 (by decide) ?_
  refine lv_istore_n (lv' := [(1, .int (nI 0)), (0, .ref (ad 2))]) hx hb dX0_fillUnitMatrix_1 rfl hl (by decide) rfl (fun ls hl => ?_)
  refine wLoop (σ := Nat × CS) (fun k x H locs ls => k = 9 - x.1 ∧ (x.1 ≤ 9) ∧ (frX u x.2) ∧ (∀ i9, i9 < x.1 → ∀ j9, j9 < 18 → x.2.2.2.1 (8 + i9) j9 = if j9 = 9 + i9 then 1 else 0) ∧ va_P dd vwCl (wC cy ad x.2 ++ X) H ∧ va_D A (wC cy ad x.2 ++ X) ∧ va_S A s.heap H locs ∧ lv_has ls 2 [(1, .int (nI x.1)), (0, .ref (ad 2))]) ?_ _ (0, u) _ _ _ ⟨rfl, (Nat.zero_le _), frX_rf, (fun i9 h9 => absurd h9 (Nat.not_lt_zero i9)), hP, hD, hS, lv_sub hl [0, 1] rfl⟩
  intro k x H locs ls hI ih
  obtain ⟨j0, u1⟩ := x
  obtain ⟨hk, hj, hF, hM, hP, hD, hS, hl⟩ := hI
  have hk : k = 9 - j0 := hk
  have hj : j0 ≤ 9 := hj
  have hF : frX u u1 := hF
  have hM : ∀ i9, i9 < j0 → ∀ j9, j9 < 18 → u1.2.2.1 (8 + i9) j9 = if j9 = 9 + i9 then 1 else 0 := hM
  have hP : va_P dd vwCl (wC cy ad u1 ++ X) H := hP
  have hD : va_D A (wC cy ad u1 ++ X) := hD
  have hl : lv_has ls 2 [(1, .int (nI j0)), (0, .ref (ad 2))] := hl
  refine lv_iload_n hx hb dX0_fillUnitMatrix_2 rfl (lv_at hl 0 rfl) ?_
  refine lv_bipush (v := nI 9) hx hb dX0_fillUnitMatrix_3 (by decide) ?_
  refine wn_icmp_ge (tgt := 36) hx hb dX0_fillUnitMatrix_5 (by decide) (by omega) (by omega) (fun c1 => ?_) (fun c1 => ?_)
  · exact W.vret hx hb hr (fun t ht hW => ⟨⟨u1, rfl, ⟨hF, fun i9 hi9 j9 hj9 => hM i9 (by omega) j9 hj9⟩, by rw [ht]; exact hP, va_K.moved hW.alike hK, hD⟩, hS.F ht⟩) hS.2.2 dX0_fillUnitMatrix_36
  · refine lv_aload_n hx hb dX0_fillUnitMatrix_8 rfl (lv_at hl 1 rfl) ?_
    refine va_get (D := dd) (ci := 2) (v := .ref (ad 3)) (C := RX0) (T := TX0) (N := 4) hx hb hts (fun _ h9 => List.mem_cons_of_mem _ (List.mem_append_left _ (List.mem_append_right _ h9))) hown hK hP (2) (wC_2 cy ad u1 X) rfl 0 (by decide) (hts (Cond.fieldLink RX0 11 "HeadGrid$Solution" "rows" "[[J") (List.mem_of_getElem? (i := 1) rfl)) (fun _ h9 => h9) rfl dX0_fillUnitMatrix_9 ?_
    refine lv_iload_n hx hb dX0_fillUnitMatrix_12 rfl (lv_at hl 0 rfl) ?_
    refine wa_aaldA hx hb hK hP (wC_3 cy ad u1 X) (t0 := 4) rfl (i := j0) (by omega) (by decide) rfl dX0_fillUnitMatrix_13 ?_
    refine lv_lconst (v := 0) hx hb dX0_fillUnitMatrix_14 rfl ?_
    refine wc_callv (va_runS (As := [.ref (ad (8 + j0)), .long 0]) (rest := []) ⟨hx, hb, hml, hown, hts⟩ (c_J7_fill_d0a16 l dd cy _ (8 + j0) _ 18 _ (wC_row cy ad u1 X (i := j0) (by omega)) (by decide) _ 0) (va_cwS 2 hts gX0_fillUnitMatrix_J7_fill_d0a16 rfl rfl rfl hd_J7_fill_d0a16 ⟨Nat.le_of_ble_eq_true rfl, Nat.le_of_ble_eq_true rfl⟩) (wrW_S hP hK hD) rfl rfl hl.1 rfl (lv_room (Nat.le_of_ble_eq_true rfl)) dX0_fillUnitMatrix_15 ⟨Nat.le_of_ble_eq_true rfl, Nat.le_of_ble_eq_true rfl⟩) hD hS hA (fun g2 H locs w3 hP hD hS => ?_)
    rw [wC_srow cy ad u1 X (i := j0) (by omega) g2] at hP hD
    obtain ⟨us4, hus4⟩ : ∃ z9z : CS, z9z = (u1.1, u1.2.1, va_up u1.2.2.1 (8 + j0) g2, u1.2.2.2) := ⟨_, rfl⟩
    rw [← hus4] at hP hD
    have pus4_s : us4.2.2.1 (8 + j0) = g2 := by rw [hus4]; first | exact va_up_s _ _ _ | rfl
    have pus4_o : ∀ j9, j9 ≠ 8 + j0 → us4.2.2.1 j9 = u1.2.2.1 j9 := fun j9 h9 => by rw [hus4]; exact va_up_n h9
    have pus4_1 : us4.1 = u1.1 := by rw [hus4]
    have pus4_21 : us4.2.1 = u1.2.1 := by rw [hus4]
    have pus4_222 : us4.2.2.2 = u1.2.2.2 := by rw [hus4]
    refine lv_aload_n hx hb dX0_fillUnitMatrix_18 rfl (lv_at hl 1 rfl) ?_
    refine va_get (D := dd) (ci := 2) (v := .ref (ad 3)) (C := RX0) (T := TX0) (N := 4) hx hb hts (fun _ h9 => List.mem_cons_of_mem _ (List.mem_append_left _ (List.mem_append_right _ h9))) hown hK hP (2) (wC_2 cy ad us4 X) rfl 0 (by decide) (hts (Cond.fieldLink RX0 11 "HeadGrid$Solution" "rows" "[[J") (List.mem_of_getElem? (i := 1) rfl)) (fun _ h9 => h9) rfl dX0_fillUnitMatrix_19 ?_
    refine lv_iload_n hx hb dX0_fillUnitMatrix_22 rfl (lv_at hl 0 rfl) ?_
    refine wa_aaldA hx hb hK hP (wC_3 cy ad us4 X) (t0 := 4) rfl (i := j0) (by omega) (by decide) rfl dX0_fillUnitMatrix_23 ?_
    refine lv_bipush (v := nI 9) hx hb dX0_fillUnitMatrix_24 (by decide) ?_
    refine lv_iload_n hx hb dX0_fillUnitMatrix_26 rfl (lv_at hl 0 rfl) ?_
    refine wn_iadd hx hb dX0_fillUnitMatrix_27 ?_
    refine lv_lconst (v := 1) hx hb dX0_fillUnitMatrix_28 rfl ?_
    refine wa_last hx hb hK hP hD hS (wC_row cy ad us4 X (i := j0) (by omega)) (t0 := 1) rfl (i := 9 + j0) (by omega) (by decide) dX0_fillUnitMatrix_29 (wC_srow cy ad us4 X (i := j0) (by omega) _) (fun H locs hP hD hS => ?_)
    obtain ⟨us5, hus5⟩ : ∃ z9z : CS, z9z = (us4.1, us4.2.1, va_up us4.2.2.1 (8 + j0) (vp_updL (us4.2.2.1 (8 + j0)) (9 + j0) 1), us4.2.2.2) := ⟨_, rfl⟩
    rw [← hus5] at hP hD
    have pus5_s : us5.2.2.1 (8 + j0) = (vp_updL (us4.2.2.1 (8 + j0)) (9 + j0) 1) := by rw [hus5]; first | exact va_up_s _ _ _ | rfl
    have pus5_o : ∀ j9, j9 ≠ 8 + j0 → us5.2.2.1 j9 = us4.2.2.1 j9 := fun j9 h9 => by rw [hus5]; exact va_up_n h9
    have pus5_1 : us5.1 = us4.1 := by rw [hus5]
    have pus5_21 : us5.2.1 = us4.2.1 := by rw [hus5]
    have pus5_222 : us5.2.2.2 = us4.2.2.2 := by rw [hus5]
    refine lv_iinc (v := (nI (j0 + 1))) (lv' := [(1, .int (nI (j0 + 1))), (0, .ref (ad 2))]) hx hb dX0_fillUnitMatrix_30 hl (k := 0) rfl (nI_1 _) (by decide) rfl (fun ls hl => ?_)
    refine lv_goto (tgt := 2) hx hb dX0_fillUnitMatrix_33 (by decide) ?_
    exact ih (9 - (j0 + 1)) (j0 + 1, us5) _ _ ls (by omega) ⟨rfl, (by show j0 + 1 ≤ 9; omega), ⟨(pus5_1.trans pus4_1).trans hF.1, (pus5_21.trans pus4_21).trans hF.2.1, (pus5_222.trans pus4_222).trans hF.2.2⟩, (fun i9 hi9 j9 hj9 => (Classical.em (i9 = j0)).elim (fun e9 => by subst e9; rw [pus5_s, pus4_s, w3]; unfold vp_updL; exact (Classical.em (j9 = 9 + i9)).elim (fun q9 => by rw [if_pos q9, if_pos q9]) (fun q9 => by rw [if_neg q9, if_neg q9]; exact if_pos hj9)) (fun e9 => by rw [pus5_o _ (by omega), pus4_o _ (by omega)]; exact hM i9 (by omega) j9 hj9)), hP, hD, hS, lv_sub hl [0, 1] rfl⟩
theorem hd_X0_fillSupplies : yX0_fillSupplies.cls = RX0 ∧ yX0_fillSupplies.cls ≠ "java/lang/invoke/MethodHandle" ∧ yX0_fillSupplies.cls ≠ "java/lang/invoke/VarHandle" ∧ (parseMethodDescriptor yX0_fillSupplies.desc).map (fun d => d.parameters.length) = some 1 := by decide +kernel
set_option maxHeartbeats 4000000 in
set_option maxRecDepth 100000 in
/-- fillSupplies(state) -/
theorem c_X0_fillSupplies (l : Launch) (dd : va_G) (cy : Nat → ClassId) (ad : Nat → Nat) (X : va_W) (tt : Nat × Nat) (u : CS) (sz : Nat)  : Met l yX0_fillSupplies wsX0_fillSupplies ({ frames := 0, cells := 0, slots := 0, locals := 0 }) (va_Pc [.ref (ad 2), .ref (ad 17)] (wrC dd cy tt (wC cy ad u ++ X) sz)) (va_Qv (fun u9 => frX u u9 ∧ (∀ k, k ≠ 4 → u9.2.2.1 k = u.2.2.1 k) ∧ ∀ i, i < 9 → u9.2.2.1 4 i = (nw u (36 + i) - nw u (45 + i)).toInt64) (wB dd cy (fun u9 : CS => wC cy ad u9 ++ X) (va_A (wC cy ad u ++ X) sz)) (va_A (wC cy ad u ++ X) sz)) 0 0 (va_A (wC cy ad u ++ X) sz) := by
  refine Met.ofW (cc := cX0_fillSupplies) (maxL := 3) (ret := none) (by decide) rfl ?_
  intro p e s m args below meth c s₁ B hml hv
  obtain ⟨rfl, hsz, hP, hK, hD0, hSt⟩ := hv
  have hx := B.exec
  have hb := B.bytes
  have hr := B.returns
  have hts := atoms_spec (ws := wsX0_fillSupplies) B.pre
  have hown : s.vm.findClass RX0 = some m.cls := findClass_of_methodNamed B.named
  have hlocks := B.notSynchronized
  subst hsz
  have hD := hD0.self (sz := s.heap.size)
  generalize hAe : va_A (wC cy ad u ++ X) s.heap.size = A at hD hSt ⊢
  have hA : ∀ q : Nat, s.heap.size ≤ q → A q := fun q h => by rw [← hAe]; exact Or.inr h
  have hS : va_S A s.heap s.heap [] := va_S.rf
  have hl := lv_entry ([.ref (ad 2), .ref (ad 17)]) (n := 3) (Nat.le_of_ble_eq_true rfl)
  rw [lg_entry_eq]
  generalize (lg_sl ([.ref (ad 2), .ref (ad 17)]) ++ List.replicate (3 - (lg_sl ([.ref (ad 2), .ref (ad 17)])).length) Slot.unset).toArray = ls at hl ⊢
  have hl : lv_has ls 3 [(0, .ref (ad 2)), (1, .ref (ad 17))] := hl
  refine lv_iconst (v := nI 0) hx hb dX0_fillSupplies_0 (by decide) ?_
  refine lv_istore_n (lv' := [(2, .int (nI 0)), (0, .ref (ad 2)), (1, .ref (ad 17))]) hx hb dX0_fillSupplies_1 rfl hl (by decide) rfl (fun ls hl => ?_)
  refine wLoop (σ := Nat × CS) (fun k x H locs ls => k = 9 - x.1 ∧ (x.1 ≤ 9) ∧ (frX u x.2) ∧ (∀ k9, k9 ≠ 4 → x.2.2.2.1 k9 = u.2.2.1 k9) ∧ (∀ i9, i9 < x.1 → x.2.2.2.1 4 i9 = (nw u (36 + i9) - nw u (45 + i9)).toInt64) ∧ va_P dd vwCl (wC cy ad x.2 ++ X) H ∧ va_D A (wC cy ad x.2 ++ X) ∧ va_S A s.heap H locs ∧ lv_has ls 3 [(2, .int (nI x.1)), (1, .ref (ad 17)), (0, .ref (ad 2))]) ?_ _ (0, u) _ _ _ ⟨rfl, (Nat.zero_le _), frX_rf, (fun _ _ => rfl), (fun i9 h9 => absurd h9 (Nat.not_lt_zero i9)), hP, hD, hS, lv_sub hl [0, 2, 1] rfl⟩
  intro k x H locs ls hI ih
  obtain ⟨j0, u1⟩ := x
  obtain ⟨hk, hj, hF, hO, hM, hP, hD, hS, hl⟩ := hI
  have hk : k = 9 - j0 := hk
  have hj : j0 ≤ 9 := hj
  have hF : frX u u1 := hF
  have hO : ∀ k9, k9 ≠ 4 → u1.2.2.1 k9 = u.2.2.1 k9 := hO
  have hM : ∀ i9, i9 < j0 → u1.2.2.1 4 i9 = (nw u (36 + i9) - nw u (45 + i9)).toInt64 := hM
  have hP : va_P dd vwCl (wC cy ad u1 ++ X) H := hP
  have hD : va_D A (wC cy ad u1 ++ X) := hD
  have hl : lv_has ls 3 [(2, .int (nI j0)), (1, .ref (ad 17)), (0, .ref (ad 2))] := hl
  refine lv_iload_n hx hb dX0_fillSupplies_2 rfl (lv_at hl 0 rfl) ?_
  refine lv_bipush (v := nI 9) hx hb dX0_fillSupplies_3 (by decide) ?_
  refine wn_icmp_ge (tgt := 34) hx hb dX0_fillSupplies_5 (by decide) (by omega) (by omega) (fun c1 => ?_) (fun c1 => ?_)
  · exact W.vret hx hb hr (fun t ht hW => ⟨⟨u1, rfl, ⟨hF, hO, fun i9 hi9 => hM i9 (by omega)⟩, by rw [ht]; exact hP, va_K.moved hW.alike hK, hD⟩, hS.F ht⟩) hS.2.2 dX0_fillSupplies_34
  · refine lv_aload_n hx hb dX0_fillSupplies_8 rfl (lv_at hl 2 rfl) ?_
    refine va_get (D := dd) (ci := 2) (v := .ref (ad 4)) (C := RX0) (T := TX0) (N := 4) hx hb hts (fun _ h9 => List.mem_cons_of_mem _ (List.mem_append_left _ (List.mem_append_left _ (List.mem_append_right _ h9)))) hown hK hP (2) (wC_2 cy ad u1 X) rfl 1 (by decide) (hts (Cond.fieldLink RX0 16 "HeadGrid$Solution" "supplies" "[J") (List.mem_of_getElem? (i := 1) rfl)) (fun _ h9 => h9) rfl dX0_fillSupplies_9 ?_
    refine lv_iload_n hx hb dX0_fillSupplies_12 rfl (lv_at hl 0 rfl) ?_
    refine lv_aload_n hx hb dX0_fillSupplies_13 rfl (lv_at hl 1 rfl) ?_
    refine va_get (D := dd) (ci := 3) (v := .ref (ad 20)) (C := RX1) (T := TX1) (N := 7) hx hb hts (fun _ h9 => List.mem_cons_of_mem _ (List.mem_append_left _ (List.mem_append_right _ h9))) hown hK hP (17) (wC_now cy ad u1 X) rfl 2 (by decide) (hts (Cond.fieldLink RX0 51 "HeadGrid$State" "recharges" "[I") (List.mem_of_getElem? (i := 2) rfl)) (fun _ h9 => h9) rfl dX0_fillSupplies_14 ?_
    refine lv_iload_n hx hb dX0_fillSupplies_17 rfl (lv_at hl 0 rfl) ?_
    refine wa_iald hx hb hK hP (wC_n2 cy ad u1 X) (t0 := 0) rfl (i := j0) (by omega) (by decide) dX0_fillSupplies_18 ?_
    refine lv_aload_n hx hb dX0_fillSupplies_19 rfl (lv_at hl 1 rfl) ?_
    refine va_get (D := dd) (ci := 3) (v := .ref (ad 21)) (C := RX1) (T := TX1) (N := 7) hx hb hts (fun _ h9 => List.mem_cons_of_mem _ (List.mem_append_left _ (List.mem_append_right _ h9))) hown hK hP (17) (wC_now cy ad u1 X) rfl 3 (by decide) (hts (Cond.fieldLink RX0 57 "HeadGrid$State" "rates" "[I") (List.mem_of_getElem? (i := 3) rfl)) (fun _ h9 => h9) rfl dX0_fillSupplies_20 ?_
    refine lv_iload_n hx hb dX0_fillSupplies_23 rfl (lv_at hl 0 rfl) ?_
    refine wa_iald hx hb hK hP (wC_n3 cy ad u1 X) (t0 := 0) rfl (i := j0) (by omega) (by decide) dX0_fillSupplies_24 ?_
    refine lv_isub hx hb dX0_fillSupplies_25 ?_
    refine lv_i2l hx hb dX0_fillSupplies_26 rfl ?_
    refine lv_topl (fun x2 ex2 => ?_)
    refine wa_last hx hb hK hP hD hS (wC_4 cy ad u1 X) (t0 := 1) rfl (i := j0) (by omega) (by decide) dX0_fillSupplies_27 (wC_s4 cy ad u1 X _) (fun H locs hP hD hS => ?_)
    obtain ⟨us3, hus3⟩ : ∃ z9z : CS, z9z = (u1.1, u1.2.1, va_up u1.2.2.1 4 (vp_updL (u1.2.2.1 4) j0 x2), u1.2.2.2) := ⟨_, rfl⟩
    rw [← hus3] at hP hD
    have pus3_s : us3.2.2.1 (4) = (vp_updL (u1.2.2.1 4) j0 x2) := by rw [hus3]; first | exact va_up_s _ _ _ | rfl
    have pus3_o : ∀ j9, j9 ≠ 4 → us3.2.2.1 j9 = u1.2.2.1 j9 := fun j9 h9 => by rw [hus3]; exact va_up_n h9
    have pus3_1 : us3.1 = u1.1 := by rw [hus3]
    have pus3_21 : us3.2.1 = u1.2.1 := by rw [hus3]
    have pus3_222 : us3.2.2.2 = u1.2.2.2 := by rw [hus3]
    refine lv_iinc (v := (nI (j0 + 1))) (lv' := [(2, .int (nI (j0 + 1))), (1, .ref (ad 17)), (0, .ref (ad 2))]) hx hb dX0_fillSupplies_28 hl (k := 0) rfl (nI_1 _) (by decide) rfl (fun ls hl => ?_)
    refine lv_goto (tgt := 2) hx hb dX0_fillSupplies_31 (by decide) ?_
    exact ih (9 - (j0 + 1)) (j0 + 1, us3) _ _ ls (by omega) ⟨rfl, (by show j0 + 1 ≤ 9; omega), ⟨pus3_1.trans hF.1, pus3_21.trans hF.2.1, pus3_222.trans hF.2.2⟩, (fun k9 h9 => (pus3_o k9 h9).trans (hO k9 h9)), (fun i9 hi9 => by rw [pus3_s]; unfold vp_updL; exact (Classical.em (i9 = j0)).elim (fun e9 => by subst e9; rw [if_pos rfl, ex2, hF.1, nw_2 u (by omega), nw_3 u (by omega)]) (fun e9 => by rw [if_neg e9]; exact hM i9 (by omega))), hP, hD, hS, lv_sub hl [0, 1, 2] rfl⟩
theorem hd_X0_addEnd : yX0_addEnd.cls = RX0 ∧ yX0_addEnd.cls ≠ "java/lang/invoke/MethodHandle" ∧ yX0_addEnd.cls ≠ "java/lang/invoke/VarHandle" ∧ (parseMethodDescriptor yX0_addEnd.desc).map (fun d => d.parameters.length) = some 4 := by decide +kernel
set_option maxHeartbeats 4000000 in
set_option maxRecDepth 100000 in
/-- addEnd(state, link, end, other) -/
theorem c_X0_addEnd (l : Launch) (dd : va_G) (cy : Nat → ClassId) (ad : Nat → Nat) (X : va_W) (tt : Nat × Nat) (u : CS) (sz : Nat) (k0 e0 o0 : Nat) (hk0 : k0 < 24) (he0 : e0 < 21) (ho0 : o0 < 21) (heo : e0 ≠ o0) : Met l yX0_addEnd wsX0_addEnd ({ frames := 0, cells := 0, slots := 0, locals := 0 }) (va_Pc [.ref (ad 2), .ref (ad 17), .int (nI k0), .int (nI e0), .int (nI o0)] (wrC dd cy tt (wC cy ad u ++ X) sz)) (va_Qv (fun u9 => frX u u9 ∧ (∀ i, i < 9 → ∀ j, j < 18 → u9.2.2.1 (8 + i) j = u.2.2.1 (8 + i) j + Int64.ofInt (ceR (nw u) k0 e0 o0 i j)) ∧ ∀ i, i < 9 → u9.2.2.1 4 i = u.2.2.1 4 i + Int64.ofInt (ceS (nw u) k0 e0 o0 i)) (wB dd cy (fun u9 : CS => wC cy ad u9 ++ X) (va_A (wC cy ad u ++ X) sz)) (va_A (wC cy ad u ++ X) sz)) 0 0 (va_A (wC cy ad u ++ X) sz) := by
  refine Met.ofW (cc := cX0_addEnd) (maxL := 7) (ret := none) (by decide) rfl ?_
  intro p e s m args below meth c s₁ B hml hv
  obtain ⟨rfl, hsz, hP, hK, hD0, hSt⟩ := hv
  have hx := B.exec
  have hb := B.bytes
  have hr := B.returns
  have hts := atoms_spec (ws := wsX0_addEnd) B.pre
  have hown : s.vm.findClass RX0 = some m.cls := findClass_of_methodNamed B.named
  have hlocks := B.notSynchronized
  subst hsz
  have hD := hD0.self (sz := s.heap.size)
  generalize hAe : va_A (wC cy ad u ++ X) s.heap.size = A at hD hSt ⊢
  have hA : ∀ q : Nat, s.heap.size ≤ q → A q := fun q h => by rw [← hAe]; exact Or.inr h
  have hS : va_S A s.heap s.heap [] := va_S.rf
  have hl := lv_entry ([.ref (ad 2), .ref (ad 17), .int (nI k0), .int (nI e0), .int (nI o0)]) (n := 7) (Nat.le_of_ble_eq_true rfl)
  rw [lg_entry_eq]
  generalize (lg_sl ([.ref (ad 2), .ref (ad 17), .int (nI k0), .int (nI e0), .int (nI o0)]) ++ List.replicate (7 - (lg_sl ([.ref (ad 2), .ref (ad 17), .int (nI k0), .int (nI e0), .int (nI o0)])).length) Slot.unset).toArray = ls at hl ⊢
  have hl : lv_has ls 7 [(0, .ref (ad 2)), (1, .ref (ad 17)), (2, .int (nI k0)), (3, .int (nI e0)), (4, .int (nI o0))] := hl
  refine lv_iload_n hx hb dX0_addEnd_0 rfl (lv_at hl 3 rfl) ?_
  refine lv_bipush (v := nI 9) hx hb dX0_addEnd_1 (by decide) ?_
  refine wn_icmp_lt (tgt := 7) hx hb dX0_addEnd_3 (by decide) (by omega) (by omega) (fun cE => ?_) (fun cE => ?_)
  · refine lv_aload_n hx hb dX0_addEnd_7 rfl (lv_at hl 1 rfl) ?_
    refine va_get (D := dd) (ci := 3) (v := .ref (ad 18)) (C := RX1) (T := TX1) (N := 7) hx hb hts (fun _ h9 => List.mem_cons_of_mem _ (List.mem_append_left _ (List.mem_append_left _ (List.mem_append_right _ h9)))) hown hK hP (17) (wC_now cy ad u X) rfl 0 (by decide) (hts (Cond.fieldLink RX0 70 "HeadGrid$State" "conductances" "[I") (List.mem_of_getElem? (i := 1) rfl)) (fun _ h9 => h9) rfl dX0_addEnd_8 ?_
    refine lv_iload_n hx hb dX0_addEnd_11 rfl (lv_at hl 2 rfl) ?_
    refine wa_iald hx hb hK hP (wC_n0 cy ad u X) (t0 := 0) rfl (i := k0) (by omega) (by decide) dX0_addEnd_12 ?_
    refine lv_i2l hx hb dX0_addEnd_13 rfl ?_
    refine lv_topl (fun x1 ex1 => ?_)
    refine lv_lstore (lv' := [(5, .long x1), (0, .ref (ad 2)), (1, .ref (ad 17)), (2, .int (nI k0)), (3, .int (nI e0)), (4, .int (nI o0))]) hx hb dX0_addEnd_14 hl (by decide) rfl (fun ls hl => ?_)
    refine lv_aload_n hx hb dX0_addEnd_16 rfl (lv_at hl 1 rfl) ?_
    refine va_get (D := dd) (ci := 2) (v := .ref (ad 3)) (C := RX0) (T := TX0) (N := 4) hx hb hts (fun _ h9 => List.mem_cons_of_mem _ (List.mem_append_left _ (List.mem_append_right _ h9))) hown hK hP (2) (wC_2 cy ad u X) rfl 0 (by decide) (hts (Cond.fieldLink RX0 11 "HeadGrid$Solution" "rows" "[[J") (List.mem_of_getElem? (i := 2) rfl)) (fun _ h9 => h9) rfl dX0_addEnd_17 ?_
    refine lv_iload_n hx hb dX0_addEnd_20 rfl (lv_at hl 4 rfl) ?_
    refine wa_aaldA hx hb hK hP (wC_3 cy ad u X) (t0 := 4) rfl (i := e0) (by omega) (by decide) rfl dX0_addEnd_21 ?_
    refine lv_iload_n hx hb dX0_addEnd_22 rfl (lv_at hl 4 rfl) ?_
    refine lv_dup2_11 hx hb dX0_addEnd_23 rfl rfl ?_
    refine wa_lald hx hb hK hP (wC_row cy ad u X (i := e0) (by omega)) (t0 := 1) rfl (i := e0) (by omega) (by decide) dX0_addEnd_24 ?_
    refine lv_lload hx hb dX0_addEnd_25 (lv_at hl 0 rfl) ?_
    refine lv_ladd hx hb dX0_addEnd_27 ?_
    refine lv_topl (fun x2 ex2 => ?_)
    refine wa_last hx hb hK hP hD hS (wC_row cy ad u X (i := e0) (by omega)) (t0 := 1) rfl (i := e0) (by omega) (by decide) dX0_addEnd_28 (wC_srow cy ad u X (i := e0) (by omega) _) (fun H locs hP hD hS => ?_)
    obtain ⟨us3, hus3⟩ : ∃ z9z : CS, z9z = (u.1, u.2.1, va_up u.2.2.1 (8 + e0) (vp_updL (u.2.2.1 (8 + e0)) e0 x2), u.2.2.2) := ⟨_, rfl⟩
    rw [← hus3] at hP hD
    have pus3_s : us3.2.2.1 (8 + e0) = (vp_updL (u.2.2.1 (8 + e0)) e0 x2) := by rw [hus3]; first | exact va_up_s _ _ _ | rfl
    have pus3_o : ∀ j9, j9 ≠ 8 + e0 → us3.2.2.1 j9 = u.2.2.1 j9 := fun j9 h9 => by rw [hus3]; exact va_up_n h9
    have pus3_1 : us3.1 = u.1 := by rw [hus3]
    have pus3_21 : us3.2.1 = u.2.1 := by rw [hus3]
    have pus3_222 : us3.2.2.2 = u.2.2.2 := by rw [hus3]
    refine lv_iload hx hb dX0_addEnd_29 (lv_at hl 5 rfl) ?_
    refine lv_bipush (v := nI 9) hx hb dX0_addEnd_31 (by decide) ?_
    refine wn_icmp_ge (tgt := 53) hx hb dX0_addEnd_33 (by decide) (by omega) (by omega) (fun cO => ?_) (fun cO => ?_)
    · refine lv_aload_n hx hb dX0_addEnd_53 rfl (lv_at hl 1 rfl) ?_
      refine va_get (D := dd) (ci := 2) (v := .ref (ad 4)) (C := RX0) (T := TX0) (N := 4) hx hb hts (fun _ h9 => List.mem_cons_of_mem _ (List.mem_append_left _ (List.mem_append_right _ h9))) hown hK hP (2) (wC_2 cy ad us3 X) rfl 1 (by decide) (hts (Cond.fieldLink RX0 16 "HeadGrid$Solution" "supplies" "[J") (List.mem_of_getElem? (i := 3) rfl)) (fun _ h9 => h9) rfl dX0_addEnd_54 ?_
      refine lv_iload_n hx hb dX0_addEnd_57 rfl (lv_at hl 4 rfl) ?_
      refine lv_dup2_11 hx hb dX0_addEnd_58 rfl rfl ?_
      refine wa_lald hx hb hK hP (wC_4 cy ad us3 X) (t0 := 1) rfl (i := e0) (by omega) (by decide) dX0_addEnd_59 ?_
      refine lv_lload hx hb dX0_addEnd_60 (lv_at hl 0 rfl) ?_
      refine lv_aload_n hx hb dX0_addEnd_62 rfl (lv_at hl 2 rfl) ?_
      refine va_get (D := dd) (ci := 3) (v := .ref (ad 19)) (C := RX1) (T := TX1) (N := 7) hx hb hts (fun _ h9 => List.mem_cons_of_mem _ (List.mem_append_left _ (List.mem_append_left _ (List.mem_append_right _ h9)))) hown hK hP (17) (wC_now cy ad us3 X) rfl 1 (by decide) (hts (Cond.fieldLink RX0 73 "HeadGrid$State" "edgeHeads" "[I") (List.mem_of_getElem? (i := 4) rfl)) (fun _ h9 => h9) rfl dX0_addEnd_63 ?_
      refine lv_iload hx hb dX0_addEnd_66 (lv_at hl 5 rfl) ?_
      refine lv_bipush (v := nI 9) hx hb dX0_addEnd_68 (by decide) ?_
      refine wn_isub hx hb dX0_addEnd_70 (by omega) ?_
      refine wa_iald hx hb hK hP (wC_n1 cy ad us3 X) (t0 := 0) rfl (i := o0 - 9) (by omega) (by decide) dX0_addEnd_71 ?_
      refine lv_i2l hx hb dX0_addEnd_72 rfl ?_
      refine lv_lmul hx hb dX0_addEnd_73 ?_
      refine lv_ladd hx hb dX0_addEnd_74 ?_
      refine lv_topl (fun x4 ex4 => ?_)
      refine wa_last hx hb hK hP hD hS (wC_4 cy ad us3 X) (t0 := 1) rfl (i := e0) (by omega) (by decide) dX0_addEnd_75 (wC_s4 cy ad us3 X _) (fun H locs hP hD hS => ?_)
      obtain ⟨us5, hus5⟩ : ∃ z9z : CS, z9z = (us3.1, us3.2.1, va_up us3.2.2.1 4 (vp_updL (us3.2.2.1 4) e0 x4), us3.2.2.2) := ⟨_, rfl⟩
      rw [← hus5] at hP hD
      have pus5_s : us5.2.2.1 (4) = (vp_updL (us3.2.2.1 4) e0 x4) := by rw [hus5]; first | exact va_up_s _ _ _ | rfl
      have pus5_o : ∀ j9, j9 ≠ 4 → us5.2.2.1 j9 = us3.2.2.1 j9 := fun j9 h9 => by rw [hus5]; exact va_up_n h9
      have pus5_1 : us5.1 = us3.1 := by rw [hus5]
      have pus5_21 : us5.2.1 = us3.2.1 := by rw [hus5]
      have pus5_222 : us5.2.2.2 = us3.2.2.2 := by rw [hus5]
      have hc9 : x1 = Int64.ofInt (nw u k0).toInt := by rw [ex1, ← nw_0 u (by omega)]; exact ofI_32 _
      exact W.vret hx hb hr (fun t ht hW => ⟨⟨us5, rfl, ⟨⟨pus5_1.trans pus3_1, pus5_21.trans pus3_21, pus5_222.trans pus3_222⟩, (fun i9 hi9 j9 hj9 => by rw [pus5_o _ (by omega)]; unfold ceR ceC; exact (Classical.em (i9 = e0)).elim (fun q9 => by subst q9; rw [if_pos rfl, pus3_s]; unfold vp_updL; exact (Classical.em (j9 = i9)).elim (fun z9 => by subst z9; rw [if_pos rfl, if_pos rfl, ex2, hc9, Int.one_mul]) (fun z9 => by rw [if_neg z9, if_neg z9, if_neg (by omega), Int.zero_mul, i64_a0])) (fun q9 => by rw [if_neg q9, pus3_o _ (by omega), Int.zero_mul, i64_a0])), (fun i9 hi9 => by rw [pus5_s]; unfold vp_updL ceS sC1; exact (Classical.em (i9 = e0)).elim (fun q9 => by subst q9; rw [if_pos rfl, if_pos ⟨rfl, cO⟩, ex4, pus3_o _ (by omega), pus3_1, hc9, Int.one_mul, Int64.ofInt_mul, ofI_32, show 24 + o0 - 9 = 24 + (o0 - 9) by omega, nw_1 u (by omega)]) (fun q9 => by rw [if_neg q9, if_neg (fun z9 => q9 z9.1), pus3_o _ (by omega), Int.zero_mul, i64_a0]))⟩, by rw [ht]; exact hP, va_K.moved hW.alike hK, hD⟩, hS.F ht⟩) hS.2.2 dX0_addEnd_76
    · refine lv_aload_n hx hb dX0_addEnd_36 rfl (lv_at hl 1 rfl) ?_
      refine va_get (D := dd) (ci := 2) (v := .ref (ad 3)) (C := RX0) (T := TX0) (N := 4) hx hb hts (fun _ h9 => List.mem_cons_of_mem _ (List.mem_append_left _ (List.mem_append_right _ h9))) hown hK hP (2) (wC_2 cy ad us3 X) rfl 0 (by decide) (hts (Cond.fieldLink RX0 11 "HeadGrid$Solution" "rows" "[[J") (List.mem_of_getElem? (i := 2) rfl)) (fun _ h9 => h9) rfl dX0_addEnd_37 ?_
      refine lv_iload_n hx hb dX0_addEnd_40 rfl (lv_at hl 4 rfl) ?_
      refine wa_aaldA hx hb hK hP (wC_3 cy ad us3 X) (t0 := 4) rfl (i := e0) (by omega) (by decide) rfl dX0_addEnd_41 ?_
      refine lv_iload hx hb dX0_addEnd_42 (lv_at hl 5 rfl) ?_
      refine lv_dup2_11 hx hb dX0_addEnd_44 rfl rfl ?_
      refine wa_lald hx hb hK hP (wC_row cy ad us3 X (i := e0) (by omega)) (t0 := 1) rfl (i := o0) (by omega) (by decide) dX0_addEnd_45 ?_
      refine lv_lload hx hb dX0_addEnd_46 (lv_at hl 0 rfl) ?_
      refine lv_lsub hx hb dX0_addEnd_48 ?_
      refine lv_topl (fun x6 ex6 => ?_)
      refine wa_last hx hb hK hP hD hS (wC_row cy ad us3 X (i := e0) (by omega)) (t0 := 1) rfl (i := o0) (by omega) (by decide) dX0_addEnd_49 (wC_srow cy ad us3 X (i := e0) (by omega) _) (fun H locs hP hD hS => ?_)
      obtain ⟨us7, hus7⟩ : ∃ z9z : CS, z9z = (us3.1, us3.2.1, va_up us3.2.2.1 (8 + e0) (vp_updL (us3.2.2.1 (8 + e0)) o0 x6), us3.2.2.2) := ⟨_, rfl⟩
      rw [← hus7] at hP hD
      have pus7_s : us7.2.2.1 (8 + e0) = (vp_updL (us3.2.2.1 (8 + e0)) o0 x6) := by rw [hus7]; first | exact va_up_s _ _ _ | rfl
      have pus7_o : ∀ j9, j9 ≠ 8 + e0 → us7.2.2.1 j9 = us3.2.2.1 j9 := fun j9 h9 => by rw [hus7]; exact va_up_n h9
      have pus7_1 : us7.1 = us3.1 := by rw [hus7]
      have pus7_21 : us7.2.1 = us3.2.1 := by rw [hus7]
      have pus7_222 : us7.2.2.2 = us3.2.2.2 := by rw [hus7]
      refine lv_goto (tgt := 76) hx hb dX0_addEnd_50 (by decide) ?_
      have hc9 : x1 = Int64.ofInt (nw u k0).toInt := by rw [ex1, ← nw_0 u (by omega)]; exact ofI_32 _
      exact W.vret hx hb hr (fun t ht hW => ⟨⟨us7, rfl, ⟨⟨pus7_1.trans pus3_1, pus7_21.trans pus3_21, pus7_222.trans pus3_222⟩, (fun i9 hi9 j9 hj9 => by unfold ceR ceC; exact (Classical.em (i9 = e0)).elim (fun q9 => by subst q9; rw [if_pos rfl, pus7_s]; unfold vp_updL; exact (Classical.em (j9 = o0)).elim (fun z9 => by subst z9; rw [if_pos rfl, if_neg (fun t9 => heo t9.symm), if_pos ⟨rfl, by omega⟩, ex6, pus3_s]; unfold vp_updL; rw [if_neg (fun t9 => heo t9.symm), hc9, Int.neg_mul, Int.one_mul, ofInt_neg64, Int64.sub_eq_add_neg]) (fun z9 => by rw [if_neg z9, pus3_s]; unfold vp_updL; exact (Classical.em (j9 = i9)).elim (fun t9 => by subst t9; rw [if_pos rfl, if_pos rfl, ex2, hc9, Int.one_mul]) (fun t9 => by rw [if_neg t9, if_neg t9, if_neg (fun s9 => z9 s9.1), Int.zero_mul, i64_a0]))) (fun q9 => by rw [if_neg q9, pus7_o _ (by omega), pus3_o _ (by omega), Int.zero_mul, i64_a0])), (fun i9 hi9 => by unfold ceS sC1; rw [if_neg (by omega), pus7_o _ (by omega), pus3_o _ (by omega), Int.zero_mul, i64_a0])⟩, by rw [ht]; exact hP, va_K.moved hW.alike hK, hD⟩, hS.F ht⟩) hS.2.2 dX0_addEnd_76
  · exact W.vret hx hb hr (fun t ht hW => ⟨⟨u, rfl, ⟨frX_rf, fun i9 hi9 j9 hj9 => by unfold ceR ceC; rw [if_neg (by omega), Int.zero_mul, i64_a0], fun i9 hi9 => by unfold ceS sC1; rw [if_neg (by omega), Int.zero_mul, i64_a0]⟩, by rw [ht]; exact hP, va_K.moved hW.alike hK, hD⟩, hS.F ht⟩) hS.2.2 dX0_addEnd_6
theorem fe_se : ∀ k, k < 24 → fe k ≠ se k := by decide
theorem hd_X0_addLink : yX0_addLink.cls = RX0 ∧ yX0_addLink.cls ≠ "java/lang/invoke/MethodHandle" ∧ yX0_addLink.cls ≠ "java/lang/invoke/VarHandle" ∧ (parseMethodDescriptor yX0_addLink.desc).map (fun d => d.parameters.length) = some 2 := by decide +kernel
set_option maxHeartbeats 4000000 in
set_option maxRecDepth 100000 in
/-- addLink(state, link) -/
theorem c_X0_addLink (l : Launch) (dd : va_G) (cy : Nat → ClassId) (ad : Nat → Nat) (X : va_W) (tt : Nat × Nat) (u : CS) (sz : Nat) (k0 : Nat) (hk0 : k0 < 24) : Met l yX0_addLink wsX0_addLink ({ frames := 1, cells := 0, slots := 0, locals := 26 }) (va_Pc [.ref (ad 2), .ref (ad 17), .int (nI k0)] (wrC dd cy tt (wC cy ad u ++ X) sz)) (va_Qv (fun u9 => frX u u9 ∧ (∀ i, i < 9 → ∀ j, j < 18 → u9.2.2.1 (8 + i) j = u.2.2.1 (8 + i) j + Int64.ofInt (ctR (nw u) i j k0)) ∧ ∀ i, i < 9 → u9.2.2.1 4 i = u.2.2.1 4 i + Int64.ofInt (ctS (nw u) i k0)) (wB dd cy (fun u9 : CS => wC cy ad u9 ++ X) (va_A (wC cy ad u ++ X) sz)) (va_A (wC cy ad u ++ X) sz)) 0 0 (va_A (wC cy ad u ++ X) sz) := by
  refine Met.ofW (cc := cX0_addLink) (maxL := 3) (ret := none) (by decide) rfl ?_
  intro p e s m args below meth c s₁ B hml hv
  obtain ⟨rfl, hsz, hP, hK, hD0, hSt⟩ := hv
  have hx := B.exec
  have hb := B.bytes
  have hr := B.returns
  have hts := atoms_spec (ws := wsX0_addLink) B.pre
  have hown : s.vm.findClass RX0 = some m.cls := findClass_of_methodNamed B.named
  have hlocks := B.notSynchronized
  subst hsz
  have hD := hD0.self (sz := s.heap.size)
  generalize hAe : va_A (wC cy ad u ++ X) s.heap.size = A at hD hSt ⊢
  have hA : ∀ q : Nat, s.heap.size ≤ q → A q := fun q h => by rw [← hAe]; exact Or.inr h
  have hS : va_S A s.heap s.heap [] := va_S.rf
  have hl := lv_entry ([.ref (ad 2), .ref (ad 17), .int (nI k0)]) (n := 3) (Nat.le_of_ble_eq_true rfl)
  rw [lg_entry_eq]
  generalize (lg_sl ([.ref (ad 2), .ref (ad 17), .int (nI k0)]) ++ List.replicate (3 - (lg_sl ([.ref (ad 2), .ref (ad 17), .int (nI k0)])).length) Slot.unset).toArray = ls at hl ⊢
  have hl : lv_has ls 3 [(0, .ref (ad 2)), (1, .ref (ad 17)), (2, .int (nI k0))] := hl
  refine lv_aload_n hx hb dX0_addLink_0 rfl (lv_at hl 0 rfl) ?_
  refine lv_aload_n hx hb dX0_addLink_1 rfl (lv_at hl 1 rfl) ?_
  refine lv_iload_n hx hb dX0_addLink_2 rfl (lv_at hl 2 rfl) ?_
  refine va_getsN hx hb hSt.1.1 hS hown (va_any rfl hSt.2.2.1) (fun _ h9 => h9) dX0_addLink_3 ?_
  refine lv_iload_n hx hb dX0_addLink_6 rfl (lv_at hl 2 rfl) ?_
  refine wa_ti hx hb hSt.1.2 hS (f := fun j9 => nI (fe j9)) (i := k0) (by omega) (by decide) dX0_addLink_7 ?_
  refine va_getsN hx hb hSt.2.1.1 hS hown (va_any rfl hSt.2.2.2) (fun _ h9 => h9) dX0_addLink_8 ?_
  refine lv_iload_n hx hb dX0_addLink_11 rfl (lv_at hl 2 rfl) ?_
  refine wa_ti hx hb hSt.2.1.2 hS (f := fun j9 => nI (se j9)) (i := k0) (by omega) (by decide) dX0_addLink_12 ?_
  refine wc_callv (va_runV (As := [.ref (ad 17), .int (nI k0), .int (nI (fe k0)), .int (nI (se k0))]) (rest := []) ⟨hx, hb, hml, hown, hts⟩ (c_X0_addEnd l dd cy ad X tt u _ k0 (fe k0) (se k0) (by omega) (fe_lt _ (by omega)) (se_lt _ (by omega)) (fe_se _ (by omega))) (cwV 4 hts gX0_addLink_X0_addEnd rfl rfl rfl hd_X0_addEnd ⟨Nat.le_of_ble_eq_true rfl, Nat.le_of_ble_eq_true rfl⟩) (wrC_V hP hK hD hSt hS hA (wC_2 cy ad u X) rfl) rfl rfl hl.1 rfl (lv_room (Nat.le_of_ble_eq_true rfl)) dX0_addLink_13 ⟨Nat.le_of_ble_eq_true rfl, Nat.le_of_ble_eq_true rfl⟩) hD hS hA (fun us2 H locs w3 hP hD hS => ?_)
  obtain ⟨F4x, F4r, F4s⟩ := w3
  refine lv_aload_n hx hb dX0_addLink_16 rfl (lv_at hl 0 rfl) ?_
  refine lv_aload_n hx hb dX0_addLink_17 rfl (lv_at hl 1 rfl) ?_
  refine lv_iload_n hx hb dX0_addLink_18 rfl (lv_at hl 2 rfl) ?_
  refine va_getsN hx hb hSt.2.1.1 hS hown (va_any rfl hSt.2.2.2) (fun _ h9 => h9) dX0_addLink_19 ?_
  refine lv_iload_n hx hb dX0_addLink_22 rfl (lv_at hl 2 rfl) ?_
  refine wa_ti hx hb hSt.2.1.2 hS (f := fun j9 => nI (se j9)) (i := k0) (by omega) (by decide) dX0_addLink_23 ?_
  refine va_getsN hx hb hSt.1.1 hS hown (va_any rfl hSt.2.2.1) (fun _ h9 => h9) dX0_addLink_24 ?_
  refine lv_iload_n hx hb dX0_addLink_27 rfl (lv_at hl 2 rfl) ?_
  refine wa_ti hx hb hSt.1.2 hS (f := fun j9 => nI (fe j9)) (i := k0) (by omega) (by decide) dX0_addLink_28 ?_
  refine wc_callv (va_runV (As := [.ref (ad 17), .int (nI k0), .int (nI (se k0)), .int (nI (fe k0))]) (rest := []) ⟨hx, hb, hml, hown, hts⟩ (c_X0_addEnd l dd cy ad X tt us2 _ k0 (se k0) (fe k0) (by omega) (se_lt _ (by omega)) (fe_lt _ (by omega)) (fun q9 => fe_se _ (by omega) q9.symm)) (cwV 4 hts gX0_addLink_X0_addEnd rfl rfl rfl hd_X0_addEnd ⟨Nat.le_of_ble_eq_true rfl, Nat.le_of_ble_eq_true rfl⟩) (wrC_V hP hK hD hSt hS hA (wC_2 cy ad us2 X) rfl) rfl rfl hl.1 rfl (lv_room (Nat.le_of_ble_eq_true rfl)) dX0_addLink_29 ⟨Nat.le_of_ble_eq_true rfl, Nat.le_of_ble_eq_true rfl⟩) hD hS hA (fun us6 H locs w7 hP hD hS => ?_)
  obtain ⟨F8x, F8r, F8s⟩ := w7
  exact W.vret hx hb hr (fun t ht hW => ⟨⟨us6, rfl, ⟨frX_t F4x F8x, fun i9 hi9 j9 hj9 => by rw [F8r i9 hi9 j9 hj9, F4r i9 hi9 j9 hj9, frX_nw F4x, Int64.add_assoc, ← Int64.ofInt_add]; rfl, fun i9 hi9 => by rw [F8s i9 hi9, F4s i9 hi9, frX_nw F4x, Int64.add_assoc, ← Int64.ofInt_add]; rfl⟩, by rw [ht]; exact hP, va_K.moved hW.alike hK, hD⟩, hS.F ht⟩) hS.2.2 dX0_addLink_32

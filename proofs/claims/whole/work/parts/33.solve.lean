/-! the class: elimination, scaled heads, the solution at need -/
theorem tight_pv9 {now : Nat → Int32} (hr : rgM now) (h : nR (gNow now) 9 = 511) : det 9 (AM now) ≠ 0 := tight_piv hr.1 h 8 (by decide)
theorem loose_0 {now : Nat → Int32} (hr : rgM now) (h : nR (gNow now) 9 ≠ 511) : det 9 (AM now) = 0 := loose_det hr.1 h
theorem tight_det {now : Nat → Int32} (hr : rgM now) (h : nR (gNow now) 9 = 511) : 0 < det 9 (AM now) ∧ det 9 (AM now) ≤ 134217728 := pv_B (AM_bal hr.1) (Nat.le_refl 9) (fun j hj => tight_piv hr.1 h j hj)
theorem den_0 {now : Nat → Int32} (hr : rgM now) : Int64.ofInt (det 9 (AM now)) = 0 ↔ nR (gNow now) 9 ≠ 511 := by
  constructor
  · intro h q
    have h1 := tight_det hr q
    exact absurd ((ofI_z (by omega) (by omega)).mp h) (by omega)
  · intro h
    rw [loose_0 hr h]; exact ofI_0
/-- all but the longs and the denominator is as it was -/
def frQ (u u1 : CS) : Prop := u1.1 = u.1 ∧ u1.2.1 = u.2.1 ∧ u1.2.2.2.1 = u.2.2.2.1 ∧ u1.2.2.2.2.1 = u.2.2.2.2.1 ∧ u1.2.2.2.2.2.2 = u.2.2.2.2.2.2
theorem frX_Q {u u1 : CS} (h : frX u u1) : frQ u u1 := ⟨h.1, h.2.1, by rw [h.2.2], by rw [h.2.2], by rw [h.2.2]⟩
theorem frQ_t {u u1 u2 : CS} (h : frQ u u1) (h1 : frQ u1 u2) : frQ u u2 := ⟨h1.1.trans h.1, h1.2.1.trans h.2.1, h1.2.2.1.trans h.2.2.1, h1.2.2.2.1.trans h.2.2.2.1, h1.2.2.2.2.trans h.2.2.2.2⟩
theorem sm_zero' {f : Nat → Int} {n : Nat} (h : ∀ k, k < n → f k = 0) : sm n f = 0 := sm_0 h
theorem ceC_hi {e o i j : Nat} (hi : i < 9) (hj : 9 ≤ j) : ceC e o i j = 0 := by
  unfold ceC
  by_cases h : i = e
  · rw [if_pos h, if_neg (by omega), if_neg (by omega)]
  · rw [if_neg h]
theorem ctR_hi {now : Nat → Int32} {i j : Nat} (hi : i < 9) (hj : 9 ≤ j) (k : Nat) : ctR now i j k = 0 := by
  unfold ctR ceR
  rw [ceC_hi hi hj, ceC_hi hi hj, Int.zero_mul]; rfl
theorem lay_0 {now : Nat → Int32} {i j : Nat} (hi : i < 9) (hj : j < 18) : (if j = 9 + i then (1 : Int64) else 0) + Int64.ofInt (sm 24 (ctR now i j)) = Int64.ofInt (stg (AM now) 0 i j) := by
  rw [stg_0 hi]
  by_cases h : j < 9
  · rw [if_neg (by omega), if_pos h, ctR_A hi h, Int64.zero_add]
  · rw [if_neg h, sm_0 (fun k _ => ctR_hi hi (by omega) k), i64_a0]
    by_cases e : j = 9 + i
    · rw [if_pos e, if_pos (by omega)]; exact ofI_1.symm
    · rw [if_neg e, if_neg (by omega)]; exact ofI_0.symm
theorem hd_X0_eliminate : yX0_eliminate.cls = RX0 ∧ yX0_eliminate.cls ≠ "java/lang/invoke/MethodHandle" ∧ yX0_eliminate.cls ≠ "java/lang/invoke/VarHandle" ∧ (parseMethodDescriptor yX0_eliminate.desc).map (fun d => d.parameters.length) = some 4 := by decide +kernel
set_option maxHeartbeats 4000000 in
set_option maxRecDepth 100000 in
/-- eliminate(i, k, pivot, pivotBefore) -/
theorem c_X0_eliminate (l : Launch) (dd : va_G) (cy : Nat → ClassId) (ad : Nat → Nat) (X : va_W) (tt : Nat × Nat) (u : CS) (sz : Nat) (i0 k0 : Nat) (hi0 : i0 < 9) (hk0 : k0 < 9) (hik : i0 ≠ k0) (pvt pb : Int64) (hpb : pb ≠ 0) : Met l yX0_eliminate wsX0_eliminate ({ frames := 0, cells := 0, slots := 0, locals := 0 }) (va_Pc [.ref (ad 2), .int (nI i0), .int (nI k0), .long pvt, .long pb] (wrC dd cy tt (wC cy ad u ++ X) sz)) (va_Qv (fun u9 => frX u u9 ∧ (∀ k, k ≠ 8 + i0 → u9.2.2.1 k = u.2.2.1 k) ∧ ∀ j, j < 18 → u9.2.2.1 (8 + i0) j = (pvt * u.2.2.1 (8 + i0) j - u.2.2.1 (8 + i0) k0 * u.2.2.1 (8 + k0) j) / pb) (wB dd cy (fun u9 : CS => wC cy ad u9 ++ X) (va_A (wC cy ad u ++ X) sz)) (va_A (wC cy ad u ++ X) sz)) 0 0 (va_A (wC cy ad u ++ X) sz) := by
  refine Met.ofW (cc := cX0_eliminate) (maxL := 10) (ret := none) (by decide) rfl ?_
  intro p e s m args below meth c s₁ B hml hv
  obtain ⟨rfl, hsz, hP, hK, hD0, hSt⟩ := hv
  have hx := B.exec
  have hb := B.bytes
  have hr := B.returns
  have hts := atoms_spec (ws := wsX0_eliminate) B.pre
  have hown : s.vm.findClass RX0 = some m.cls := findClass_of_methodNamed B.named
  have hlocks := B.notSynchronized
  subst hsz
  have hD := hD0.self (sz := s.heap.size)
  generalize hAe : va_A (wC cy ad u ++ X) s.heap.size = A at hD hSt ⊢
  have hA : ∀ q : Nat, s.heap.size ≤ q → A q := fun q h => by rw [← hAe]; exact Or.inr h
  have hS : va_S A s.heap s.heap [] := va_S.rf
  have hl := lv_entry ([.ref (ad 2), .int (nI i0), .int (nI k0), .long pvt, .long pb]) (n := 10) (Nat.le_of_ble_eq_true rfl)
  rw [lg_entry_eq]
  generalize (lg_sl ([.ref (ad 2), .int (nI i0), .int (nI k0), .long pvt, .long pb]) ++ List.replicate (10 - (lg_sl ([.ref (ad 2), .int (nI i0), .int (nI k0), .long pvt, .long pb])).length) Slot.unset).toArray = ls at hl ⊢
  have hl : lv_has ls 10 [(0, .ref (ad 2)), (1, .int (nI i0)), (2, .int (nI k0)), (3, .long pvt), (5, .long pb)] := hl
  refine lv_aload_n hx hb dX0_eliminate_0 rfl (lv_at hl 0 rfl) ?_
  refine va_get (D := dd) (ci := 2) (v := .ref (ad 3)) (C := RX0) (T := TX0) (N := 4) hx hb hts (fun _ h9 => List.mem_cons_of_mem _ (List.mem_append_left _ (List.mem_append_left _ (List.mem_append_right _ h9)))) hown hK hP (2) (wC_2 cy ad u X) rfl 0 (by decide) (hts (Cond.fieldLink RX0 11 "HeadGrid$Solution" "rows" "[[J") (List.mem_of_getElem? (i := 1) rfl)) (fun _ h9 => h9) rfl dX0_eliminate_1 ?_
  refine lv_iload_n hx hb dX0_eliminate_4 rfl (lv_at hl 1 rfl) ?_
  refine wa_aaldA hx hb hK hP (wC_3 cy ad u X) (t0 := 4) rfl (i := i0) (by omega) (by decide) rfl dX0_eliminate_5 ?_
  refine lv_iload_n hx hb dX0_eliminate_6 rfl (lv_at hl 2 rfl) ?_
  refine wa_lald hx hb hK hP (wC_row cy ad u X (i := i0) (by omega)) (t0 := 1) rfl (i := k0) (by omega) (by decide) dX0_eliminate_7 ?_
  refine lv_topl (fun x1 ex1 => ?_)
  refine lv_lstore (lv' := [(7, .long x1), (0, .ref (ad 2)), (1, .int (nI i0)), (2, .int (nI k0)), (3, .long pvt), (5, .long pb)]) hx hb dX0_eliminate_8 hl (by decide) rfl (fun ls hl => ?_)
  refine lv_iconst (v := nI 0) hx hb dX0_eliminate_10 (by decide) ?_
  refine lv_istore (lv' := [(9, .int (nI 0)), (7, .long x1), (0, .ref (ad 2)), (1, .int (nI i0)), (2, .int (nI k0)), (3, .long pvt), (5, .long pb)]) hx hb dX0_eliminate_11 hl (by decide) rfl (fun ls hl => ?_)
  have hfac : x1 = u.2.2.1 (8 + i0) k0 := ex1
  refine wLoop (σ := Nat × CS) (fun k x H locs ls => k = 18 - x.1 ∧ (x.1 ≤ 18) ∧ (frX u x.2) ∧ (∀ k9, k9 ≠ 8 + i0 → x.2.2.2.1 k9 = u.2.2.1 k9) ∧ (∀ j9, x.2.2.2.1 (8 + i0) j9 = if j9 < x.1 then (pvt * u.2.2.1 (8 + i0) j9 - u.2.2.1 (8 + i0) k0 * u.2.2.1 (8 + k0) j9) / pb else u.2.2.1 (8 + i0) j9) ∧ va_P dd vwCl (wC cy ad x.2 ++ X) H ∧ va_D A (wC cy ad x.2 ++ X) ∧ va_S A s.heap H locs ∧ lv_has ls 10 [(9, .int (nI x.1)), (7, .long x1), (5, .long pb), (3, .long pvt), (2, .int (nI k0)), (1, .int (nI i0)), (0, .ref (ad 2))]) ?_ _ (0, u) _ _ _ ⟨rfl, (Nat.zero_le _), frX_rf, (fun _ _ => rfl), (fun j9 => by rw [if_neg (Nat.not_lt_zero j9)]), hP, hD, hS, lv_sub hl [0, 1, 6, 5, 4, 3, 2] rfl⟩
  intro k x H locs ls hI ih
  obtain ⟨j0, u1⟩ := x
  obtain ⟨hk, hj, hF, hO, hM, hP, hD, hS, hl⟩ := hI
  have hk : k = 18 - j0 := hk
  have hj : j0 ≤ 18 := hj
  have hF : frX u u1 := hF
  have hO : ∀ k9, k9 ≠ 8 + i0 → u1.2.2.1 k9 = u.2.2.1 k9 := hO
  have hM : ∀ j9, u1.2.2.1 (8 + i0) j9 = if j9 < j0 then (pvt * u.2.2.1 (8 + i0) j9 - u.2.2.1 (8 + i0) k0 * u.2.2.1 (8 + k0) j9) / pb else u.2.2.1 (8 + i0) j9 := hM
  have hP : va_P dd vwCl (wC cy ad u1 ++ X) H := hP
  have hD : va_D A (wC cy ad u1 ++ X) := hD
  have hl : lv_has ls 10 [(9, .int (nI j0)), (7, .long x1), (5, .long pb), (3, .long pvt), (2, .int (nI k0)), (1, .int (nI i0)), (0, .ref (ad 2))] := hl
  refine lv_iload hx hb dX0_eliminate_13 (lv_at hl 0 rfl) ?_
  refine lv_bipush (v := nI 18) hx hb dX0_eliminate_15 (by decide) ?_
  refine wn_icmp_ge (tgt := 62) hx hb dX0_eliminate_17 (by decide) (by omega) (by omega) (fun c2 => ?_) (fun c2 => ?_)
  · exact W.vret hx hb hr (fun t ht hW => ⟨⟨u1, rfl, ⟨hF, hO, fun j9 hj9 => by rw [hM j9, if_pos (by omega)]⟩, by rw [ht]; exact hP, va_K.moved hW.alike hK, hD⟩, hS.F ht⟩) hS.2.2 dX0_eliminate_62
  · refine lv_aload_n hx hb dX0_eliminate_20 rfl (lv_at hl 6 rfl) ?_
    refine va_get (D := dd) (ci := 2) (v := .ref (ad 3)) (C := RX0) (T := TX0) (N := 4) hx hb hts (fun _ h9 => List.mem_cons_of_mem _ (List.mem_append_left _ (List.mem_append_left _ (List.mem_append_right _ h9)))) hown hK hP (2) (wC_2 cy ad u1 X) rfl 0 (by decide) (hts (Cond.fieldLink RX0 11 "HeadGrid$Solution" "rows" "[[J") (List.mem_of_getElem? (i := 1) rfl)) (fun _ h9 => h9) rfl dX0_eliminate_21 ?_
    refine lv_iload_n hx hb dX0_eliminate_24 rfl (lv_at hl 5 rfl) ?_
    refine wa_aaldA hx hb hK hP (wC_3 cy ad u1 X) (t0 := 4) rfl (i := i0) (by omega) (by decide) rfl dX0_eliminate_25 ?_
    refine lv_iload hx hb dX0_eliminate_26 (lv_at hl 0 rfl) ?_
    refine lv_lload_n hx hb dX0_eliminate_28 rfl (lv_at hl 3 rfl) ?_
    refine lv_aload_n hx hb dX0_eliminate_29 rfl (lv_at hl 6 rfl) ?_
    refine va_get (D := dd) (ci := 2) (v := .ref (ad 3)) (C := RX0) (T := TX0) (N := 4) hx hb hts (fun _ h9 => List.mem_cons_of_mem _ (List.mem_append_left _ (List.mem_append_left _ (List.mem_append_right _ h9)))) hown hK hP (2) (wC_2 cy ad u1 X) rfl 0 (by decide) (hts (Cond.fieldLink RX0 11 "HeadGrid$Solution" "rows" "[[J") (List.mem_of_getElem? (i := 1) rfl)) (fun _ h9 => h9) rfl dX0_eliminate_30 ?_
    refine lv_iload_n hx hb dX0_eliminate_33 rfl (lv_at hl 5 rfl) ?_
    refine wa_aaldA hx hb hK hP (wC_3 cy ad u1 X) (t0 := 4) rfl (i := i0) (by omega) (by decide) rfl dX0_eliminate_34 ?_
    refine lv_iload hx hb dX0_eliminate_35 (lv_at hl 0 rfl) ?_
    refine wa_lald hx hb hK hP (wC_row cy ad u1 X (i := i0) (by omega)) (t0 := 1) rfl (i := j0) (by omega) (by decide) dX0_eliminate_37 ?_
    refine lv_lmul hx hb dX0_eliminate_38 ?_
    refine lv_lload hx hb dX0_eliminate_39 (lv_at hl 1 rfl) ?_
    refine lv_aload_n hx hb dX0_eliminate_41 rfl (lv_at hl 6 rfl) ?_
    refine va_get (D := dd) (ci := 2) (v := .ref (ad 3)) (C := RX0) (T := TX0) (N := 4) hx hb hts (fun _ h9 => List.mem_cons_of_mem _ (List.mem_append_left _ (List.mem_append_left _ (List.mem_append_right _ h9)))) hown hK hP (2) (wC_2 cy ad u1 X) rfl 0 (by decide) (hts (Cond.fieldLink RX0 11 "HeadGrid$Solution" "rows" "[[J") (List.mem_of_getElem? (i := 1) rfl)) (fun _ h9 => h9) rfl dX0_eliminate_42 ?_
    refine lv_iload_n hx hb dX0_eliminate_45 rfl (lv_at hl 4 rfl) ?_
    refine wa_aaldA hx hb hK hP (wC_3 cy ad u1 X) (t0 := 4) rfl (i := k0) (by omega) (by decide) rfl dX0_eliminate_46 ?_
    refine lv_iload hx hb dX0_eliminate_47 (lv_at hl 0 rfl) ?_
    refine wa_lald hx hb hK hP (wC_row cy ad u1 X (i := k0) (by omega)) (t0 := 1) rfl (i := j0) (by omega) (by decide) dX0_eliminate_49 ?_
    refine lv_lmul hx hb dX0_eliminate_50 ?_
    refine lv_lsub hx hb dX0_eliminate_51 ?_
    refine lv_lload hx hb dX0_eliminate_52 (lv_at hl 2 rfl) ?_
    refine lv_ldiv hx hb dX0_eliminate_54 hpb ?_
    refine lv_topl (fun x3 ex3 => ?_)
    refine wa_last hx hb hK hP hD hS (wC_row cy ad u1 X (i := i0) (by omega)) (t0 := 1) rfl (i := j0) (by omega) (by decide) dX0_eliminate_55 (wC_srow cy ad u1 X (i := i0) (by omega) _) (fun H locs hP hD hS => ?_)
    obtain ⟨us4, hus4⟩ : ∃ z9z : CS, z9z = (u1.1, u1.2.1, va_up u1.2.2.1 (8 + i0) (vp_updL (u1.2.2.1 (8 + i0)) j0 x3), u1.2.2.2) := ⟨_, rfl⟩
    rw [← hus4] at hP hD
    have pus4_s : us4.2.2.1 (8 + i0) = (vp_updL (u1.2.2.1 (8 + i0)) j0 x3) := by rw [hus4]; first | exact va_up_s _ _ _ | rfl
    have pus4_o : ∀ j9, j9 ≠ 8 + i0 → us4.2.2.1 j9 = u1.2.2.1 j9 := fun j9 h9 => by rw [hus4]; exact va_up_n h9
    have pus4_1 : us4.1 = u1.1 := by rw [hus4]
    have pus4_21 : us4.2.1 = u1.2.1 := by rw [hus4]
    have pus4_222 : us4.2.2.2 = u1.2.2.2 := by rw [hus4]
    refine lv_iinc (v := (nI (j0 + 1))) (lv' := [(9, .int (nI (j0 + 1))), (7, .long x1), (5, .long pb), (3, .long pvt), (2, .int (nI k0)), (1, .int (nI i0)), (0, .ref (ad 2))]) hx hb dX0_eliminate_56 hl (k := 0) rfl (nI_1 _) (by decide) rfl (fun ls hl => ?_)
    refine lv_goto (tgt := 13) hx hb dX0_eliminate_59 (by decide) ?_
    exact ih (18 - (j0 + 1)) (j0 + 1, us4) _ _ ls (by omega) ⟨rfl, (by show j0 + 1 ≤ 18; omega), ⟨pus4_1.trans hF.1, pus4_21.trans hF.2.1, pus4_222.trans hF.2.2⟩, (fun k9 h9 => (pus4_o k9 h9).trans (hO k9 h9)), (fun j9 => by rw [pus4_s]; unfold vp_updL; exact (Classical.em (j9 = j0)).elim (fun e9 => by subst e9; rw [if_pos rfl, if_pos (Nat.lt_succ_self _), ex3, hM, if_neg (Nat.lt_irrefl _), hO _ (by omega), hfac]) (fun e9 => by rw [if_neg e9, hM j9]; exact (Classical.em (j9 < j0)).elim (fun q9 => by rw [if_pos q9, if_pos (Nat.lt_succ_of_lt q9)]) (fun q9 => by rw [if_neg q9, if_neg (by show ¬ j9 < j0 + 1; omega)]))), hP, hD, hS, lv_sub hl [0, 1, 2, 3, 4, 5, 6] rfl⟩
theorem stg_F {A : Nat → Nat → Int} (hB : Bal 9 A) {k i j : Nat} (hk : k ≤ 9) (h : ∀ j, j < k → pv A (j + 1) ≠ 0) (hi : i < 9) (hj : j < 9) : -1073741824 ≤ stg A k i j ∧ stg A k i j ≤ 1073741824 := by
  have hG := Gd_all hB hk h
  have hp := pv_B hB hk h
  unfold stg
  rw [if_pos hj]
  have h1 := hG.2.2.2.1 i hi
  have h2 := Gd_dia hG hi
  by_cases e2 : j = i
  · subst e2; omega
  · have h3 := hG.2.1 i j hi hj e2
    have h4 := Gd_off hG hi hj e2
    omega
theorem hd_X0_invert : yX0_invert.cls = RX0 ∧ yX0_invert.cls ≠ "java/lang/invoke/MethodHandle" ∧ yX0_invert.cls ≠ "java/lang/invoke/VarHandle" ∧ (parseMethodDescriptor yX0_invert.desc).map (fun d => d.parameters.length) = some 0 := by decide +kernel
set_option maxHeartbeats 4000000 in
set_option maxRecDepth 100000 in
/-- invert() -/
theorem c_X0_invert (l : Launch) (dd : va_G) (cy : Nat → ClassId) (ad : Nat → Nat) (X : va_W) (tt : Nat × Nat) (u : CS) (sz : Nat) (hrg : rgM (nw u)) (hM0 : ∀ i, i < 9 → ∀ j, j < 18 → u.2.2.1 (8 + i) j = Int64.ofInt (stg (AM (nw u)) 0 i j)) : Met l yX0_invert wsX0_invert ({ frames := 1, cells := 0, slots := 0, locals := 29 }) (va_Pc [.ref (ad 2)] (wrC dd cy tt (wC cy ad u ++ X) sz)) (va_Ql (fun r u9 => r = Int64.ofInt (det 9 (AM (nw u))) ∧ frX u u9 ∧ (∀ k, k < 8 → u9.2.2.1 k = u.2.2.1 k) ∧ (nR (gNow (nw u)) 9 = 511 → ∀ a, a < 9 → ∀ b, b < 9 → u9.2.2.1 (8 + a) (9 + b) = Int64.ofInt (cof 9 (AM (nw u)) a b))) (wB dd cy (fun u9 : CS => wC cy ad u9 ++ X) (va_A (wC cy ad u ++ X) sz)) (va_A (wC cy ad u ++ X) sz)) 0 0 (va_A (wC cy ad u ++ X) sz) := by
  refine Met.ofW (cc := cX0_invert) (maxL := 7) (ret := (some .long)) (by decide) rfl ?_
  intro p e s m args below meth c s₁ B hml hv
  obtain ⟨rfl, hsz, hP, hK, hD0, hSt⟩ := hv
  have hx := B.exec
  have hb := B.bytes
  have hr := B.returns
  have hts := atoms_spec (ws := wsX0_invert) B.pre
  have hown : s.vm.findClass RX0 = some m.cls := findClass_of_methodNamed B.named
  have hlocks := B.notSynchronized
  subst hsz
  have hD := hD0.self (sz := s.heap.size)
  generalize hAe : va_A (wC cy ad u ++ X) s.heap.size = A at hD hSt ⊢
  have hA : ∀ q : Nat, s.heap.size ≤ q → A q := fun q h => by rw [← hAe]; exact Or.inr h
  have hS : va_S A s.heap s.heap [] := va_S.rf
  have hBal := AM_bal hrg.1
  have hl := lv_entry ([.ref (ad 2)]) (n := 7) (Nat.le_of_ble_eq_true rfl)
  rw [lg_entry_eq]
  generalize (lg_sl ([.ref (ad 2)]) ++ List.replicate (7 - (lg_sl ([.ref (ad 2)])).length) Slot.unset).toArray = ls at hl ⊢
  have hl : lv_has ls 7 [(0, .ref (ad 2))] := hl
  refine lv_lconst (v := 1) hx hb dX0_invert_0 rfl ?_
  refine lv_lstore_n (lv' := [(1, .long 1), (0, .ref (ad 2))]) hx hb dX0_invert_1 rfl hl (by decide) rfl (fun ls hl => ?_)
  refine lv_iconst (v := nI 0) hx hb dX0_invert_2 (by decide) ?_
  refine lv_istore_n (lv' := [(3, .int (nI 0)), (1, .long 1), (0, .ref (ad 2))]) hx hb dX0_invert_3 rfl hl (by decide) rfl (fun ls hl => ?_)
  refine wLoop (σ := Nat × Int64 × CS) (fun k x H locs ls => k = 9 - x.1 ∧ (x.1 ≤ 9) ∧ (frX u x.2.2) ∧ (∀ k9, k9 < 8 → x.2.2.2.2.1 k9 = u.2.2.1 k9) ∧ (∀ j9, j9 < x.1 → pv (AM (nw u)) (j9 + 1) ≠ 0) ∧ (∀ i9, i9 < 9 → ∀ j9, j9 < 18 → x.2.2.2.2.1 (8 + i9) j9 = Int64.ofInt (stg (AM (nw u)) x.1 i9 j9)) ∧ (x.2.1 = Int64.ofInt (pv (AM (nw u)) x.1)) ∧ va_P dd vwCl (wC cy ad x.2.2 ++ X) H ∧ va_D A (wC cy ad x.2.2 ++ X) ∧ va_S A s.heap H locs ∧ lv_has ls 7 [(3, .int (nI x.1)), (1, .long x.2.1), (0, .ref (ad 2))]) ?_ _ (0, 1, u) _ _ _ ⟨rfl, (Nat.zero_le _), frX_rf, (fun _ _ => rfl), (fun j9 h9 => absurd h9 (Nat.not_lt_zero j9)), hM0, (by rw [show pv (AM (nw u)) 0 = 1 from rfl]; exact ofI_1.symm), hP, hD, hS, lv_sub hl [0, 1, 2] rfl⟩
  intro ko x H locs ls hI iho
  obtain ⟨k0, pb, u1⟩ := x
  obtain ⟨hko, hk0, hF, hO, hpv, hM, hpb, hP, hD, hS, hl⟩ := hI
  have hko : ko = 9 - k0 := hko
  have hk0 : k0 ≤ 9 := hk0
  have hF : frX u u1 := hF
  have hO : ∀ k9, k9 < 8 → u1.2.2.1 k9 = u.2.2.1 k9 := hO
  have hpv : ∀ j9, j9 < k0 → pv (AM (nw u)) (j9 + 1) ≠ 0 := hpv
  have hM : ∀ i9, i9 < 9 → ∀ j9, j9 < 18 → u1.2.2.1 (8 + i9) j9 = Int64.ofInt (stg (AM (nw u)) k0 i9 j9) := hM
  have hpb : pb = Int64.ofInt (pv (AM (nw u)) k0) := hpb
  have hP : va_P dd vwCl (wC cy ad u1 ++ X) H := hP
  have hD : va_D A (wC cy ad u1 ++ X) := hD
  have hl : lv_has ls 7 [(3, .int (nI k0)), (1, .long pb), (0, .ref (ad 2))] := hl
  refine lv_iload_n hx hb dX0_invert_4 rfl (lv_at hl 0 rfl) ?_
  refine lv_bipush (v := nI 9) hx hb dX0_invert_5 (by decide) ?_
  refine wn_icmp_ge (tgt := 70) hx hb dX0_invert_7 (by decide) (by omega) (by omega) (fun cK => ?_) (fun cK => ?_)
  · refine lv_lload_n hx hb dX0_invert_70 rfl (lv_at hl 1 rfl) ?_
    exact W.lret (v := pb) hx hb hr (fun t ht hW => ⟨⟨pb, u1, rfl, ⟨by rw [hpb, show k0 = 9 by omega]; rfl, hF, hO, fun _ a9 ha9 b9 hb9 => by rw [hM a9 ha9 (9 + b9) (by omega), show k0 = 9 by omega, stg_9 ha9 hb9]⟩, by rw [ht]; exact hP, va_K.moved hW.alike hK, hD⟩, hS.F ht⟩) hS.2.2 dX0_invert_71
  · refine lv_aload_n hx hb dX0_invert_10 rfl (lv_at hl 2 rfl) ?_
    refine va_get (D := dd) (ci := 2) (v := .ref (ad 3)) (C := RX0) (T := TX0) (N := 4) hx hb hts (fun _ h9 => List.mem_cons_of_mem _ (List.mem_append_left _ (List.mem_append_left _ (List.mem_append_right _ h9)))) hown hK hP (2) (wC_2 cy ad u1 X) rfl 0 (by decide) (hts (Cond.fieldLink RX0 11 "HeadGrid$Solution" "rows" "[[J") (List.mem_of_getElem? (i := 1) rfl)) (fun _ h9 => h9) rfl dX0_invert_11 ?_
    refine lv_iload_n hx hb dX0_invert_14 rfl (lv_at hl 0 rfl) ?_
    refine wa_aaldA hx hb hK hP (wC_3 cy ad u1 X) (t0 := 4) rfl (i := k0) (by omega) (by decide) rfl dX0_invert_15 ?_
    refine lv_iload_n hx hb dX0_invert_16 rfl (lv_at hl 0 rfl) ?_
    refine wa_lald hx hb hK hP (wC_row cy ad u1 X (i := k0) (by omega)) (t0 := 1) rfl (i := k0) (by omega) (by decide) dX0_invert_17 ?_
    refine lv_topl (fun x1 ex1 => ?_)
    refine lv_lstore (lv' := [(4, .long x1), (3, .int (nI k0)), (1, .long pb), (0, .ref (ad 2))]) hx hb dX0_invert_18 hl (by decide) rfl (fun ls hl => ?_)
    have hpk := pv_B hBal (show k0 ≤ 9 by omega) hpv
    have hpx : x1 = Int64.ofInt (pv (AM (nw u)) (k0 + 1)) := by rw [ex1, hM k0 (by omega) k0 (by omega), stg_piv hBal (by omega) hpv]
    have hpb9 := (Gd_piv hBal (Gd_all hBal (show k0 ≤ 9 by omega) hpv) (show k0 < 9 by omega))
    refine lv_lload hx hb dX0_invert_20 (lv_at hl 0 rfl) ?_
    refine lv_lconst (v := 0) hx hb dX0_invert_22 rfl ?_
    refine wl_ne (tgt := 29) hx hb dX0_invert_23 dX0_invert_24 (by decide) (fun cP => ?_) (fun cP => ?_)
    · refine lv_iconst (v := nI 0) hx hb dX0_invert_29 (by decide) ?_
      refine lv_istore (lv' := [(6, .int (nI 0)), (4, .long x1), (3, .int (nI k0)), (1, .long pb), (0, .ref (ad 2))]) hx hb dX0_invert_30 hl (by decide) rfl (fun ls hl => ?_)
      have hp1 : pv (AM (nw u)) (k0 + 1) ≠ 0 := fun q9 => cP (by rw [hpx, q9]; exact ofI_0)
      have hpk1 := pv_B hBal (show k0 + 1 ≤ 9 by omega) (fun j9 h9 => (Classical.em (j9 = k0)).elim (fun q9 => by rw [q9]; exact hp1) (fun q9 => hpv j9 (by omega)))
      have hpb0 : pb ≠ 0 := by rw [hpb]; exact fun q9 => absurd ((ofI_z (by have := hpk; omega) (by have := hpk; omega)).mp q9) (by have := hpk.1; omega)
      have hpv1 : ∀ j9, j9 < k0 + 1 → pv (AM (nw u)) (j9 + 1) ≠ 0 := fun j9 h9 => (Classical.em (j9 = k0)).elim (fun q9 => by rw [q9]; exact hp1) (fun q9 => hpv j9 (by omega))
      refine wLoop (σ := Nat × CS) (fun k x H locs ls => k = 9 - x.1 ∧ (x.1 ≤ 9) ∧ (frX u x.2) ∧ (∀ k9, k9 < 8 → x.2.2.2.1 k9 = u.2.2.1 k9) ∧ (∀ i9, i9 < 9 → ∀ j9, j9 < 18 → x.2.2.2.1 (8 + i9) j9 = Int64.ofInt (if i9 < x.1 ∧ i9 ≠ k0 then stg (AM (nw u)) (k0 + 1) i9 j9 else stg (AM (nw u)) k0 i9 j9)) ∧ va_P dd vwCl (wC cy ad x.2 ++ X) H ∧ va_D A (wC cy ad x.2 ++ X) ∧ va_S A s.heap H locs ∧ lv_has ls 7 [(6, .int (nI x.1)), (4, .long x1), (3, .int (nI k0)), (1, .long pb), (0, .ref (ad 2))]) ?_ _ (0, u1) _ _ _ ⟨rfl, (Nat.zero_le _), hF, hO, (fun i9 hi9 j9 hj9 => by rw [if_neg (fun z9 => absurd z9.1 (Nat.not_lt_zero i9))]; exact hM i9 hi9 j9 hj9), hP, hD, hS, lv_sub hl [0, 1, 2, 3, 4] rfl⟩
      intro ki x H locs ls hI ihi
      obtain ⟨i0, u2⟩ := x
      obtain ⟨hki, hi0, hF2, hO2, hM2, hP, hD, hS, hl⟩ := hI
      have hki : ki = 9 - i0 := hki
      have hi0 : i0 ≤ 9 := hi0
      have hF2 : frX u u2 := hF2
      have hO2 : ∀ k9, k9 < 8 → u2.2.2.1 k9 = u.2.2.1 k9 := hO2
      have hM2 : ∀ i9, i9 < 9 → ∀ j9, j9 < 18 → u2.2.2.1 (8 + i9) j9 = Int64.ofInt (if i9 < i0 ∧ i9 ≠ k0 then stg (AM (nw u)) (k0 + 1) i9 j9 else stg (AM (nw u)) k0 i9 j9) := hM2
      have hP : va_P dd vwCl (wC cy ad u2 ++ X) H := hP
      have hD : va_D A (wC cy ad u2 ++ X) := hD
      have hl : lv_has ls 7 [(6, .int (nI i0)), (4, .long x1), (3, .int (nI k0)), (1, .long pb), (0, .ref (ad 2))] := hl
      refine lv_iload hx hb dX0_invert_32 (lv_at hl 0 rfl) ?_
      refine lv_bipush (v := nI 9) hx hb dX0_invert_34 (by decide) ?_
      refine wn_icmp_ge (tgt := 61) hx hb dX0_invert_36 (by decide) (by omega) (by omega) (fun c2 => ?_) (fun c2 => ?_)
      · refine lv_lload hx hb dX0_invert_61 (lv_at hl 1 rfl) ?_
        refine lv_lstore_n (lv' := [(1, .long x1), (6, .int (nI i0)), (4, .long x1), (3, .int (nI k0)), (0, .ref (ad 2))]) hx hb dX0_invert_63 rfl hl (by decide) rfl (fun ls hl => ?_)
        refine lv_iinc (v := (nI (k0 + 1))) (lv' := [(3, .int (nI (k0 + 1))), (1, .long x1), (6, .int (nI i0)), (4, .long x1), (0, .ref (ad 2))]) hx hb dX0_invert_64 hl (k := 3) rfl (nI_1 _) (by decide) rfl (fun ls hl => ?_)
        refine lv_goto (tgt := 4) hx hb dX0_invert_67 (by decide) ?_
        exact iho (9 - (k0 + 1)) (k0 + 1, x1, u2) _ _ ls (by omega) ⟨rfl, (by show k0 + 1 ≤ 9; omega), hF2, hO2, (fun j9 h9 => (Classical.em (j9 = k0)).elim (fun q9 => by rw [q9]; exact hp1) (fun q9 => hpv j9 (by have h9 : j9 < k0 + 1 := h9; omega))), (fun i9 hi9 j9 hj9 => by rw [hM2 i9 hi9 j9 hj9]; exact (Classical.em (i9 = k0)).elim (fun q9 => by subst q9; rw [if_neg (fun z9 => z9.2 rfl), stg_row hBal (by omega) (by have := hpk.1; omega) hp1]) (fun q9 => by rw [if_pos ⟨by omega, q9⟩])), hpx, hP, hD, hS, lv_sub hl [0, 1, 4] rfl⟩
      · refine lv_iload hx hb dX0_invert_39 (lv_at hl 0 rfl) ?_
        refine lv_iload_n hx hb dX0_invert_41 rfl (lv_at hl 2 rfl) ?_
        refine wn_icmp_eq (tgt := 55) hx hb dX0_invert_42 (by decide) (by omega) (by omega) (fun cI => ?_) (fun cI => ?_)
        · refine lv_iinc (v := (nI (i0 + 1))) (lv' := [(6, .int (nI (i0 + 1))), (4, .long x1), (3, .int (nI k0)), (1, .long pb), (0, .ref (ad 2))]) hx hb dX0_invert_55 hl (k := 0) rfl (nI_1 _) (by decide) rfl (fun ls hl => ?_)
          refine lv_goto (tgt := 32) hx hb dX0_invert_58 (by decide) ?_
          exact ihi (9 - (i0 + 1)) (i0 + 1, u2) _ _ ls (by omega) ⟨rfl, (by show i0 + 1 ≤ 9; omega), hF2, hO2, (fun i9 hi9 j9 hj9 => by rw [hM2 i9 hi9 j9 hj9]; congr 1; exact (Classical.em (i9 < i0 ∧ i9 ≠ k0)).elim (fun q9 => by rw [if_pos q9, if_pos ⟨by show i9 < i0 + 1; omega, q9.2⟩]) (fun q9 => by rw [if_neg q9, if_neg (fun z9 => q9 ⟨by have h9 : i9 < i0 + 1 := z9.1; have := z9.2; omega, z9.2⟩)])), hP, hD, hS, lv_sub hl [0, 1, 2, 3, 4] rfl⟩
        · refine lv_aload_n hx hb dX0_invert_45 rfl (lv_at hl 4 rfl) ?_
          refine lv_iload hx hb dX0_invert_46 (lv_at hl 0 rfl) ?_
          refine lv_iload_n hx hb dX0_invert_48 rfl (lv_at hl 2 rfl) ?_
          refine lv_lload hx hb dX0_invert_49 (lv_at hl 1 rfl) ?_
          refine lv_lload_n hx hb dX0_invert_51 rfl (lv_at hl 3 rfl) ?_
          refine wc_callv (va_runV (As := [.int (nI i0), .int (nI k0), .long x1, .long pb]) (rest := []) ⟨hx, hb, hml, hown, hts⟩ (c_X0_eliminate l dd cy ad X tt u2 _ i0 k0 (by omega) (by omega) cI x1 pb hpb0) (cwV 4 hts gX0_invert_X0_eliminate rfl rfl rfl hd_X0_eliminate ⟨Nat.le_of_ble_eq_true rfl, Nat.le_of_ble_eq_true rfl⟩) (wrC_V hP hK hD hSt hS hA (wC_2 cy ad u2 X) rfl) rfl rfl hl.1 rfl (lv_room (Nat.le_of_ble_eq_true rfl)) dX0_invert_52 ⟨Nat.le_of_ble_eq_true rfl, Nat.le_of_ble_eq_true rfl⟩) hD hS hA (fun us4 H locs w5 hP hD hS => ?_)
          obtain ⟨eF, eO, eM⟩ := w5
          refine lv_iinc (v := (nI (i0 + 1))) (lv' := [(6, .int (nI (i0 + 1))), (4, .long x1), (3, .int (nI k0)), (1, .long pb), (0, .ref (ad 2))]) hx hb dX0_invert_55 hl (k := 0) rfl (nI_1 _) (by decide) rfl (fun ls hl => ?_)
          refine lv_goto (tgt := 32) hx hb dX0_invert_58 (by decide) ?_
          have eM2 : ∀ j9, j9 < 18 → us4.2.2.1 (8 + i0) j9 = Int64.ofInt (stg (AM (nw u)) (k0 + 1) i0 j9) := by
            intro j9 hj9
            rw [eM j9 hj9, hM2 i0 (by omega) j9 hj9, if_neg (fun z9 => absurd z9.1 (Nat.lt_irrefl _)), hM2 i0 (by omega) k0 (by omega), if_neg (fun z9 => absurd z9.1 (Nat.lt_irrefl _)), hM2 k0 (by omega) j9 hj9, if_neg (fun z9 => z9.2 rfl), hpx, hpb]
            have b1 := stg_B hBal (show k0 ≤ 9 by omega) hpv (show i0 < 9 by omega) hj9
            have b2 := stg_B hBal (show k0 ≤ 9 by omega) hpv (show k0 < 9 by omega) hj9
            have b3 := stg_F hBal (show k0 ≤ 9 by omega) hpv (show i0 < 9 by omega) (show k0 < 9 by omega)
            have b4 := stg_B hBal (show k0 + 1 ≤ 9 by omega) hpv1 (show i0 < 9 by omega) hj9
            exact elim_ofI hpk.1 hpk.2 ⟨Int.le_of_lt hpk1.1, hpk1.2⟩ b1 b3 b2 b4 (stg_step hBal (by omega) (by omega) hj9 cI (by have := hpk.1; omega) hp1)
          exact ihi (9 - (i0 + 1)) (i0 + 1, us4) _ _ ls (by omega) ⟨rfl, (by show i0 + 1 ≤ 9; omega), (frX_t hF2 eF), (fun k9 h9 => (eO k9 (by omega)).trans (hO2 k9 h9)), (fun i9 hi9 j9 hj9 => (Classical.em (i9 = i0)).elim (fun q9 => by subst q9; rw [eM2 j9 hj9, if_pos ⟨Nat.lt_succ_self _, cI⟩]) (fun q9 => by rw [eO _ (by omega), hM2 i9 hi9 j9 hj9]; congr 1; exact (Classical.em (i9 < i0 ∧ i9 ≠ k0)).elim (fun t9 => by rw [if_pos t9, if_pos ⟨by show i9 < i0 + 1; omega, t9.2⟩]) (fun t9 => by rw [if_neg t9, if_neg (fun z9 => t9 ⟨by have h9 : i9 < i0 + 1 := z9.1; omega, z9.2⟩)]))), hP, hD, hS, lv_sub hl [0, 1, 2, 3, 4] rfl⟩
    · refine lv_lconst (v := 0) hx hb dX0_invert_27 rfl ?_
      exact W.lret (v := 0) hx hb hr (fun t ht hW => ⟨⟨0, u1, rfl, ⟨by rw [loose_0 hrg (fun q9 => absurd (show pv (AM (nw u)) (k0 + 1) = 0 from (ofI_z (by have := hpk; omega) (by have := hpk; omega)).mp (by rw [← hpx]; exact cP)) (tight_piv hrg.1 q9 k0 (by omega)))]; exact ofI_0.symm, hF, hO, fun q9 => absurd (show pv (AM (nw u)) (k0 + 1) = 0 from (ofI_z (by have := hpk; omega) (by have := hpk; omega)).mp (by rw [← hpx]; exact cP)) (tight_piv hrg.1 q9 k0 (by omega))⟩, by rw [ht]; exact hP, va_K.moved hW.alike hK, hD⟩, hS.F ht⟩) hS.2.2 dX0_invert_28
theorem hd_X0_fillScaledHeads : yX0_fillScaledHeads.cls = RX0 ∧ yX0_fillScaledHeads.cls ≠ "java/lang/invoke/MethodHandle" ∧ yX0_fillScaledHeads.cls ≠ "java/lang/invoke/VarHandle" ∧ (parseMethodDescriptor yX0_fillScaledHeads.desc).map (fun d => d.parameters.length) = some 0 := by decide +kernel
set_option maxHeartbeats 4000000 in
set_option maxRecDepth 100000 in
/-- fillScaledHeads() -/
theorem c_X0_fillScaledHeads (l : Launch) (dd : va_G) (cy : Nat → ClassId) (ad : Nat → Nat) (X : va_W) (tt : Nat × Nat) (u : CS) (sz : Nat)  : Met l yX0_fillScaledHeads wsX0_fillScaledHeads ({ frames := 1, cells := 0, slots := 0, locals := 22 }) (va_Pc [.ref (ad 2)] (wrC dd cy tt (wC cy ad u ++ X) sz)) (va_Qv (fun u9 => frX u u9 ∧ (∀ k, k ≠ 5 → u9.2.2.1 k = u.2.2.1 k) ∧ ∀ i, i < 9 → u9.2.2.1 5 i = smL 9 (fun j => u.2.2.1 (8 + i) (9 + j) * u.2.2.1 4 j)) (wB dd cy (fun u9 : CS => wC cy ad u9 ++ X) (va_A (wC cy ad u ++ X) sz)) (va_A (wC cy ad u ++ X) sz)) 0 0 (va_A (wC cy ad u ++ X) sz) := by
  refine Met.ofW (cc := cX0_fillScaledHeads) (maxL := 5) (ret := none) (by decide) rfl ?_
  intro p e s m args below meth c s₁ B hml hv
  obtain ⟨rfl, hsz, hP, hK, hD0, hSt⟩ := hv
  have hx := B.exec
  have hb := B.bytes
  have hr := B.returns
  have hts := atoms_spec (ws := wsX0_fillScaledHeads) B.pre
  have hown : s.vm.findClass RX0 = some m.cls := findClass_of_methodNamed B.named
  have hlocks := B.notSynchronized
  subst hsz
  have hD := hD0.self (sz := s.heap.size)
  generalize hAe : va_A (wC cy ad u ++ X) s.heap.size = A at hD hSt ⊢
  have hA : ∀ q : Nat, s.heap.size ≤ q → A q := fun q h => by rw [← hAe]; exact Or.inr h
  have hS : va_S A s.heap s.heap [] := va_S.rf
  have hl := lv_entry ([.ref (ad 2)]) (n := 5) (Nat.le_of_ble_eq_true rfl)
  rw [lg_entry_eq]
  generalize (lg_sl ([.ref (ad 2)]) ++ List.replicate (5 - (lg_sl ([.ref (ad 2)])).length) Slot.unset).toArray = ls at hl ⊢
  have hl : lv_has ls 5 [(0, .ref (ad 2))] := hl
  refine lv_iconst (v := nI 0) hx hb dX0_fillScaledHeads_0 (by decide) ?_
  refine lv_istore_n (lv' := [(1, .int (nI 0)), (0, .ref (ad 2))]) hx hb dX0_fillScaledHeads_1 rfl hl (by decide) rfl (fun ls hl => ?_)
  refine wLoop (σ := Nat × CS) (fun k x H locs ls => k = 9 - x.1 ∧ (x.1 ≤ 9) ∧ (frX u x.2) ∧ (∀ k9, k9 ≠ 5 → x.2.2.2.1 k9 = u.2.2.1 k9) ∧ (∀ i9, i9 < x.1 → x.2.2.2.1 5 i9 = smL 9 (fun j => u.2.2.1 (8 + i9) (9 + j) * u.2.2.1 4 j)) ∧ va_P dd vwCl (wC cy ad x.2 ++ X) H ∧ va_D A (wC cy ad x.2 ++ X) ∧ va_S A s.heap H locs ∧ lv_has ls 5 [(1, .int (nI x.1)), (0, .ref (ad 2))]) ?_ _ (0, u) _ _ _ ⟨rfl, (Nat.zero_le _), frX_rf, (fun _ _ => rfl), (fun i9 h9 => absurd h9 (Nat.not_lt_zero i9)), hP, hD, hS, lv_sub hl [0, 1] rfl⟩
  intro ko x H locs ls hI iho
  obtain ⟨i0, u1⟩ := x
  obtain ⟨hko, hi0, hF, hO, hM, hP, hD, hS, hl⟩ := hI
  have hko : ko = 9 - i0 := hko
  have hi0 : i0 ≤ 9 := hi0
  have hF : frX u u1 := hF
  have hO : ∀ k9, k9 ≠ 5 → u1.2.2.1 k9 = u.2.2.1 k9 := hO
  have hM : ∀ i9, i9 < i0 → u1.2.2.1 5 i9 = smL 9 (fun j => u.2.2.1 (8 + i9) (9 + j) * u.2.2.1 4 j) := hM
  have hP : va_P dd vwCl (wC cy ad u1 ++ X) H := hP
  have hD : va_D A (wC cy ad u1 ++ X) := hD
  have hl : lv_has ls 5 [(1, .int (nI i0)), (0, .ref (ad 2))] := hl
  refine lv_iload_n hx hb dX0_fillScaledHeads_2 rfl (lv_at hl 0 rfl) ?_
  refine lv_bipush (v := nI 9) hx hb dX0_fillScaledHeads_3 (by decide) ?_
  refine wn_icmp_ge (tgt := 57) hx hb dX0_fillScaledHeads_5 (by decide) (by omega) (by omega) (fun c1 => ?_) (fun c1 => ?_)
  · exact W.vret hx hb hr (fun t ht hW => ⟨⟨u1, rfl, ⟨hF, hO, fun i9 hi9 => hM i9 (by omega)⟩, by rw [ht]; exact hP, va_K.moved hW.alike hK, hD⟩, hS.F ht⟩) hS.2.2 dX0_fillScaledHeads_57
  · refine lv_lconst (v := 0) hx hb dX0_fillScaledHeads_8 rfl ?_
    refine lv_lstore_n (lv' := [(2, .long 0), (1, .int (nI i0)), (0, .ref (ad 2))]) hx hb dX0_fillScaledHeads_9 rfl hl (by decide) rfl (fun ls hl => ?_)
    refine lv_iconst (v := nI 0) hx hb dX0_fillScaledHeads_10 (by decide) ?_
    refine lv_istore (lv' := [(4, .int (nI 0)), (2, .long 0), (1, .int (nI i0)), (0, .ref (ad 2))]) hx hb dX0_fillScaledHeads_11 hl (by decide) rfl (fun ls hl => ?_)
    refine wLoopR (σ := Nat × Int64) (fun k x ls => k = 9 - x.1 ∧ (x.1 ≤ 9) ∧ (x.2 = smL x.1 (fun j => u.2.2.1 (8 + i0) (9 + j) * u.2.2.1 4 j)) ∧ lv_has ls 5 [(4, .int (nI x.1)), (2, .long x.2), (1, .int (nI i0)), (0, .ref (ad 2))]) ?_ _ (0, 0) _ ⟨rfl, (Nat.zero_le _), rfl, lv_sub hl [0, 1, 2, 3] rfl⟩
    intro ki x ls hI ihi
    obtain ⟨j0, z⟩ := x
    obtain ⟨hki, hj0, hz, hl⟩ := hI
    have hki : ki = 9 - j0 := hki
    have hj0 : j0 ≤ 9 := hj0
    have hz : z = smL j0 (fun j => u.2.2.1 (8 + i0) (9 + j) * u.2.2.1 4 j) := hz
    have hl : lv_has ls 5 [(4, .int (nI j0)), (2, .long z), (1, .int (nI i0)), (0, .ref (ad 2))] := hl
    refine lv_iload hx hb dX0_fillScaledHeads_13 (lv_at hl 0 rfl) ?_
    refine lv_bipush (v := nI 9) hx hb dX0_fillScaledHeads_15 (by decide) ?_
    refine wn_icmp_ge (tgt := 44) hx hb dX0_fillScaledHeads_17 (by decide) (by omega) (by omega) (fun c2 => ?_) (fun c2 => ?_)
    · refine lv_aload_n hx hb dX0_fillScaledHeads_44 rfl (lv_at hl 3 rfl) ?_
      refine va_get (D := dd) (ci := 2) (v := .ref (ad 5)) (C := RX0) (T := TX0) (N := 4) hx hb hts (fun _ h9 => List.mem_cons_of_mem _ (List.mem_append_left _ (List.mem_append_right _ h9))) hown hK hP (2) (wC_2 cy ad u1 X) rfl 2 (by decide) (hts (Cond.fieldLink RX0 20 "HeadGrid$Solution" "scaledHeads" "[J") (List.mem_of_getElem? (i := 2) rfl)) (fun _ h9 => h9) rfl dX0_fillScaledHeads_45 ?_
      refine lv_iload_n hx hb dX0_fillScaledHeads_48 rfl (lv_at hl 2 rfl) ?_
      refine lv_lload_n hx hb dX0_fillScaledHeads_49 rfl (lv_at hl 1 rfl) ?_
      refine wa_last hx hb hK hP hD hS (wC_5 cy ad u1 X) (t0 := 1) rfl (i := i0) (by omega) (by decide) dX0_fillScaledHeads_50 (wC_s5 cy ad u1 X _) (fun H locs hP hD hS => ?_)
      obtain ⟨us3, hus3⟩ : ∃ z9z : CS, z9z = (u1.1, u1.2.1, va_up u1.2.2.1 5 (vp_updL (u1.2.2.1 5) i0 z), u1.2.2.2) := ⟨_, rfl⟩
      rw [← hus3] at hP hD
      have pus3_s : us3.2.2.1 (5) = (vp_updL (u1.2.2.1 5) i0 z) := by rw [hus3]; first | exact va_up_s _ _ _ | rfl
      have pus3_o : ∀ j9, j9 ≠ 5 → us3.2.2.1 j9 = u1.2.2.1 j9 := fun j9 h9 => by rw [hus3]; exact va_up_n h9
      have pus3_1 : us3.1 = u1.1 := by rw [hus3]
      have pus3_21 : us3.2.1 = u1.2.1 := by rw [hus3]
      have pus3_222 : us3.2.2.2 = u1.2.2.2 := by rw [hus3]
      refine lv_iinc (v := (nI (i0 + 1))) (lv' := [(1, .int (nI (i0 + 1))), (4, .int (nI j0)), (2, .long z), (0, .ref (ad 2))]) hx hb dX0_fillScaledHeads_51 hl (k := 2) rfl (nI_1 _) (by decide) rfl (fun ls hl => ?_)
      refine lv_goto (tgt := 2) hx hb dX0_fillScaledHeads_54 (by decide) ?_
      exact iho (9 - (i0 + 1)) (i0 + 1, us3) _ _ ls (by omega) ⟨rfl, (by show i0 + 1 ≤ 9; omega), ⟨pus3_1.trans hF.1, pus3_21.trans hF.2.1, pus3_222.trans hF.2.2⟩, (fun k9 h9 => (pus3_o k9 h9).trans (hO k9 h9)), (fun i9 hi9 => by rw [pus3_s]; unfold vp_updL; exact (Classical.em (i9 = i0)).elim (fun e9 => by subst e9; rw [if_pos rfl, hz, show j0 = 9 by omega]) (fun e9 => by rw [if_neg e9]; exact hM i9 (by have h9 : i9 < i0 + 1 := hi9; omega))), hP, hD, hS, lv_sub hl [0, 3] rfl⟩
    · refine lv_lload_n hx hb dX0_fillScaledHeads_20 rfl (lv_at hl 1 rfl) ?_
      refine lv_aload_n hx hb dX0_fillScaledHeads_21 rfl (lv_at hl 3 rfl) ?_
      refine lv_iload_n hx hb dX0_fillScaledHeads_22 rfl (lv_at hl 2 rfl) ?_
      refine lv_iload hx hb dX0_fillScaledHeads_23 (lv_at hl 0 rfl) ?_
      refine vp_callSl (va_runV (As := [.int (nI i0), .int (nI j0)]) (rest := [.long z]) ⟨hx, hb, hml, hown, hts⟩ (c_X0_scaledInfluence l dd cy ad X tt u1 i0 j0 (by omega) (by omega)) (cwV 2 hts gX0_fillScaledHeads_X0_scaledInfluence rfl rfl rfl hd_X0_scaledInfluence ⟨Nat.le_of_ble_eq_true rfl, Nat.le_of_ble_eq_true rfl⟩) (rdC_V hP hK hSt hS (wC_2 cy ad u1 X) rfl) rfl rfl hl.1 rfl (lv_room (Nat.le_of_ble_eq_true rfl)) dX0_fillScaledHeads_25 ⟨Nat.le_of_ble_eq_true rfl, Nat.le_of_ble_eq_true rfl⟩).run (fun r4 hr4 => ?_)
      have hr4 : (u1.2.2.1 (8 + i0) (9 + j0)) = r4 := hr4.symm
      subst hr4
      refine lv_aload_n hx hb dX0_fillScaledHeads_28 rfl (lv_at hl 3 rfl) ?_
      refine va_get (D := dd) (ci := 2) (v := .ref (ad 4)) (C := RX0) (T := TX0) (N := 4) hx hb hts (fun _ h9 => List.mem_cons_of_mem _ (List.mem_append_left _ (List.mem_append_right _ h9))) hown hK hP (2) (wC_2 cy ad u1 X) rfl 1 (by decide) (hts (Cond.fieldLink RX0 16 "HeadGrid$Solution" "supplies" "[J") (List.mem_of_getElem? (i := 1) rfl)) (fun _ h9 => h9) rfl dX0_fillScaledHeads_29 ?_
      refine lv_iload hx hb dX0_fillScaledHeads_32 (lv_at hl 0 rfl) ?_
      refine wa_lald hx hb hK hP (wC_4 cy ad u1 X) (t0 := 1) rfl (i := j0) (by omega) (by decide) dX0_fillScaledHeads_34 ?_
      refine lv_lmul hx hb dX0_fillScaledHeads_35 ?_
      refine lv_ladd hx hb dX0_fillScaledHeads_36 ?_
      refine lv_topl (fun x5 ex5 => ?_)
      refine lv_lstore_n (lv' := [(2, .long x5), (4, .int (nI j0)), (1, .int (nI i0)), (0, .ref (ad 2))]) hx hb dX0_fillScaledHeads_37 rfl hl (by decide) rfl (fun ls hl => ?_)
      refine lv_iinc (v := (nI (j0 + 1))) (lv' := [(4, .int (nI (j0 + 1))), (2, .long x5), (1, .int (nI i0)), (0, .ref (ad 2))]) hx hb dX0_fillScaledHeads_38 hl (k := 1) rfl (nI_1 _) (by decide) rfl (fun ls hl => ?_)
      refine lv_goto (tgt := 13) hx hb dX0_fillScaledHeads_41 (by decide) ?_
      exact ihi (9 - (j0 + 1)) (j0 + 1, x5) ls (by omega) ⟨rfl, (by show j0 + 1 ≤ 9; omega), (by rw [ex5, hz, hO _ (by omega), hO 4 (by decide)]; rfl), lv_sub hl [0, 1, 2, 3] rfl⟩
theorem hd_X0_solve : yX0_solve.cls = RX0 ∧ yX0_solve.cls ≠ "java/lang/invoke/MethodHandle" ∧ yX0_solve.cls ≠ "java/lang/invoke/VarHandle" ∧ (parseMethodDescriptor yX0_solve.desc).map (fun d => d.parameters.length) = some 1 := by decide +kernel
set_option maxHeartbeats 4000000 in
set_option maxRecDepth 100000 in
/-- solve(state) -/
theorem c_X0_solve (l : Launch) (dd : va_G) (cy : Nat → ClassId) (ad : Nat → Nat) (X : va_W) (tt : Nat × Nat) (u : CS) (sz : Nat) (hrg : rgM (nw u)) : Met l yX0_solve wsX0_solve ({ frames := 2, cells := 0, slots := 0, locals := 55 }) (va_Pc [.ref (ad 2), .ref (ad 17)] (wrC dd cy tt (wC cy ad u ++ X) sz)) (va_Qv (fun u9 => slv (nw u) u9 ∧ frQ u u9) (wB dd cy (fun u9 : CS => wC cy ad u9 ++ X) (va_A (wC cy ad u ++ X) sz)) (va_A (wC cy ad u ++ X) sz)) 0 0 (va_A (wC cy ad u ++ X) sz) := by
  refine Met.ofW (cc := cX0_solve) (maxL := 3) (ret := none) (by decide) rfl ?_
  intro p e s m args below meth c s₁ B hml hv
  obtain ⟨rfl, hsz, hP, hK, hD0, hSt⟩ := hv
  have hx := B.exec
  have hb := B.bytes
  have hr := B.returns
  have hts := atoms_spec (ws := wsX0_solve) B.pre
  have hown : s.vm.findClass RX0 = some m.cls := findClass_of_methodNamed B.named
  have hlocks := B.notSynchronized
  subst hsz
  have hD := hD0.self (sz := s.heap.size)
  generalize hAe : va_A (wC cy ad u ++ X) s.heap.size = A at hD hSt ⊢
  have hA : ∀ q : Nat, s.heap.size ≤ q → A q := fun q h => by rw [← hAe]; exact Or.inr h
  have hS : va_S A s.heap s.heap [] := va_S.rf
  have hl := lv_entry ([.ref (ad 2), .ref (ad 17)]) (n := 3) (Nat.le_of_ble_eq_true rfl)
  rw [lg_entry_eq]
  generalize (lg_sl ([.ref (ad 2), .ref (ad 17)]) ++ List.replicate (3 - (lg_sl ([.ref (ad 2), .ref (ad 17)])).length) Slot.unset).toArray = ls at hl ⊢
  have hl : lv_has ls 3 [(0, .ref (ad 2)), (1, .ref (ad 17))] := hl
  refine lv_aload_n hx hb dX0_solve_0 rfl (lv_at hl 0 rfl) ?_
  refine wc_callv (va_runV (As := []) (rest := []) ⟨hx, hb, hml, hown, hts⟩ (c_X0_fillUnitMatrix l dd cy ad X tt u _ ) (cwV 0 hts gX0_solve_X0_fillUnitMatrix rfl rfl rfl hd_X0_fillUnitMatrix ⟨Nat.le_of_ble_eq_true rfl, Nat.le_of_ble_eq_true rfl⟩) (wrC_V hP hK hD hSt hS hA (wC_2 cy ad u X) rfl) rfl rfl hl.1 rfl (lv_room (Nat.le_of_ble_eq_true rfl)) dX0_solve_1 ⟨Nat.le_of_ble_eq_true rfl, Nat.le_of_ble_eq_true rfl⟩) hD hS hA (fun us2 H locs w3 hP hD hS => ?_)
  obtain ⟨fA, mA⟩ := w3
  refine lv_aload_n hx hb dX0_solve_4 rfl (lv_at hl 0 rfl) ?_
  refine lv_aload_n hx hb dX0_solve_5 rfl (lv_at hl 1 rfl) ?_
  refine wc_callv (va_runV (As := [.ref (ad 17)]) (rest := []) ⟨hx, hb, hml, hown, hts⟩ (c_X0_fillSupplies l dd cy ad X tt us2 _ ) (cwV 1 hts gX0_solve_X0_fillSupplies rfl rfl rfl hd_X0_fillSupplies ⟨Nat.le_of_ble_eq_true rfl, Nat.le_of_ble_eq_true rfl⟩) (wrC_V hP hK hD hSt hS hA (wC_2 cy ad us2 X) rfl) rfl rfl hl.1 rfl (lv_room (Nat.le_of_ble_eq_true rfl)) dX0_solve_6 ⟨Nat.le_of_ble_eq_true rfl, Nat.le_of_ble_eq_true rfl⟩) hD hS hA (fun us5 H locs w6 hP hD hS => ?_)
  obtain ⟨fB, oB, mB⟩ := w6
  have nB : nw us2 = nw u := frX_nw fA
  have fAB : frX u us5 := frX_t fA fB
  refine lv_iconst (v := nI 0) hx hb dX0_solve_9 (by decide) ?_
  refine lv_istore_n (lv' := [(2, .int (nI 0)), (0, .ref (ad 2)), (1, .ref (ad 17))]) hx hb dX0_solve_10 rfl hl (by decide) rfl (fun ls hl => ?_)
  refine wLoop (σ := Nat × CS) (fun k x H locs ls => k = 24 - x.1 ∧ (x.1 ≤ 24) ∧ (frX u x.2) ∧ (∀ i9, i9 < 9 → ∀ j9, j9 < 18 → x.2.2.2.1 (8 + i9) j9 = (if j9 = 9 + i9 then (1 : Int64) else 0) + Int64.ofInt (sm x.1 (ctR (nw u) i9 j9))) ∧ (∀ i9, i9 < 9 → x.2.2.2.1 4 i9 = (nw u (36 + i9) - nw u (45 + i9)).toInt64 + Int64.ofInt (sm x.1 (ctS (nw u) i9))) ∧ va_P dd vwCl (wC cy ad x.2 ++ X) H ∧ va_D A (wC cy ad x.2 ++ X) ∧ va_S A s.heap H locs ∧ lv_has ls 3 [(2, .int (nI x.1)), (1, .ref (ad 17)), (0, .ref (ad 2))]) ?_ _ (0, us5) _ _ _ ⟨rfl, (Nat.zero_le _), fAB, (fun i9 hi9 j9 hj9 => by rw [oB _ (by omega), mA i9 hi9 j9 hj9]; exact (i64_a0 _).symm), (fun i9 hi9 => by rw [mB i9 hi9, nB]; exact (i64_a0 _).symm), hP, hD, hS, lv_sub hl [0, 2, 1] rfl⟩
  intro k x H locs ls hI ih
  obtain ⟨k0, u1⟩ := x
  obtain ⟨hk, hk0, hF, hM, hN, hP, hD, hS, hl⟩ := hI
  have hk : k = 24 - k0 := hk
  have hk0 : k0 ≤ 24 := hk0
  have hF : frX u u1 := hF
  have hM : ∀ i9, i9 < 9 → ∀ j9, j9 < 18 → u1.2.2.1 (8 + i9) j9 = (if j9 = 9 + i9 then (1 : Int64) else 0) + Int64.ofInt (sm k0 (ctR (nw u) i9 j9)) := hM
  have hN : ∀ i9, i9 < 9 → u1.2.2.1 4 i9 = (nw u (36 + i9) - nw u (45 + i9)).toInt64 + Int64.ofInt (sm k0 (ctS (nw u) i9)) := hN
  have hP : va_P dd vwCl (wC cy ad u1 ++ X) H := hP
  have hD : va_D A (wC cy ad u1 ++ X) := hD
  have hl : lv_has ls 3 [(2, .int (nI k0)), (1, .ref (ad 17)), (0, .ref (ad 2))] := hl
  refine lv_iload_n hx hb dX0_solve_11 rfl (lv_at hl 0 rfl) ?_
  refine lv_bipush (v := nI 24) hx hb dX0_solve_12 (by decide) ?_
  refine wn_icmp_ge (tgt := 29) hx hb dX0_solve_14 (by decide) (by omega) (by omega) (fun c7 => ?_) (fun c7 => ?_)
  · refine lv_aload_n hx hb dX0_solve_29 rfl (lv_at hl 2 rfl) ?_
    refine lv_aload_n hx hb dX0_solve_30 rfl (lv_at hl 2 rfl) ?_
    refine wc_calll (va_runV (As := []) (rest := [.ref (ad 2)]) ⟨hx, hb, hml, hown, hts⟩ (c_X0_invert l dd cy ad X tt u1 _ (by rw [frX_nw hF]; exact hrg) (fun i9 hi9 j9 hj9 => by rw [hM i9 hi9 j9 hj9, frX_nw hF, show k0 = 24 by omega, lay_0 hi9 hj9])) (cwV 0 hts gX0_solve_X0_invert rfl rfl rfl hd_X0_invert ⟨Nat.le_of_ble_eq_true rfl, Nat.le_of_ble_eq_true rfl⟩) (wrC_V hP hK hD hSt hS hA (wC_2 cy ad u1 X) rfl) rfl rfl hl.1 rfl (lv_room (Nat.le_of_ble_eq_true rfl)) dX0_solve_31 ⟨Nat.le_of_ble_eq_true rfl, Nat.le_of_ble_eq_true rfl⟩) hD hS hA (fun r8 us9 H locs w10 hP hD hS => ?_)
    obtain ⟨eI, fI, oI, cI⟩ := w10
    have nI9 : nw u1 = nw u := frX_nw hF
    rw [nI9] at eI cI
    refine va_put (D := dd) (ci := 2) (v := .long r8) (ty := .long) (C := RX0) (T := TX0) (N := 4) hx hb hts (fun _ h9 => List.mem_cons_of_mem _ (List.mem_append_left _ (List.mem_append_left _ (List.mem_append_left _ (List.mem_append_right _ h9))))) tyX0 tyX0_ok nmX0 hown hK hP hD hS (2) (wC_2 cy ad us9 X) rfl 3 (by decide) (hts (Cond.fieldLink RX0 23 "HeadGrid$Solution" "denominator" "J") (List.mem_of_getElem? (i := 1) rfl)) (fun _ h9 => h9) rfl (tyX0_ok 3 (by decide)) rfl rfl (Nat.le_of_ble_eq_true rfl) dX0_solve_34 (fun H locs hP hD hS => ?_)
    have hP : va_P dd vwCl (wC cy ad (us9.1, us9.2.1, us9.2.2.1, us9.2.2.2.1, us9.2.2.2.2.1, r8, us9.2.2.2.2.2.2) ++ X) H := hP
    have hD : va_D A (wC cy ad (us9.1, us9.2.1, us9.2.2.1, us9.2.2.2.1, us9.2.2.2.2.1, r8, us9.2.2.2.2.2.2) ++ X) := hD
    obtain ⟨us11, hus11⟩ : ∃ z9z : CS, z9z = (us9.1, us9.2.1, us9.2.2.1, us9.2.2.2.1, us9.2.2.2.2.1, r8, us9.2.2.2.2.2.2) := ⟨_, rfl⟩
    rw [← hus11] at hP hD
    have pus11_1 : us11.1 = us9.1 := by rw [hus11]
    have pus11_21 : us11.2.1 = us9.2.1 := by rw [hus11]
    have pus11_221 : us11.2.2.1 = us9.2.2.1 := by rw [hus11]
    have pus11_222222 : us11.2.2.2.2.2.2 = us9.2.2.2.2.2.2 := by rw [hus11]
    have pus11_savedCount : us11.2.2.2.1 = us9.2.2.2.1 := by rw [hus11]
    have pus11_solved : us11.2.2.2.2.1 = us9.2.2.2.2.1 := by rw [hus11]
    have h_denominator : r8 = us11.2.2.2.2.2.1 := by rw [hus11]
    refine lv_aload_n hx hb dX0_solve_37 rfl (lv_at hl 2 rfl) ?_
    refine va_get (D := dd) (ci := 2) (v := .long r8) (C := RX0) (T := TX0) (N := 4) hx hb hts (fun _ h9 => List.mem_cons_of_mem _ (List.mem_append_left _ (List.mem_append_left _ (List.mem_append_left _ (List.mem_append_right _ h9))))) hown hK hP (2) (wC_2 cy ad us11 X) rfl 3 (by decide) (hts (Cond.fieldLink RX0 23 "HeadGrid$Solution" "denominator" "J") (List.mem_of_getElem? (i := 1) rfl)) (fun _ h9 => h9) (by rw [h_denominator]; rfl) dX0_solve_38 ?_
    refine lv_lconst (v := 0) hx hb dX0_solve_41 rfl ?_
    refine wl_eq (tgt := 50) hx hb dX0_solve_42 dX0_solve_43 (by decide) (fun cZ => ?_) (fun cZ => ?_)
    · exact W.vret hx hb hr (fun t ht hW => ⟨⟨us11, rfl, ⟨⟨by rw [← h_denominator]; exact eI, fun q9 => absurd q9 ((den_0 hrg).mp (by rw [← eI]; exact cZ))⟩, frQ_t (frQ_t (frX_Q hF) (frX_Q fI)) ⟨pus11_1, pus11_21, pus11_savedCount, pus11_solved, pus11_222222⟩⟩, by rw [ht]; exact hP, va_K.moved hW.alike hK, hD⟩, hS.F ht⟩) hS.2.2 dX0_solve_50
    · have h_den := h_denominator
      refine lv_aload_n hx hb dX0_solve_46 rfl (lv_at hl 2 rfl) ?_
      refine wc_callv (va_runV (As := []) (rest := []) ⟨hx, hb, hml, hown, hts⟩ (c_X0_fillScaledHeads l dd cy ad X tt us11 _ ) (cwV 0 hts gX0_solve_X0_fillScaledHeads rfl rfl rfl hd_X0_fillScaledHeads ⟨Nat.le_of_ble_eq_true rfl, Nat.le_of_ble_eq_true rfl⟩) (wrC_V hP hK hD hSt hS hA (wC_2 cy ad us11 X) rfl) rfl rfl hl.1 rfl (lv_room (Nat.le_of_ble_eq_true rfl)) dX0_solve_47 ⟨Nat.le_of_ble_eq_true rfl, Nat.le_of_ble_eq_true rfl⟩) hD hS hA (fun us13 H locs w14 hP hD hS => ?_)
      obtain ⟨fH, oH, mH⟩ := w14
      exact W.vret hx hb hr (fun t ht hW => ⟨⟨us13, rfl, ⟨⟨by rw [show us13.2.2.2.2.2.1 = us11.2.2.2.2.2.1 by rw [fH.2.2], ← h_den]; exact eI, fun q9 => ⟨fun a9 ha9 b9 hb9 => by rw [oH _ (by omega), pus11_221, cI q9 a9 ha9 b9 hb9], fun a9 ha9 => by rw [mH a9 ha9, cn_9]; exact smL_congr (fun j9 hj9 => by rw [pus11_221, cI q9 a9 ha9 j9 hj9, oI 4 (by decide), hN j9 hj9, show k0 = 24 by omega, sup_eq hrg hj9])⟩⟩, frQ_t (frQ_t (frQ_t (frX_Q hF) (frX_Q fI)) ⟨pus11_1, pus11_21, pus11_savedCount, pus11_solved, pus11_222222⟩) (frX_Q fH)⟩, by rw [ht]; exact hP, va_K.moved hW.alike hK, hD⟩, hS.F ht⟩) hS.2.2 dX0_solve_50
  · refine lv_aload_n hx hb dX0_solve_17 rfl (lv_at hl 2 rfl) ?_
    refine lv_aload_n hx hb dX0_solve_18 rfl (lv_at hl 1 rfl) ?_
    refine lv_iload_n hx hb dX0_solve_19 rfl (lv_at hl 0 rfl) ?_
    refine wc_callv (va_runV (As := [.ref (ad 17), .int (nI k0)]) (rest := []) ⟨hx, hb, hml, hown, hts⟩ (c_X0_addLink l dd cy ad X tt u1 _ k0 (by omega)) (cwV 2 hts gX0_solve_X0_addLink rfl rfl rfl hd_X0_addLink ⟨Nat.le_of_ble_eq_true rfl, Nat.le_of_ble_eq_true rfl⟩) (wrC_V hP hK hD hSt hS hA (wC_2 cy ad u1 X) rfl) rfl rfl hl.1 rfl (lv_room (Nat.le_of_ble_eq_true rfl)) dX0_solve_20 ⟨Nat.le_of_ble_eq_true rfl, Nat.le_of_ble_eq_true rfl⟩) hD hS hA (fun us16 H locs w17 hP hD hS => ?_)
    obtain ⟨fL, rL, sL⟩ := w17
    refine lv_iinc (v := (nI (k0 + 1))) (lv' := [(2, .int (nI (k0 + 1))), (1, .ref (ad 17)), (0, .ref (ad 2))]) hx hb dX0_solve_23 hl (k := 0) rfl (nI_1 _) (by decide) rfl (fun ls hl => ?_)
    refine lv_goto (tgt := 11) hx hb dX0_solve_26 (by decide) ?_
    exact ih (24 - (k0 + 1)) (k0 + 1, us16) _ _ ls (by omega) ⟨rfl, (by show k0 + 1 ≤ 24; omega), (frX_t hF fL), (fun i9 hi9 j9 hj9 => by rw [rL i9 hi9 j9 hj9, hM i9 hi9 j9 hj9, frX_nw hF, Int64.add_assoc, ← Int64.ofInt_add]; rfl), (fun i9 hi9 => by rw [sL i9 hi9, hN i9 hi9, frX_nw hF, Int64.add_assoc, ← Int64.ofInt_add]; rfl), hP, hD, hS, lv_sub hl [0, 1, 2] rfl⟩
theorem hd_X2_commonDenominator : yX2_commonDenominator.cls = RX2 ∧ yX2_commonDenominator.cls ≠ "java/lang/invoke/MethodHandle" ∧ yX2_commonDenominator.cls ≠ "java/lang/invoke/VarHandle" ∧ (parseMethodDescriptor yX2_commonDenominator.desc).map (fun d => d.parameters.length) = some 0 := by decide +kernel
set_option maxHeartbeats 4000000 in
set_option maxRecDepth 100000 in
/-- commonDenominator() -/
theorem c_X2_commonDenominator (l : Launch) (dd : va_G) (cy : Nat → ClassId) (ad : Nat → Nat) (X : va_W) (tt : Nat × Nat) (u : CS) (sz : Nat) (hrg : rgM (nw u)) (b0 : Nat) (hb0 : b0 < 2) (h_solved : nI b0 = u.2.2.2.2.1) (hsv : b0 = 1 → slv (nw u) u) : Met l yX2_commonDenominator wsX2_commonDenominator ({ frames := 3, cells := 0, slots := 0, locals := 77 }) (va_Pc [.ref (ad 0)] (wrC dd cy tt (wC cy ad u ++ X) sz)) (va_Ql (fun r u9 => r = Int64.ofInt (det 9 (AM (nw u))) ∧ slv (nw u) u9 ∧ u9.2.2.2.2.1 = nI 1 ∧ u9.1 = u.1 ∧ u9.2.1 = u.2.1 ∧ u9.2.2.2.1 = u.2.2.2.1 ∧ u9.2.2.2.2.2.2 = u.2.2.2.2.2.2) (wB dd cy (fun u9 : CS => wC cy ad u9 ++ X) (va_A (wC cy ad u ++ X) sz)) (va_A (wC cy ad u ++ X) sz)) 0 0 (va_A (wC cy ad u ++ X) sz) := by
  refine Met.ofW (cc := cX2_commonDenominator) (maxL := 1) (ret := (some .long)) (by decide) rfl ?_
  intro p e s m args below meth c s₁ B hml hv
  obtain ⟨rfl, hsz, hP, hK, hD0, hSt⟩ := hv
  have hx := B.exec
  have hb := B.bytes
  have hr := B.returns
  have hts := atoms_spec (ws := wsX2_commonDenominator) B.pre
  have hown : s.vm.findClass RX2 = some m.cls := findClass_of_methodNamed B.named
  have hlocks := B.notSynchronized
  subst hsz
  have hD := hD0.self (sz := s.heap.size)
  generalize hAe : va_A (wC cy ad u ++ X) s.heap.size = A at hD hSt ⊢
  have hA : ∀ q : Nat, s.heap.size ≤ q → A q := fun q h => by rw [← hAe]; exact Or.inr h
  have hS : va_S A s.heap s.heap [] := va_S.rf
  have hl := lv_entry ([.ref (ad 0)]) (n := 1) (Nat.le_of_ble_eq_true rfl)
  rw [lg_entry_eq]
  generalize (lg_sl ([.ref (ad 0)]) ++ List.replicate (1 - (lg_sl ([.ref (ad 0)])).length) Slot.unset).toArray = ls at hl ⊢
  have hl : lv_has ls 1 [(0, .ref (ad 0))] := hl
  refine lv_aload_n hx hb dX2_commonDenominator_0 rfl (lv_at hl 0 rfl) ?_
  refine va_get (D := dd) (ci := 4) (v := .int (nI b0)) (C := RX2) (T := TX2) (N := 7) hx hb hts (fun _ h9 => List.mem_cons_of_mem _ (List.mem_append_left _ (List.mem_append_left _ (List.mem_append_left _ (List.mem_append_left _ (List.mem_append_right _ h9)))))) hown hK hP (0) (wC_0 cy ad u X) rfl 4 (by decide) (hts (Cond.fieldLink RX2 31 "HeadGrid" "solved" "Z") (List.mem_of_getElem? (i := 1) rfl)) (fun _ h9 => h9) (by rw [h_solved]; rfl) dX2_commonDenominator_1 ?_
  refine wn_if_ne (tgt := 23) hx hb dX2_commonDenominator_4 (by decide) (by omega) (fun cB => ?_) (fun cB => ?_)
  · refine lv_aload_n hx hb dX2_commonDenominator_23 rfl (lv_at hl 0 rfl) ?_
    refine va_get (D := dd) (ci := 4) (v := .ref (ad 2)) (C := RX2) (T := TX2) (N := 7) hx hb hts (fun _ h9 => List.mem_cons_of_mem _ (List.mem_append_left _ (List.mem_append_left _ (List.mem_append_left _ (List.mem_append_left _ (List.mem_append_right _ h9)))))) hown hK hP (0) (wC_0 cy ad u X) rfl 3 (by decide) (hts (Cond.fieldLink RX2 27 "HeadGrid" "solution" "LHeadGrid$Solution;") (List.mem_of_getElem? (i := 2) rfl)) (fun _ h9 => h9) rfl dX2_commonDenominator_24 ?_
    refine va_get (D := dd) (ci := 2) (v := .long u.2.2.2.2.2.1) (C := RX0) (T := TX0) (N := 4) hx hb hts (fun _ h9 => List.mem_cons_of_mem _ (List.mem_append_left _ (List.mem_append_left _ (List.mem_append_left _ (List.mem_append_right _ h9))))) hown hK hP (2) (wC_2 cy ad u X) rfl 3 (by decide) (hts (Cond.fieldLink RX2 212 "HeadGrid$Solution" "denominator" "J") (List.mem_of_getElem? (i := 4) rfl)) (fun _ h9 => h9) rfl dX2_commonDenominator_27 ?_
    exact W.lret (v := u.2.2.2.2.2.1) hx hb hr (fun t ht hW => ⟨⟨u.2.2.2.2.2.1, u, rfl, ⟨(hsv (by omega)).1, hsv (by omega), by rw [← h_solved, show b0 = 1 by omega], rfl, rfl, rfl, rfl⟩, by rw [ht]; exact hP, va_K.moved hW.alike hK, hD⟩, hS.F ht⟩) hS.2.2 dX2_commonDenominator_30
  · refine lv_aload_n hx hb dX2_commonDenominator_7 rfl (lv_at hl 0 rfl) ?_
    refine va_get (D := dd) (ci := 4) (v := .ref (ad 2)) (C := RX2) (T := TX2) (N := 7) hx hb hts (fun _ h9 => List.mem_cons_of_mem _ (List.mem_append_left _ (List.mem_append_left _ (List.mem_append_left _ (List.mem_append_left _ (List.mem_append_right _ h9)))))) hown hK hP (0) (wC_0 cy ad u X) rfl 3 (by decide) (hts (Cond.fieldLink RX2 27 "HeadGrid" "solution" "LHeadGrid$Solution;") (List.mem_of_getElem? (i := 2) rfl)) (fun _ h9 => h9) rfl dX2_commonDenominator_8 ?_
    refine lv_aload_n hx hb dX2_commonDenominator_11 rfl (lv_at hl 0 rfl) ?_
    refine va_get (D := dd) (ci := 4) (v := .ref (ad 17)) (C := RX2) (T := TX2) (N := 7) hx hb hts (fun _ h9 => List.mem_cons_of_mem _ (List.mem_append_left _ (List.mem_append_left _ (List.mem_append_left _ (List.mem_append_left _ (List.mem_append_right _ h9)))))) hown hK hP (0) (wC_0 cy ad u X) rfl 0 (by decide) (hts (Cond.fieldLink RX2 10 "HeadGrid" "now" "LHeadGrid$State;") (List.mem_of_getElem? (i := 3) rfl)) (fun _ h9 => h9) rfl dX2_commonDenominator_12 ?_
    refine wc_callv (va_runV (As := [.ref (ad 17)]) (rest := []) ⟨hx, hb, hml, hown, hts⟩ (c_X0_solve l dd cy ad X tt u _ hrg) (cwV 1 hts gX2_commonDenominator_X0_solve rfl rfl rfl hd_X0_solve ⟨Nat.le_of_ble_eq_true rfl, Nat.le_of_ble_eq_true rfl⟩) (wrC_V hP hK hD hSt hS hA (wC_2 cy ad u X) rfl) rfl rfl hl.1 rfl (lv_room (Nat.le_of_ble_eq_true rfl)) dX2_commonDenominator_15 ⟨Nat.le_of_ble_eq_true rfl, Nat.le_of_ble_eq_true rfl⟩) hD hS hA (fun us2 H locs w3 hP hD hS => ?_)
    obtain ⟨sS, qS⟩ := w3
    refine lv_aload_n hx hb dX2_commonDenominator_18 rfl (lv_at hl 0 rfl) ?_
    refine lv_iconst (v := nI 1) hx hb dX2_commonDenominator_19 (by decide) ?_
    refine va_put (D := dd) (ci := 4) (v := .int (nI 1)) (ty := .boolean) (C := RX2) (T := TX2) (N := 7) hx hb hts (fun _ h9 => List.mem_cons_of_mem _ (List.mem_append_left _ (List.mem_append_left _ (List.mem_append_left _ (List.mem_append_left _ (List.mem_append_right _ h9)))))) tyX2 tyX2_ok nmX2 hown hK hP hD hS (0) (wC_0 cy ad us2 X) rfl 4 (by decide) (hts (Cond.fieldLink RX2 31 "HeadGrid" "solved" "Z") (List.mem_of_getElem? (i := 1) rfl)) (fun _ h9 => h9) rfl (tyX2_ok 4 (by decide)) rfl rfl (Nat.le_of_ble_eq_true rfl) dX2_commonDenominator_20 (fun H locs hP hD hS => ?_)
    have hP : va_P dd vwCl (wC cy ad (us2.1, us2.2.1, us2.2.2.1, us2.2.2.2.1, (nI 1), us2.2.2.2.2.2) ++ X) H := hP
    have hD : va_D A (wC cy ad (us2.1, us2.2.1, us2.2.2.1, us2.2.2.2.1, (nI 1), us2.2.2.2.2.2) ++ X) := hD
    obtain ⟨us4, hus4⟩ : ∃ z9z : CS, z9z = (us2.1, us2.2.1, us2.2.2.1, us2.2.2.2.1, (nI 1), us2.2.2.2.2.2) := ⟨_, rfl⟩
    rw [← hus4] at hP hD
    have pus4_1 : us4.1 = us2.1 := by rw [hus4]
    have pus4_21 : us4.2.1 = us2.2.1 := by rw [hus4]
    have pus4_221 : us4.2.2.1 = us2.2.2.1 := by rw [hus4]
    have pus4_222222 : us4.2.2.2.2.2.2 = us2.2.2.2.2.2.2 := by rw [hus4]
    have pus4_savedCount : us4.2.2.2.1 = us2.2.2.2.1 := by rw [hus4]
    have h_solved : (nI 1) = us4.2.2.2.2.1 := by rw [hus4]
    have pus4_denominator : us4.2.2.2.2.2.1 = us2.2.2.2.2.2.1 := by rw [hus4]
    refine lv_aload_n hx hb dX2_commonDenominator_23 rfl (lv_at hl 0 rfl) ?_
    refine va_get (D := dd) (ci := 4) (v := .ref (ad 2)) (C := RX2) (T := TX2) (N := 7) hx hb hts (fun _ h9 => List.mem_cons_of_mem _ (List.mem_append_left _ (List.mem_append_left _ (List.mem_append_left _ (List.mem_append_left _ (List.mem_append_right _ h9)))))) hown hK hP (0) (wC_0 cy ad us4 X) rfl 3 (by decide) (hts (Cond.fieldLink RX2 27 "HeadGrid" "solution" "LHeadGrid$Solution;") (List.mem_of_getElem? (i := 2) rfl)) (fun _ h9 => h9) rfl dX2_commonDenominator_24 ?_
    refine va_get (D := dd) (ci := 2) (v := .long us4.2.2.2.2.2.1) (C := RX0) (T := TX0) (N := 4) hx hb hts (fun _ h9 => List.mem_cons_of_mem _ (List.mem_append_left _ (List.mem_append_left _ (List.mem_append_left _ (List.mem_append_right _ h9))))) hown hK hP (2) (wC_2 cy ad us4 X) rfl 3 (by decide) (hts (Cond.fieldLink RX2 212 "HeadGrid$Solution" "denominator" "J") (List.mem_of_getElem? (i := 4) rfl)) (fun _ h9 => h9) rfl dX2_commonDenominator_27 ?_
    exact W.lret (v := us4.2.2.2.2.2.1) hx hb hr (fun t ht hW => ⟨⟨us4.2.2.2.2.2.1, us4, rfl, ⟨by rw [pus4_denominator]; exact sS.1, ⟨by rw [pus4_denominator]; exact sS.1, fun q9 => by rw [pus4_221]; exact sS.2 q9⟩, h_solved.symm, pus4_1.trans qS.1, pus4_21.trans qS.2.1, pus4_savedCount.trans qS.2.2.1, pus4_222222.trans qS.2.2.2.2⟩, by rw [ht]; exact hP, va_K.moved hW.alike hK, hD⟩, hS.F ht⟩) hS.2.2 dX2_commonDenominator_30

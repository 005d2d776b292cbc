/-! the reference: questions about the laid heads -/
theorem pt_if {α : Type} {pt : Nat} (h : pt < 2) (a b : α) : (if nI pt = nI 0 then a else b) = if pt = 0 then a else b := by
  rcases (show pt = 0 ∨ pt = 1 by omega) with e | e
  · subst e; rw [if_pos rfl, if_pos rfl]
  · subst e; rw [if_neg (by decide), if_neg (by decide)]
theorem hd_X3_lacks : yX3_lacks.cls = RX3 ∧ yX3_lacks.cls ≠ "java/lang/invoke/MethodHandle" ∧ yX3_lacks.cls ≠ "java/lang/invoke/VarHandle" ∧ (parseMethodDescriptor yX3_lacks.desc).map (fun d => d.parameters.length) = some 2 := by decide +kernel
set_option maxHeartbeats 4000000 in
set_option maxRecDepth 100000 in
/-- lacks(isThere, part) -/
theorem c_X3_lacks (l : Launch) (dd : va_G) (cy : Nat → ClassId) (ad : Nat → Nat) (X : va_W) (u : MS) (sz : Nat) (tb : Bool) (part : Int32) (hg : GM (u.1 1)) : Met l yX3_lacks wsX3_lacks ({ frames := 4, cells := 0, slots := 0, locals := 94 }) (va_Pc [.ref (ad 0), .int (bI tb), .int part] (wrW dd cy (wM cy ad u ++ X) sz)) (va_Qi (fun r u9 => r = bI (decide ((lkT tb part (lsM u)) ≠ 0)) ∧ u9.2.2.2.2.1 = nI (lkT tb part (lsM u)) ∧ u9.1 = u.1 ∧ u9.2.1 = u.2.1 ∧ u9.2.2.2.1 = u.2.2.2.1 ∧ ((lkT tb part (lsM u)) = 0 → svd (u.1 1) u9)) (wB dd cy (fun u9 : MS => wM cy ad u9 ++ X) (va_A (wM cy ad u ++ X) sz)) (va_A (wM cy ad u ++ X) sz)) 0 0 (va_A (wM cy ad u ++ X) sz) := by
  refine Met.ofW (cc := cX3_lacks) (maxL := 3) (ret := (some .boolean)) (by decide) rfl ?_
  intro p e s m args below meth c s₁ B hml hv
  obtain ⟨rfl, hsz, hP, hK, hD0⟩ := hv
  have hx := B.exec
  have hb := B.bytes
  have hr := B.returns
  have hts := atoms_spec (ws := wsX3_lacks) B.pre
  have hown : s.vm.findClass RX3 = some m.cls := findClass_of_methodNamed B.named
  have hlocks := B.notSynchronized
  subst hsz
  have hD := hD0.self (sz := s.heap.size)
  generalize hAe : va_A (wM cy ad u ++ X) s.heap.size = A at hD ⊢
  have hA : ∀ q : Nat, s.heap.size ≤ q → A q := fun q h => by rw [← hAe]; exact Or.inr h
  have hS : va_S A s.heap s.heap [] := va_S.rf
  have hl := lv_entry ([.ref (ad 0), .int (bI tb), .int part]) (n := 3) (Nat.le_of_ble_eq_true rfl)
  rw [lg_entry_eq]
  generalize (lg_sl ([.ref (ad 0), .int (bI tb), .int part]) ++ List.replicate (3 - (lg_sl ([.ref (ad 0), .int (bI tb), .int part])).length) Slot.unset).toArray = ls at hl ⊢
  have hl : lv_has ls 3 [(0, .ref (ad 0)), (1, .int (bI tb)), (2, .int part)] := hl
  refine lv_aload_n hx hb dX3_lacks_0 rfl (lv_at hl 0 rfl) ?_
  refine lv_iload_n hx hb dX3_lacks_1 rfl (lv_at hl 1 rfl) ?_
  refine wb_if_ne (tgt := 9) hx hb dX3_lacks_2 (by decide) (fun cT => ?_) (fun cT => ?_)
  · refine lv_iload_n hx hb dX3_lacks_9 rfl (lv_at hl 2 rfl) ?_
    refine lv_iconst (v := nI 0) hx hb dX3_lacks_10 (by decide) ?_
    refine lv_iconst (v := nI 1) hx hb dX3_lacks_11 (by decide) ?_
    refine vp_callSi (va_runS (As := [.int part, .int (nI 0), .int (nI 1)]) (rest := [.ref (ad 0)]) ⟨hx, hb, hml, hown, hts⟩ (c_X3_in l part (nI 0) (nI 1)) (va_cwS 3 hts gX3_lacks_X3_in rfl rfl rfl hd_X3_in ⟨Nat.le_of_ble_eq_true rfl, Nat.le_of_ble_eq_true rfl⟩) ⟨fun a U g mk q => q, fun U hU hW => ⟨rfl, trivial⟩⟩ rfl rfl hl.1 rfl (lv_room (Nat.le_of_ble_eq_true rfl)) dX3_lacks_12 ⟨Nat.le_of_ble_eq_true rfl, Nat.le_of_ble_eq_true rfl⟩).run (fun r1 hr1 => ?_)
    have hr1 : r1 = bI (inR part (nI 0) (nI 1)) := hr1
    subst hr1
    refine wb_if_ne (tgt := 22) hx hb dX3_lacks_15 (by decide) (fun cI => ?_) (fun cI => ?_)
    · refine lv_iconst (v := nI 0) hx hb dX3_lacks_22 (by decide) ?_
      refine va_put (D := dd) (ci := 5) (v := .int (nI 0)) (ty := .int) (C := RX3) (T := TX3) (N := 15) hx hb hts (fun _ h9 => List.mem_cons_of_mem _ (List.mem_append_left _ (List.mem_append_right _ h9))) tyX3 tyX3_ok nmX3 hown hK hP hD hS 0 (wM_0 cy ad u X) rfl 5 (by decide) (hts (Cond.fieldLink RX3 45 "HeadGridModel" "thrown" "I") (List.mem_of_getElem? (i := 1) rfl)) (fun _ h9 => h9) rfl (tyX3_ok 5 (by decide)) rfl rfl (Nat.le_of_ble_eq_true rfl) dX3_lacks_23 (fun H locs hP hD hS => ?_)
      have hP : va_P dd vwCl (wM cy ad (u.1, u.2.1, u.2.2.1, u.2.2.2.1, (nI 0), u.2.2.2.2.2) ++ X) H := hP
      have hD : va_D A (wM cy ad (u.1, u.2.1, u.2.2.1, u.2.2.2.1, (nI 0), u.2.2.2.2.2) ++ X) := hD
      obtain ⟨us2, hus2⟩ : ∃ z9z : MS, z9z = (u.1, u.2.1, u.2.2.1, u.2.2.2.1, (nI 0), u.2.2.2.2.2) := ⟨_, rfl⟩
      rw [← hus2] at hP hD
      have pus2_1 : us2.1 = u.1 := by rw [hus2]
      have pus2_21 : us2.2.1 = u.2.1 := by rw [hus2]
      have pus2_221 : us2.2.2.1 = u.2.2.1 := by rw [hus2]
      have pus2_kept : us2.2.2.2.1 = u.2.2.2.1 := by rw [hus2]
      have h_thrown : (nI 0) = us2.2.2.2.2.1 := by rw [hus2]
      have pus2_whole : us2.2.2.2.2.2.1 = u.2.2.2.2.2.1 := by rw [hus2]
      have pus2_hash : us2.2.2.2.2.2.2 = u.2.2.2.2.2.2 := by rw [hus2]
      have qus2_1 : us2.1 = u.1 := pus2_1.trans rfl
      have qus2_21 : us2.2.1 = u.2.1 := pus2_21.trans rfl
      have qus2_k : us2.2.2.2.1 = u.2.2.2.1 := pus2_kept.trans rfl
      refine lv_aload_n hx hb dX3_lacks_26 rfl (lv_at hl 0 rfl) ?_
      refine va_get (D := dd) (ci := 5) (v := .int (nI 0)) (C := RX3) (T := TX3) (N := 15) hx hb hts (fun _ h9 => List.mem_cons_of_mem _ (List.mem_append_left _ (List.mem_append_right _ h9))) hown hK hP 0 (wM_0 cy ad us2 X) rfl 5 (by decide) (hts (Cond.fieldLink RX3 45 "HeadGridModel" "thrown" "I") (List.mem_of_getElem? (i := 1) rfl)) (fun _ h9 => h9) (by rw [h_thrown]; rfl) dX3_lacks_27 ?_
      refine wn_if_ne (tgt := 45) hx hb dX3_lacks_30 (by decide) (by omega) (fun c3 => (by first | exact absurd c3 (by decide) | exact absurd (by decide) c3)) (fun _ => ?_)
      refine lv_aload_n hx hb dX3_lacks_33 rfl (lv_at hl 0 rfl) ?_
      have g7 : GM (us2.1 1) := by rw [qus2_1]; exact hg
      refine wc_calli (va_runV (As := []) (rest := []) ⟨hx, hb, hml, hown, hts⟩ (c_X3_solves l dd cy ad X us2 _ (fun q9 => (g7 ((lsM_iff us2).mp q9)).1)) (cwV 0 hts gX3_lacks_X3_solves rfl rfl rfl hd_X3_solves ⟨Nat.le_of_ble_eq_true rfl, Nat.le_of_ble_eq_true rfl⟩) (wrW_V hP hK hD (wM_0 cy ad us2 X) rfl) rfl rfl hl.1 rfl (lv_room (Nat.le_of_ble_eq_true rfl)) dX3_lacks_34 ⟨Nat.le_of_ble_eq_true rfl, Nat.le_of_ble_eq_true rfl⟩) hD hS hA (fun r4 us5 H locs w6 hP hD hS => ?_)
      have hls9 : lsM us2 = lsM u := lsM_congr qus2_1
      rcases Bool.eq_false_or_eq_true (lsM u) with hlo | hlo
      · obtain ⟨hr4, e9⟩ := w6.1 (hls9.trans hlo)
        subst hr4
        rw [e9] at hP hD
        refine wn_if_ne (tgt := 45) hx hb dX3_lacks_37 (by decide) (by omega) (fun c8 => (by first | exact absurd c8 (by decide) | exact absurd (by decide) c8)) (fun _ => ?_)
        refine lv_aload_n hx hb dX3_lacks_40 rfl (lv_at hl 0 rfl) ?_
        refine lv_iconst (v := nI 3) hx hb dX3_lacks_41 (by decide) ?_
        refine va_put (D := dd) (ci := 5) (v := .int (nI 3)) (ty := .int) (C := RX3) (T := TX3) (N := 15) hx hb hts (fun _ h9 => List.mem_cons_of_mem _ (List.mem_append_left _ (List.mem_append_right _ h9))) tyX3 tyX3_ok nmX3 hown hK hP hD hS 0 (wM_0 cy ad us2 X) rfl 5 (by decide) (hts (Cond.fieldLink RX3 45 "HeadGridModel" "thrown" "I") (List.mem_of_getElem? (i := 1) rfl)) (fun _ h9 => h9) rfl (tyX3_ok 5 (by decide)) rfl rfl (Nat.le_of_ble_eq_true rfl) dX3_lacks_42 (fun H locs hP hD hS => ?_)
        have hP : va_P dd vwCl (wM cy ad (us2.1, us2.2.1, us2.2.2.1, us2.2.2.2.1, (nI 3), us2.2.2.2.2.2) ++ X) H := hP
        have hD : va_D A (wM cy ad (us2.1, us2.2.1, us2.2.2.1, us2.2.2.2.1, (nI 3), us2.2.2.2.2.2) ++ X) := hD
        obtain ⟨us9, hus9⟩ : ∃ z9z : MS, z9z = (us2.1, us2.2.1, us2.2.2.1, us2.2.2.2.1, (nI 3), us2.2.2.2.2.2) := ⟨_, rfl⟩
        rw [← hus9] at hP hD
        have pus9_1 : us9.1 = us2.1 := by rw [hus9]
        have pus9_21 : us9.2.1 = us2.2.1 := by rw [hus9]
        have pus9_221 : us9.2.2.1 = us2.2.2.1 := by rw [hus9]
        have pus9_kept : us9.2.2.2.1 = us2.2.2.2.1 := by rw [hus9]
        have h_thrown : (nI 3) = us9.2.2.2.2.1 := by rw [hus9]
        have pus9_whole : us9.2.2.2.2.2.1 = us2.2.2.2.2.2.1 := by rw [hus9]
        have pus9_hash : us9.2.2.2.2.2.2 = us2.2.2.2.2.2.2 := by rw [hus9]
        have qus9_1 : us9.1 = u.1 := pus9_1.trans qus2_1
        have qus9_21 : us9.2.1 = u.2.1 := pus9_21.trans qus2_21
        have qus9_k : us9.2.2.2.1 = u.2.2.2.1 := pus9_kept.trans qus2_k
        refine lv_aload_n hx hb dX3_lacks_45 rfl (lv_at hl 0 rfl) ?_
        refine va_get (D := dd) (ci := 5) (v := .int (nI 3)) (C := RX3) (T := TX3) (N := 15) hx hb hts (fun _ h9 => List.mem_cons_of_mem _ (List.mem_append_left _ (List.mem_append_right _ h9))) hown hK hP 0 (wM_0 cy ad us9 X) rfl 5 (by decide) (hts (Cond.fieldLink RX3 45 "HeadGridModel" "thrown" "I") (List.mem_of_getElem? (i := 1) rfl)) (fun _ h9 => h9) (by rw [h_thrown]; rfl) dX3_lacks_46 ?_
        refine wn_if_eq (tgt := 56) hx hb dX3_lacks_49 (by decide) (by omega) (fun c10 => (by first | exact absurd c10 (by decide) | exact absurd (by decide) c10)) (fun _ => ?_)
        refine lv_iconst (v := nI 1) hx hb dX3_lacks_52 (by decide) ?_
        refine lv_goto (tgt := 57) hx hb dX3_lacks_53 (by decide) ?_
        exact W.zret (v := (nI 1)) hx hb hr rfl (fun t ht hW => ⟨⟨(nI 1), us9, rfl, (by rw [show lkT tb part (lsM u) = 3 from by unfold lkT; rw [cT, cI, hlo]; rfl]; exact ⟨rfl, h_thrown.symm, qus9_1, qus9_21, qus9_k, fun q9 => absurd q9 (by decide)⟩), by rw [ht]; exact hP, va_K.moved hW.alike hK, hD⟩, hS.F ht⟩) hS.2.2 dX3_lacks_57
      · obtain ⟨hr4, hfs, hth, hhs, hsv⟩ := w6.2 (hls9.trans hlo)
        subst hr4
        have hf1 : us5.1 = u.1 := hfs.1.trans qus2_1
        have hsv : svd (u.1 1) us5 := by rw [← qus2_1]; exact hsv
        have hf21 : us5.2.1 = u.2.1 := hfs.2.1.trans qus2_21
        have hfk : us5.2.2.2.1 = u.2.2.2.1 := hfs.2.2.trans qus2_k
        have h_thrown : (nI 0) = us5.2.2.2.2.1 := by rw [hth]; exact h_thrown
        refine wn_if_ne (tgt := 45) hx hb dX3_lacks_37 (by decide) (by omega) (fun _ => ?_) (fun c11 => (by first | exact absurd (by decide) c11 | exact absurd c11 (by decide)))
        refine lv_aload_n hx hb dX3_lacks_45 rfl (lv_at hl 0 rfl) ?_
        refine va_get (D := dd) (ci := 5) (v := .int (nI 0)) (C := RX3) (T := TX3) (N := 15) hx hb hts (fun _ h9 => List.mem_cons_of_mem _ (List.mem_append_left _ (List.mem_append_right _ h9))) hown hK hP 0 (wM_0 cy ad us5 X) rfl 5 (by decide) (hts (Cond.fieldLink RX3 45 "HeadGridModel" "thrown" "I") (List.mem_of_getElem? (i := 1) rfl)) (fun _ h9 => h9) (by rw [h_thrown]; rfl) dX3_lacks_46 ?_
        refine wn_if_eq (tgt := 56) hx hb dX3_lacks_49 (by decide) (by omega) (fun _ => ?_) (fun c12 => (by first | exact absurd (by decide) c12 | exact absurd c12 (by decide)))
        refine lv_iconst (v := nI 0) hx hb dX3_lacks_56 (by decide) ?_
        exact W.zret (v := (nI 0)) hx hb hr rfl (fun t ht hW => ⟨⟨(nI 0), us5, rfl, (by rw [show lkT tb part (lsM u) = 0 from by unfold lkT; rw [cT, cI, hlo]; rfl]; exact ⟨rfl, h_thrown.symm, hf1, hf21, hfk, fun _ => hsv⟩), by rw [ht]; exact hP, va_K.moved hW.alike hK, hD⟩, hS.F ht⟩) hS.2.2 dX3_lacks_57
    · refine lv_iconst (v := nI 2) hx hb dX3_lacks_18 (by decide) ?_
      refine lv_goto (tgt := 23) hx hb dX3_lacks_19 (by decide) ?_
      refine va_put (D := dd) (ci := 5) (v := .int (nI 2)) (ty := .int) (C := RX3) (T := TX3) (N := 15) hx hb hts (fun _ h9 => List.mem_cons_of_mem _ (List.mem_append_left _ (List.mem_append_right _ h9))) tyX3 tyX3_ok nmX3 hown hK hP hD hS 0 (wM_0 cy ad u X) rfl 5 (by decide) (hts (Cond.fieldLink RX3 45 "HeadGridModel" "thrown" "I") (List.mem_of_getElem? (i := 1) rfl)) (fun _ h9 => h9) rfl (tyX3_ok 5 (by decide)) rfl rfl (Nat.le_of_ble_eq_true rfl) dX3_lacks_23 (fun H locs hP hD hS => ?_)
      have hP : va_P dd vwCl (wM cy ad (u.1, u.2.1, u.2.2.1, u.2.2.2.1, (nI 2), u.2.2.2.2.2) ++ X) H := hP
      have hD : va_D A (wM cy ad (u.1, u.2.1, u.2.2.1, u.2.2.2.1, (nI 2), u.2.2.2.2.2) ++ X) := hD
      obtain ⟨us13, hus13⟩ : ∃ z9z : MS, z9z = (u.1, u.2.1, u.2.2.1, u.2.2.2.1, (nI 2), u.2.2.2.2.2) := ⟨_, rfl⟩
      rw [← hus13] at hP hD
      have pus13_1 : us13.1 = u.1 := by rw [hus13]
      have pus13_21 : us13.2.1 = u.2.1 := by rw [hus13]
      have pus13_221 : us13.2.2.1 = u.2.2.1 := by rw [hus13]
      have pus13_kept : us13.2.2.2.1 = u.2.2.2.1 := by rw [hus13]
      have h_thrown : (nI 2) = us13.2.2.2.2.1 := by rw [hus13]
      have pus13_whole : us13.2.2.2.2.2.1 = u.2.2.2.2.2.1 := by rw [hus13]
      have pus13_hash : us13.2.2.2.2.2.2 = u.2.2.2.2.2.2 := by rw [hus13]
      have qus13_1 : us13.1 = u.1 := pus13_1.trans rfl
      have qus13_21 : us13.2.1 = u.2.1 := pus13_21.trans rfl
      have qus13_k : us13.2.2.2.1 = u.2.2.2.1 := pus13_kept.trans rfl
      refine lv_aload_n hx hb dX3_lacks_26 rfl (lv_at hl 0 rfl) ?_
      refine va_get (D := dd) (ci := 5) (v := .int (nI 2)) (C := RX3) (T := TX3) (N := 15) hx hb hts (fun _ h9 => List.mem_cons_of_mem _ (List.mem_append_left _ (List.mem_append_right _ h9))) hown hK hP 0 (wM_0 cy ad us13 X) rfl 5 (by decide) (hts (Cond.fieldLink RX3 45 "HeadGridModel" "thrown" "I") (List.mem_of_getElem? (i := 1) rfl)) (fun _ h9 => h9) (by rw [h_thrown]; rfl) dX3_lacks_27 ?_
      refine wn_if_ne (tgt := 45) hx hb dX3_lacks_30 (by decide) (by omega) (fun _ => ?_) (fun c14 => (by first | exact absurd (by decide) c14 | exact absurd c14 (by decide)))
      refine lv_aload_n hx hb dX3_lacks_45 rfl (lv_at hl 0 rfl) ?_
      refine va_get (D := dd) (ci := 5) (v := .int (nI 2)) (C := RX3) (T := TX3) (N := 15) hx hb hts (fun _ h9 => List.mem_cons_of_mem _ (List.mem_append_left _ (List.mem_append_right _ h9))) hown hK hP 0 (wM_0 cy ad us13 X) rfl 5 (by decide) (hts (Cond.fieldLink RX3 45 "HeadGridModel" "thrown" "I") (List.mem_of_getElem? (i := 1) rfl)) (fun _ h9 => h9) (by rw [h_thrown]; rfl) dX3_lacks_46 ?_
      refine wn_if_eq (tgt := 56) hx hb dX3_lacks_49 (by decide) (by omega) (fun c15 => (by first | exact absurd c15 (by decide) | exact absurd (by decide) c15)) (fun _ => ?_)
      refine lv_iconst (v := nI 1) hx hb dX3_lacks_52 (by decide) ?_
      refine lv_goto (tgt := 57) hx hb dX3_lacks_53 (by decide) ?_
      exact W.zret (v := (nI 1)) hx hb hr rfl (fun t ht hW => ⟨⟨(nI 1), us13, rfl, (by rw [show lkT tb part (lsM u) = 2 from by unfold lkT; rw [cT, cI]; rfl]; exact ⟨rfl, h_thrown.symm, qus13_1, qus13_21, qus13_k, fun q9 => absurd q9 (by decide)⟩), by rw [ht]; exact hP, va_K.moved hW.alike hK, hD⟩, hS.F ht⟩) hS.2.2 dX3_lacks_57
  · refine lv_iconst (v := nI 1) hx hb dX3_lacks_5 (by decide) ?_
    refine lv_goto (tgt := 23) hx hb dX3_lacks_6 (by decide) ?_
    refine va_put (D := dd) (ci := 5) (v := .int (nI 1)) (ty := .int) (C := RX3) (T := TX3) (N := 15) hx hb hts (fun _ h9 => List.mem_cons_of_mem _ (List.mem_append_left _ (List.mem_append_right _ h9))) tyX3 tyX3_ok nmX3 hown hK hP hD hS 0 (wM_0 cy ad u X) rfl 5 (by decide) (hts (Cond.fieldLink RX3 45 "HeadGridModel" "thrown" "I") (List.mem_of_getElem? (i := 1) rfl)) (fun _ h9 => h9) rfl (tyX3_ok 5 (by decide)) rfl rfl (Nat.le_of_ble_eq_true rfl) dX3_lacks_23 (fun H locs hP hD hS => ?_)
    have hP : va_P dd vwCl (wM cy ad (u.1, u.2.1, u.2.2.1, u.2.2.2.1, (nI 1), u.2.2.2.2.2) ++ X) H := hP
    have hD : va_D A (wM cy ad (u.1, u.2.1, u.2.2.1, u.2.2.2.1, (nI 1), u.2.2.2.2.2) ++ X) := hD
    obtain ⟨us16, hus16⟩ : ∃ z9z : MS, z9z = (u.1, u.2.1, u.2.2.1, u.2.2.2.1, (nI 1), u.2.2.2.2.2) := ⟨_, rfl⟩
    rw [← hus16] at hP hD
    have pus16_1 : us16.1 = u.1 := by rw [hus16]
    have pus16_21 : us16.2.1 = u.2.1 := by rw [hus16]
    have pus16_221 : us16.2.2.1 = u.2.2.1 := by rw [hus16]
    have pus16_kept : us16.2.2.2.1 = u.2.2.2.1 := by rw [hus16]
    have h_thrown : (nI 1) = us16.2.2.2.2.1 := by rw [hus16]
    have pus16_whole : us16.2.2.2.2.2.1 = u.2.2.2.2.2.1 := by rw [hus16]
    have pus16_hash : us16.2.2.2.2.2.2 = u.2.2.2.2.2.2 := by rw [hus16]
    have qus16_1 : us16.1 = u.1 := pus16_1.trans rfl
    have qus16_21 : us16.2.1 = u.2.1 := pus16_21.trans rfl
    have qus16_k : us16.2.2.2.1 = u.2.2.2.1 := pus16_kept.trans rfl
    refine lv_aload_n hx hb dX3_lacks_26 rfl (lv_at hl 0 rfl) ?_
    refine va_get (D := dd) (ci := 5) (v := .int (nI 1)) (C := RX3) (T := TX3) (N := 15) hx hb hts (fun _ h9 => List.mem_cons_of_mem _ (List.mem_append_left _ (List.mem_append_right _ h9))) hown hK hP 0 (wM_0 cy ad us16 X) rfl 5 (by decide) (hts (Cond.fieldLink RX3 45 "HeadGridModel" "thrown" "I") (List.mem_of_getElem? (i := 1) rfl)) (fun _ h9 => h9) (by rw [h_thrown]; rfl) dX3_lacks_27 ?_
    refine wn_if_ne (tgt := 45) hx hb dX3_lacks_30 (by decide) (by omega) (fun _ => ?_) (fun c17 => (by first | exact absurd (by decide) c17 | exact absurd c17 (by decide)))
    refine lv_aload_n hx hb dX3_lacks_45 rfl (lv_at hl 0 rfl) ?_
    refine va_get (D := dd) (ci := 5) (v := .int (nI 1)) (C := RX3) (T := TX3) (N := 15) hx hb hts (fun _ h9 => List.mem_cons_of_mem _ (List.mem_append_left _ (List.mem_append_right _ h9))) hown hK hP 0 (wM_0 cy ad us16 X) rfl 5 (by decide) (hts (Cond.fieldLink RX3 45 "HeadGridModel" "thrown" "I") (List.mem_of_getElem? (i := 1) rfl)) (fun _ h9 => h9) (by rw [h_thrown]; rfl) dX3_lacks_46 ?_
    refine wn_if_eq (tgt := 56) hx hb dX3_lacks_49 (by decide) (by omega) (fun c18 => (by first | exact absurd c18 (by decide) | exact absurd (by decide) c18)) (fun _ => ?_)
    refine lv_iconst (v := nI 1) hx hb dX3_lacks_52 (by decide) ?_
    refine lv_goto (tgt := 57) hx hb dX3_lacks_53 (by decide) ?_
    exact W.zret (v := (nI 1)) hx hb hr rfl (fun t ht hW => ⟨⟨(nI 1), us16, rfl, (by rw [show lkT tb part (lsM u) = 1 from by unfold lkT; rw [cT]; rfl]; exact ⟨rfl, h_thrown.symm, qus16_1, qus16_21, qus16_k, fun q9 => absurd q9 (by decide)⟩), by rw [ht]; exact hP, va_K.moved hW.alike hK, hD⟩, hS.F ht⟩) hS.2.2 dX3_lacks_57
theorem hd_X3_head : yX3_head.cls = RX3 ∧ yX3_head.cls ≠ "java/lang/invoke/MethodHandle" ∧ yX3_head.cls ≠ "java/lang/invoke/VarHandle" ∧ (parseMethodDescriptor yX3_head.desc).map (fun d => d.parameters.length) = some 2 := by decide +kernel
set_option maxHeartbeats 4000000 in
set_option maxRecDepth 100000 in
/-- head(cell, part) -/
theorem c_X3_head (l : Launch) (dd : va_G) (cy : Nat → ClassId) (ad : Nat → Nat) (X : va_W) (u : MS) (sz : Nat) (cell : Int32) (part : Int32) (hg : GM (u.1 1)) : Met l yX3_head wsX3_head ({ frames := 5, cells := 0, slots := 0, locals := 116 }) (va_Pc [.ref (ad 0), .int cell, .int part] (wrW dd cy (wM cy ad u ++ X) sz)) (va_Ql (fun r u9 => u9.2.2.2.2.1 = nI (lkT (inR cell (nI 0) (nI 8)) part (lsM u)) ∧ u9.1 = u.1 ∧ u9.2.1 = u.2.1 ∧ u9.2.2.2.1 = u.2.2.2.1 ∧ ((lkT (inR cell (nI 0) (nI 8)) part (lsM u)) = 0 → r = ptF (u.1 1) ((cn (u.1 1)).2.2.1 9 cell.toNatClampNeg) part)) (wB dd cy (fun u9 : MS => wM cy ad u9 ++ X) (va_A (wM cy ad u ++ X) sz)) (va_A (wM cy ad u ++ X) sz)) 0 0 (va_A (wM cy ad u ++ X) sz) := by
  refine Met.ofW (cc := cX3_head) (maxL := 3) (ret := (some .long)) (by decide) rfl ?_
  intro p e s m args below meth c s₁ B hml hv
  obtain ⟨rfl, hsz, hP, hK, hD0⟩ := hv
  have hx := B.exec
  have hb := B.bytes
  have hr := B.returns
  have hts := atoms_spec (ws := wsX3_head) B.pre
  have hown : s.vm.findClass RX3 = some m.cls := findClass_of_methodNamed B.named
  have hlocks := B.notSynchronized
  subst hsz
  have hD := hD0.self (sz := s.heap.size)
  generalize hAe : va_A (wM cy ad u ++ X) s.heap.size = A at hD ⊢
  have hA : ∀ q : Nat, s.heap.size ≤ q → A q := fun q h => by rw [← hAe]; exact Or.inr h
  have hS : va_S A s.heap s.heap [] := va_S.rf
  have hl := lv_entry ([.ref (ad 0), .int cell, .int part]) (n := 3) (Nat.le_of_ble_eq_true rfl)
  rw [lg_entry_eq]
  generalize (lg_sl ([.ref (ad 0), .int cell, .int part]) ++ List.replicate (3 - (lg_sl ([.ref (ad 0), .int cell, .int part])).length) Slot.unset).toArray = ls at hl ⊢
  have hl : lv_has ls 3 [(0, .ref (ad 0)), (1, .int cell), (2, .int part)] := hl
  refine lv_aload_n hx hb dX3_head_0 rfl (lv_at hl 0 rfl) ?_
  refine lv_iload_n hx hb dX3_head_1 rfl (lv_at hl 1 rfl) ?_
  refine vp_callSi (va_runS (As := [.int cell]) (rest := [.ref (ad 0)]) ⟨hx, hb, hml, hown, hts⟩ (c_X3_isCell l cell) (va_cwS 1 hts gX3_head_X3_isCell rfl rfl rfl hd_X3_isCell ⟨Nat.le_of_ble_eq_true rfl, Nat.le_of_ble_eq_true rfl⟩) ⟨fun a U g mk q => q, fun U hU hW => ⟨rfl, trivial⟩⟩ rfl rfl hl.1 rfl (lv_room (Nat.le_of_ble_eq_true rfl)) dX3_head_2 ⟨Nat.le_of_ble_eq_true rfl, Nat.le_of_ble_eq_true rfl⟩).run (fun r1 hr1 => ?_)
  have hr1 : r1 = bI (inR cell (nI 0) (nI 8)) := hr1
  subst hr1
  refine lv_iload_n hx hb dX3_head_5 rfl (lv_at hl 2 rfl) ?_
  refine wc_calli (va_runV (As := [.int (bI (inR cell (nI 0) (nI 8))), .int part]) (rest := []) ⟨hx, hb, hml, hown, hts⟩ (c_X3_lacks l dd cy ad X u _ (inR cell (nI 0) (nI 8)) part hg) (cwV 2 hts gX3_head_X3_lacks rfl rfl rfl hd_X3_lacks ⟨Nat.le_of_ble_eq_true rfl, Nat.le_of_ble_eq_true rfl⟩) (wrW_V hP hK hD (wM_0 cy ad u X) rfl) rfl rfl hl.1 rfl (lv_room (Nat.le_of_ble_eq_true rfl)) dX3_head_6 ⟨Nat.le_of_ble_eq_true rfl, Nat.le_of_ble_eq_true rfl⟩) hD hS hA (fun r2 us3 H locs w4 hP hD hS => ?_)
  obtain ⟨hr2, hth, hf1, hf2, hf3, hsv⟩ := w4
  by_cases h0 : (lkT (inR cell (nI 0) (nI 8)) part (lsM u)) = 0
  · have hr2 : r2 = nI 0 := by rw [hr2]; simp [h0]; rfl
    subst hr2
    have hsv := hsv h0
    have hin : inR cell (nI 0) (nI 8) = true ∧ inR part (nI 0) (nI 1) = true ∧ lsM u = false := by unfold lkT at h0; revert h0; cases h1 : inR cell (nI 0) (nI 8) <;> cases h2 : inR part (nI 0) (nI 1) <;> cases h3 : lsM u <;> simp
    have hG := hg ((lsM_iff u).mp hin.2.2)
    obtain ⟨c0, hc0, ec0⟩ := inR_nat (n := 8) (by decide) hin.1
    obtain ⟨pt, hpt, ept⟩ := inR_nat (n := 1) (by decide) hin.2.1
    have hl : lv_has ls 3 [(0, .ref (ad 0)), (1, .int (nI c0)), (2, .int (nI pt))] := by rw [← ec0]; rw [← ept]; exact hl
    refine wn_if_eq (tgt := 16) hx hb dX3_head_9 (by decide) (by omega) (fun _ => ?_) (fun c5 => (by first | exact absurd (by decide) c5 | exact absurd c5 (by decide)))
    refine lv_aload_n hx hb dX3_head_16 rfl (lv_at hl 0 rfl) ?_
    refine lv_aload_n hx hb dX3_head_17 rfl (lv_at hl 0 rfl) ?_
    refine va_get (D := dd) (ci := 5) (v := .ref (ad 9)) (C := RX3) (T := TX3) (N := 15) hx hb hts (fun _ h9 => List.mem_cons_of_mem _ (List.mem_append_left _ (List.mem_append_left _ (List.mem_append_right _ h9)))) hown hK hP 0 (wM_0 cy ad us3 X) rfl 11 (by decide) (hts (Cond.fieldLink RX3 36 "HeadGridModel" "heads" "[J") (List.mem_of_getElem? (i := 1) rfl)) (fun _ h9 => h9) rfl dX3_head_18 ?_
    refine lv_iload_n hx hb dX3_head_21 rfl (lv_at hl 1 rfl) ?_
    refine wa_lald hx hb hK hP (wM_9 cy ad us3 X) (t0 := 1) rfl (i := c0) (by omega) (by decide) dX3_head_22 ?_
    refine lv_iload_n hx hb dX3_head_23 rfl (lv_at hl 2 rfl) ?_
    have hwh : lN (det 9 (AM (u.1 1))).toNat = us3.2.2.2.2.2.1 := by rw [hsv.1]; exact (ofI_nat (Int.le_of_lt hG.2.1.1)).symm
    refine vp_callSl (va_runV (As := [.long (us3.2.2.1 9 c0), .int (nI pt)]) (rest := []) ⟨hx, hb, hml, hown, hts⟩ (c_X3_partOf l dd cy ad X us3 (us3.2.2.1 9 c0) pt (det 9 (AM (u.1 1))).toNat (by rw [sv_9 hsv (by omega)]; exact hG.2.2.1 c0 (by omega)) hwh (by have := hG.2.1; omega) (by have := hG.2.1; omega) (by omega)) (cwV 2 hts gX3_head_X3_partOf rfl rfl rfl hd_X3_partOf ⟨Nat.le_of_ble_eq_true rfl, Nat.le_of_ble_eq_true rfl⟩) (rdW_V hP hK (wM_0 cy ad us3 X) rfl) rfl rfl hl.1 rfl (lv_room (Nat.le_of_ble_eq_true rfl)) dX3_head_24 ⟨Nat.le_of_ble_eq_true rfl, Nat.le_of_ble_eq_true rfl⟩).run (fun r6 hr6 => ?_)
    exact W.lret (v := r6) hx hb hr (fun t ht hW => ⟨⟨r6, us3, rfl, ⟨hth, hf1, hf2, hf3, fun _ => (by rw [show r6 = _ from hr6, sv_9 hsv (by omega), ← nI_clamp (n := c0) (by omega), ← ec0]; unfold ptF; rw [ept, pt_if (by omega)])⟩, by rw [ht]; exact hP, va_K.moved hW.alike hK, hD⟩, hS.F ht⟩) hS.2.2 dX3_head_27
  · have hr2 : r2 = nI 1 := by rw [hr2]; simp [h0]; rfl
    subst hr2
    refine wn_if_eq (tgt := 16) hx hb dX3_head_9 (by decide) (by omega) (fun c7 => (by first | exact absurd c7 (by decide) | exact absurd (by decide) c7)) (fun _ => ?_)
    refine lv_lconst (v := 0) hx hb dX3_head_12 rfl ?_
    refine lv_goto (tgt := 27) hx hb dX3_head_13 (by decide) ?_
    exact W.lret (v := 0) hx hb hr (fun t ht hW => ⟨⟨0, us3, rfl, ⟨hth, hf1, hf2, hf3, fun q9 => absurd q9 h0⟩, by rw [ht]; exact hP, va_K.moved hW.alike hK, hD⟩, hS.F ht⟩) hS.2.2 dX3_head_27
theorem hd_X3_flow : yX3_flow.cls = RX3 ∧ yX3_flow.cls ≠ "java/lang/invoke/MethodHandle" ∧ yX3_flow.cls ≠ "java/lang/invoke/VarHandle" ∧ (parseMethodDescriptor yX3_flow.desc).map (fun d => d.parameters.length) = some 2 := by decide +kernel
set_option maxHeartbeats 4000000 in
set_option maxRecDepth 100000 in
/-- flow(link, part) -/
theorem c_X3_flow (l : Launch) (dd : va_G) (cy : Nat → ClassId) (ad : Nat → Nat) (X : va_W) (u : MS) (sz : Nat) (link : Int32) (part : Int32) (hg : GM (u.1 1)) : Met l yX3_flow wsX3_flow ({ frames := 5, cells := 0, slots := 0, locals := 116 }) (va_Pc [.ref (ad 0), .int link, .int part] (wrW dd cy (wM cy ad u ++ X) sz)) (va_Ql (fun r u9 => u9.2.2.2.2.1 = nI (lkT (inR link (nI 0) (nI 23)) part (lsM u)) ∧ u9.1 = u.1 ∧ u9.2.1 = u.2.1 ∧ u9.2.2.2.1 = u.2.2.2.1 ∧ ((lkT (inR link (nI 0) (nI 23)) part (lsM u)) = 0 → r = ptF (u.1 1) (flM (cn (u.1 1)) link.toNatClampNeg) part)) (wB dd cy (fun u9 : MS => wM cy ad u9 ++ X) (va_A (wM cy ad u ++ X) sz)) (va_A (wM cy ad u ++ X) sz)) 0 0 (va_A (wM cy ad u ++ X) sz) := by
  refine Met.ofW (cc := cX3_flow) (maxL := 3) (ret := (some .long)) (by decide) rfl ?_
  intro p e s m args below meth c s₁ B hml hv
  obtain ⟨rfl, hsz, hP, hK, hD0⟩ := hv
  have hx := B.exec
  have hb := B.bytes
  have hr := B.returns
  have hts := atoms_spec (ws := wsX3_flow) B.pre
  have hown : s.vm.findClass RX3 = some m.cls := findClass_of_methodNamed B.named
  have hlocks := B.notSynchronized
  subst hsz
  have hD := hD0.self (sz := s.heap.size)
  generalize hAe : va_A (wM cy ad u ++ X) s.heap.size = A at hD ⊢
  have hA : ∀ q : Nat, s.heap.size ≤ q → A q := fun q h => by rw [← hAe]; exact Or.inr h
  have hS : va_S A s.heap s.heap [] := va_S.rf
  have hl := lv_entry ([.ref (ad 0), .int link, .int part]) (n := 3) (Nat.le_of_ble_eq_true rfl)
  rw [lg_entry_eq]
  generalize (lg_sl ([.ref (ad 0), .int link, .int part]) ++ List.replicate (3 - (lg_sl ([.ref (ad 0), .int link, .int part])).length) Slot.unset).toArray = ls at hl ⊢
  have hl : lv_has ls 3 [(0, .ref (ad 0)), (1, .int link), (2, .int part)] := hl
  refine lv_aload_n hx hb dX3_flow_0 rfl (lv_at hl 0 rfl) ?_
  refine lv_iload_n hx hb dX3_flow_1 rfl (lv_at hl 1 rfl) ?_
  refine lv_iconst (v := nI 0) hx hb dX3_flow_2 (by decide) ?_
  refine lv_bipush (v := nI 23) hx hb dX3_flow_3 (by decide) ?_
  refine vp_callSi (va_runS (As := [.int link, .int (nI 0), .int (nI 23)]) (rest := [.ref (ad 0)]) ⟨hx, hb, hml, hown, hts⟩ (c_X3_in l link (nI 0) (nI 23)) (va_cwS 3 hts gX3_flow_X3_in rfl rfl rfl hd_X3_in ⟨Nat.le_of_ble_eq_true rfl, Nat.le_of_ble_eq_true rfl⟩) ⟨fun a U g mk q => q, fun U hU hW => ⟨rfl, trivial⟩⟩ rfl rfl hl.1 rfl (lv_room (Nat.le_of_ble_eq_true rfl)) dX3_flow_5 ⟨Nat.le_of_ble_eq_true rfl, Nat.le_of_ble_eq_true rfl⟩).run (fun r1 hr1 => ?_)
  have hr1 : r1 = bI (inR link (nI 0) (nI 23)) := hr1
  subst hr1
  refine lv_iload_n hx hb dX3_flow_8 rfl (lv_at hl 2 rfl) ?_
  refine wc_calli (va_runV (As := [.int (bI (inR link (nI 0) (nI 23))), .int part]) (rest := []) ⟨hx, hb, hml, hown, hts⟩ (c_X3_lacks l dd cy ad X u _ (inR link (nI 0) (nI 23)) part hg) (cwV 2 hts gX3_flow_X3_lacks rfl rfl rfl hd_X3_lacks ⟨Nat.le_of_ble_eq_true rfl, Nat.le_of_ble_eq_true rfl⟩) (wrW_V hP hK hD (wM_0 cy ad u X) rfl) rfl rfl hl.1 rfl (lv_room (Nat.le_of_ble_eq_true rfl)) dX3_flow_9 ⟨Nat.le_of_ble_eq_true rfl, Nat.le_of_ble_eq_true rfl⟩) hD hS hA (fun r2 us3 H locs w4 hP hD hS => ?_)
  obtain ⟨hr2, hth, hf1, hf2, hf3, hsv⟩ := w4
  by_cases h0 : (lkT (inR link (nI 0) (nI 23)) part (lsM u)) = 0
  · have hr2 : r2 = nI 0 := by rw [hr2]; simp [h0]; rfl
    subst hr2
    have hsv := hsv h0
    have hin : inR link (nI 0) (nI 23) = true ∧ inR part (nI 0) (nI 1) = true ∧ lsM u = false := by unfold lkT at h0; revert h0; cases h1 : inR link (nI 0) (nI 23) <;> cases h2 : inR part (nI 0) (nI 1) <;> cases h3 : lsM u <;> simp
    have hG := hg ((lsM_iff u).mp hin.2.2)
    obtain ⟨c0, hc0, ec0⟩ := inR_nat (n := 23) (by decide) hin.1
    obtain ⟨pt, hpt, ept⟩ := inR_nat (n := 1) (by decide) hin.2.1
    have hl : lv_has ls 3 [(0, .ref (ad 0)), (1, .int (nI c0)), (2, .int (nI pt))] := by rw [← ec0]; rw [← ept]; exact hl
    refine wn_if_eq (tgt := 19) hx hb dX3_flow_12 (by decide) (by omega) (fun _ => ?_) (fun c5 => (by first | exact absurd (by decide) c5 | exact absurd c5 (by decide)))
    refine lv_aload_n hx hb dX3_flow_19 rfl (lv_at hl 0 rfl) ?_
    refine lv_aload_n hx hb dX3_flow_20 rfl (lv_at hl 0 rfl) ?_
    refine lv_iload_n hx hb dX3_flow_21 rfl (lv_at hl 1 rfl) ?_
    refine vp_callSl (va_runV (As := [.int (nI c0)]) (rest := [.ref (ad 0)]) ⟨hx, hb, hml, hown, hts⟩ (c_X3_flowOf l dd cy ad X us3 c0 (by omega)) (cwV 1 hts gX3_flow_X3_flowOf rfl rfl rfl hd_X3_flowOf ⟨Nat.le_of_ble_eq_true rfl, Nat.le_of_ble_eq_true rfl⟩) (rdW_V hP hK (wM_0 cy ad us3 X) rfl) rfl rfl hl.1 rfl (lv_room (Nat.le_of_ble_eq_true rfl)) dX3_flow_22 ⟨Nat.le_of_ble_eq_true rfl, Nat.le_of_ble_eq_true rfl⟩).run (fun r6 hr6 => ?_)
    have hr6 : r6 = (flM us3 c0) := hr6
    subst hr6
    refine lv_iload_n hx hb dX3_flow_25 rfl (lv_at hl 2 rfl) ?_
    have hwh : lN (det 9 (AM (u.1 1))).toNat = us3.2.2.2.2.2.1 := by rw [hsv.1]; exact (ofI_nat (Int.le_of_lt hG.2.1.1)).symm
    refine vp_callSl (va_runV (As := [.long (flM us3 c0), .int (nI pt)]) (rest := []) ⟨hx, hb, hml, hown, hts⟩ (c_X3_partOf l dd cy ad X us3 (flM us3 c0) pt (det 9 (AM (u.1 1))).toNat (by rw [sv_fl hsv (congrFun hf1 1)]; exact hG.2.2.2.1 c0 (by omega)) hwh (by have := hG.2.1; omega) (by have := hG.2.1; omega) (by omega)) (cwV 2 hts gX3_flow_X3_partOf rfl rfl rfl hd_X3_partOf ⟨Nat.le_of_ble_eq_true rfl, Nat.le_of_ble_eq_true rfl⟩) (rdW_V hP hK (wM_0 cy ad us3 X) rfl) rfl rfl hl.1 rfl (lv_room (Nat.le_of_ble_eq_true rfl)) dX3_flow_26 ⟨Nat.le_of_ble_eq_true rfl, Nat.le_of_ble_eq_true rfl⟩).run (fun r7 hr7 => ?_)
    exact W.lret (v := r7) hx hb hr (fun t ht hW => ⟨⟨r7, us3, rfl, ⟨hth, hf1, hf2, hf3, fun _ => (by rw [show r7 = _ from hr7, sv_fl hsv (congrFun hf1 1), ← nI_clamp (n := c0) (by omega), ← ec0]; unfold ptF; rw [ept, pt_if (by omega)])⟩, by rw [ht]; exact hP, va_K.moved hW.alike hK, hD⟩, hS.F ht⟩) hS.2.2 dX3_flow_29
  · have hr2 : r2 = nI 1 := by rw [hr2]; simp [h0]; rfl
    subst hr2
    refine wn_if_eq (tgt := 19) hx hb dX3_flow_12 (by decide) (by omega) (fun c8 => (by first | exact absurd c8 (by decide) | exact absurd (by decide) c8)) (fun _ => ?_)
    refine lv_lconst (v := 0) hx hb dX3_flow_15 rfl ?_
    refine lv_goto (tgt := 29) hx hb dX3_flow_16 (by decide) ?_
    exact W.lret (v := 0) hx hb hr (fun t ht hW => ⟨⟨0, us3, rfl, ⟨hth, hf1, hf2, hf3, fun q9 => absurd q9 h0⟩, by rw [ht]; exact hP, va_K.moved hW.alike hK, hD⟩, hS.F ht⟩) hS.2.2 dX3_flow_29
theorem hd_X3_inflow : yX3_inflow.cls = RX3 ∧ yX3_inflow.cls ≠ "java/lang/invoke/MethodHandle" ∧ yX3_inflow.cls ≠ "java/lang/invoke/VarHandle" ∧ (parseMethodDescriptor yX3_inflow.desc).map (fun d => d.parameters.length) = some 2 := by decide +kernel
set_option maxHeartbeats 4000000 in
set_option maxRecDepth 100000 in
/-- inflow(side, part) -/
theorem c_X3_inflow (l : Launch) (dd : va_G) (cy : Nat → ClassId) (ad : Nat → Nat) (X : va_W) (u : MS) (sz : Nat) (side : Int32) (part : Int32) (hg : GM (u.1 1)) : Met l yX3_inflow wsX3_inflow ({ frames := 5, cells := 0, slots := 0, locals := 116 }) (va_Pc [.ref (ad 0), .int side, .int part] (wrW dd cy (wM cy ad u ++ X) sz)) (va_Ql (fun r u9 => u9.2.2.2.2.1 = nI (lkT (inR side (nI 0) (nI 3)) part (lsM u)) ∧ u9.1 = u.1 ∧ u9.2.1 = u.2.1 ∧ u9.2.2.2.1 = u.2.2.2.1 ∧ ((lkT (inR side (nI 0) (nI 3)) part (lsM u)) = 0 → r = ptF (u.1 1) (ifM (cn (u.1 1)) side.toNatClampNeg) part)) (wB dd cy (fun u9 : MS => wM cy ad u9 ++ X) (va_A (wM cy ad u ++ X) sz)) (va_A (wM cy ad u ++ X) sz)) 0 0 (va_A (wM cy ad u ++ X) sz) := by
  refine Met.ofW (cc := cX3_inflow) (maxL := 3) (ret := (some .long)) (by decide) rfl ?_
  intro p e s m args below meth c s₁ B hml hv
  obtain ⟨rfl, hsz, hP, hK, hD0⟩ := hv
  have hx := B.exec
  have hb := B.bytes
  have hr := B.returns
  have hts := atoms_spec (ws := wsX3_inflow) B.pre
  have hown : s.vm.findClass RX3 = some m.cls := findClass_of_methodNamed B.named
  have hlocks := B.notSynchronized
  subst hsz
  have hD := hD0.self (sz := s.heap.size)
  generalize hAe : va_A (wM cy ad u ++ X) s.heap.size = A at hD ⊢
  have hA : ∀ q : Nat, s.heap.size ≤ q → A q := fun q h => by rw [← hAe]; exact Or.inr h
  have hS : va_S A s.heap s.heap [] := va_S.rf
  have hl := lv_entry ([.ref (ad 0), .int side, .int part]) (n := 3) (Nat.le_of_ble_eq_true rfl)
  rw [lg_entry_eq]
  generalize (lg_sl ([.ref (ad 0), .int side, .int part]) ++ List.replicate (3 - (lg_sl ([.ref (ad 0), .int side, .int part])).length) Slot.unset).toArray = ls at hl ⊢
  have hl : lv_has ls 3 [(0, .ref (ad 0)), (1, .int side), (2, .int part)] := hl
  refine lv_aload_n hx hb dX3_inflow_0 rfl (lv_at hl 0 rfl) ?_
  refine lv_iload_n hx hb dX3_inflow_1 rfl (lv_at hl 1 rfl) ?_
  refine lv_iconst (v := nI 0) hx hb dX3_inflow_2 (by decide) ?_
  refine lv_iconst (v := nI 3) hx hb dX3_inflow_3 (by decide) ?_
  refine vp_callSi (va_runS (As := [.int side, .int (nI 0), .int (nI 3)]) (rest := [.ref (ad 0)]) ⟨hx, hb, hml, hown, hts⟩ (c_X3_in l side (nI 0) (nI 3)) (va_cwS 3 hts gX3_inflow_X3_in rfl rfl rfl hd_X3_in ⟨Nat.le_of_ble_eq_true rfl, Nat.le_of_ble_eq_true rfl⟩) ⟨fun a U g mk q => q, fun U hU hW => ⟨rfl, trivial⟩⟩ rfl rfl hl.1 rfl (lv_room (Nat.le_of_ble_eq_true rfl)) dX3_inflow_4 ⟨Nat.le_of_ble_eq_true rfl, Nat.le_of_ble_eq_true rfl⟩).run (fun r1 hr1 => ?_)
  have hr1 : r1 = bI (inR side (nI 0) (nI 3)) := hr1
  subst hr1
  refine lv_iload_n hx hb dX3_inflow_7 rfl (lv_at hl 2 rfl) ?_
  refine wc_calli (va_runV (As := [.int (bI (inR side (nI 0) (nI 3))), .int part]) (rest := []) ⟨hx, hb, hml, hown, hts⟩ (c_X3_lacks l dd cy ad X u _ (inR side (nI 0) (nI 3)) part hg) (cwV 2 hts gX3_inflow_X3_lacks rfl rfl rfl hd_X3_lacks ⟨Nat.le_of_ble_eq_true rfl, Nat.le_of_ble_eq_true rfl⟩) (wrW_V hP hK hD (wM_0 cy ad u X) rfl) rfl rfl hl.1 rfl (lv_room (Nat.le_of_ble_eq_true rfl)) dX3_inflow_8 ⟨Nat.le_of_ble_eq_true rfl, Nat.le_of_ble_eq_true rfl⟩) hD hS hA (fun r2 us3 H locs w4 hP hD hS => ?_)
  obtain ⟨hr2, hth, hf1, hf2, hf3, hsv⟩ := w4
  by_cases h0 : (lkT (inR side (nI 0) (nI 3)) part (lsM u)) = 0
  · have hr2 : r2 = nI 0 := by rw [hr2]; simp [h0]; rfl
    subst hr2
    have hsv := hsv h0
    have hin : inR side (nI 0) (nI 3) = true ∧ inR part (nI 0) (nI 1) = true ∧ lsM u = false := by unfold lkT at h0; revert h0; cases h1 : inR side (nI 0) (nI 3) <;> cases h2 : inR part (nI 0) (nI 1) <;> cases h3 : lsM u <;> simp
    have hG := hg ((lsM_iff u).mp hin.2.2)
    obtain ⟨c0, hc0, ec0⟩ := inR_nat (n := 3) (by decide) hin.1
    obtain ⟨pt, hpt, ept⟩ := inR_nat (n := 1) (by decide) hin.2.1
    have hl : lv_has ls 3 [(0, .ref (ad 0)), (1, .int (nI c0)), (2, .int (nI pt))] := by rw [← ec0]; rw [← ept]; exact hl
    refine wn_if_eq (tgt := 18) hx hb dX3_inflow_11 (by decide) (by omega) (fun _ => ?_) (fun c5 => (by first | exact absurd (by decide) c5 | exact absurd c5 (by decide)))
    refine lv_aload_n hx hb dX3_inflow_18 rfl (lv_at hl 0 rfl) ?_
    refine lv_aload_n hx hb dX3_inflow_19 rfl (lv_at hl 0 rfl) ?_
    refine lv_iload_n hx hb dX3_inflow_20 rfl (lv_at hl 1 rfl) ?_
    refine vp_callSl (va_runV (As := [.int (nI c0)]) (rest := [.ref (ad 0)]) ⟨hx, hb, hml, hown, hts⟩ (c_X3_inflowOf l dd cy ad X us3 c0 (by omega)) (cwV 1 hts gX3_inflow_X3_inflowOf rfl rfl rfl hd_X3_inflowOf ⟨Nat.le_of_ble_eq_true rfl, Nat.le_of_ble_eq_true rfl⟩) (rdW_V hP hK (wM_0 cy ad us3 X) rfl) rfl rfl hl.1 rfl (lv_room (Nat.le_of_ble_eq_true rfl)) dX3_inflow_21 ⟨Nat.le_of_ble_eq_true rfl, Nat.le_of_ble_eq_true rfl⟩).run (fun r6 hr6 => ?_)
    have hr6 : r6 = (ifM us3 c0) := hr6
    subst hr6
    refine lv_iload_n hx hb dX3_inflow_24 rfl (lv_at hl 2 rfl) ?_
    have hwh : lN (det 9 (AM (u.1 1))).toNat = us3.2.2.2.2.2.1 := by rw [hsv.1]; exact (ofI_nat (Int.le_of_lt hG.2.1.1)).symm
    refine vp_callSl (va_runV (As := [.long (ifM us3 c0), .int (nI pt)]) (rest := []) ⟨hx, hb, hml, hown, hts⟩ (c_X3_partOf l dd cy ad X us3 (ifM us3 c0) pt (det 9 (AM (u.1 1))).toNat (by rw [sv_if hsv (congrFun hf1 1) (by omega)]; exact hG.2.2.2.2.1 c0 (by omega)) hwh (by have := hG.2.1; omega) (by have := hG.2.1; omega) (by omega)) (cwV 2 hts gX3_inflow_X3_partOf rfl rfl rfl hd_X3_partOf ⟨Nat.le_of_ble_eq_true rfl, Nat.le_of_ble_eq_true rfl⟩) (rdW_V hP hK (wM_0 cy ad us3 X) rfl) rfl rfl hl.1 rfl (lv_room (Nat.le_of_ble_eq_true rfl)) dX3_inflow_25 ⟨Nat.le_of_ble_eq_true rfl, Nat.le_of_ble_eq_true rfl⟩).run (fun r7 hr7 => ?_)
    exact W.lret (v := r7) hx hb hr (fun t ht hW => ⟨⟨r7, us3, rfl, ⟨hth, hf1, hf2, hf3, fun _ => (by rw [show r7 = _ from hr7, sv_if hsv (congrFun hf1 1) (by omega), ← nI_clamp (n := c0) (by omega), ← ec0]; unfold ptF; rw [ept, pt_if (by omega)])⟩, by rw [ht]; exact hP, va_K.moved hW.alike hK, hD⟩, hS.F ht⟩) hS.2.2 dX3_inflow_28
  · have hr2 : r2 = nI 1 := by rw [hr2]; simp [h0]; rfl
    subst hr2
    refine wn_if_eq (tgt := 18) hx hb dX3_inflow_11 (by decide) (by omega) (fun c8 => (by first | exact absurd c8 (by decide) | exact absurd (by decide) c8)) (fun _ => ?_)
    refine lv_lconst (v := 0) hx hb dX3_inflow_14 rfl ?_
    refine lv_goto (tgt := 28) hx hb dX3_inflow_15 (by decide) ?_
    exact W.lret (v := 0) hx hb hr (fun t ht hW => ⟨⟨0, us3, rfl, ⟨hth, hf1, hf2, hf3, fun q9 => absurd q9 h0⟩, by rw [ht]; exact hP, va_K.moved hW.alike hK, hD⟩, hS.F ht⟩) hS.2.2 dX3_inflow_28
theorem hd_X3_drawdown : yX3_drawdown.cls = RX3 ∧ yX3_drawdown.cls ≠ "java/lang/invoke/MethodHandle" ∧ yX3_drawdown.cls ≠ "java/lang/invoke/VarHandle" ∧ (parseMethodDescriptor yX3_drawdown.desc).map (fun d => d.parameters.length) = some 2 := by decide +kernel
set_option maxHeartbeats 4000000 in
set_option maxRecDepth 100000 in
/-- drawdown(cell, part) -/
theorem c_X3_drawdown (l : Launch) (dd : va_G) (cy : Nat → ClassId) (ad : Nat → Nat) (X : va_W) (u : MS) (sz : Nat) (cell : Int32) (part : Int32) (hg : GM (u.1 1)) : Met l yX3_drawdown wsX3_drawdown ({ frames := 5, cells := 0, slots := 0, locals := 116 }) (va_Pc [.ref (ad 0), .int cell, .int part] (wrW dd cy (wM cy ad u ++ X) sz)) (va_Ql (fun r u9 => u9.2.2.2.2.1 = nI (lkT (inR cell (nI 0) (nI 8)) part (lsM u)) ∧ u9.1 = u.1 ∧ u9.2.1 = u.2.1 ∧ u9.2.2.2.1 = u.2.2.2.1 ∧ ((lkT (inR cell (nI 0) (nI 8)) part (lsM u)) = 0 → r = ptF (u.1 1) (ddM (cn (u.1 1)) cell.toNatClampNeg) part)) (wB dd cy (fun u9 : MS => wM cy ad u9 ++ X) (va_A (wM cy ad u ++ X) sz)) (va_A (wM cy ad u ++ X) sz)) 0 0 (va_A (wM cy ad u ++ X) sz) := by
  refine Met.ofW (cc := cX3_drawdown) (maxL := 3) (ret := (some .long)) (by decide) rfl ?_
  intro p e s m args below meth c s₁ B hml hv
  obtain ⟨rfl, hsz, hP, hK, hD0⟩ := hv
  have hx := B.exec
  have hb := B.bytes
  have hr := B.returns
  have hts := atoms_spec (ws := wsX3_drawdown) B.pre
  have hown : s.vm.findClass RX3 = some m.cls := findClass_of_methodNamed B.named
  have hlocks := B.notSynchronized
  subst hsz
  have hD := hD0.self (sz := s.heap.size)
  generalize hAe : va_A (wM cy ad u ++ X) s.heap.size = A at hD ⊢
  have hA : ∀ q : Nat, s.heap.size ≤ q → A q := fun q h => by rw [← hAe]; exact Or.inr h
  have hS : va_S A s.heap s.heap [] := va_S.rf
  have hl := lv_entry ([.ref (ad 0), .int cell, .int part]) (n := 3) (Nat.le_of_ble_eq_true rfl)
  rw [lg_entry_eq]
  generalize (lg_sl ([.ref (ad 0), .int cell, .int part]) ++ List.replicate (3 - (lg_sl ([.ref (ad 0), .int cell, .int part])).length) Slot.unset).toArray = ls at hl ⊢
  have hl : lv_has ls 3 [(0, .ref (ad 0)), (1, .int cell), (2, .int part)] := hl
  refine lv_aload_n hx hb dX3_drawdown_0 rfl (lv_at hl 0 rfl) ?_
  refine lv_iload_n hx hb dX3_drawdown_1 rfl (lv_at hl 1 rfl) ?_
  refine vp_callSi (va_runS (As := [.int cell]) (rest := [.ref (ad 0)]) ⟨hx, hb, hml, hown, hts⟩ (c_X3_isCell l cell) (va_cwS 1 hts gX3_drawdown_X3_isCell rfl rfl rfl hd_X3_isCell ⟨Nat.le_of_ble_eq_true rfl, Nat.le_of_ble_eq_true rfl⟩) ⟨fun a U g mk q => q, fun U hU hW => ⟨rfl, trivial⟩⟩ rfl rfl hl.1 rfl (lv_room (Nat.le_of_ble_eq_true rfl)) dX3_drawdown_2 ⟨Nat.le_of_ble_eq_true rfl, Nat.le_of_ble_eq_true rfl⟩).run (fun r1 hr1 => ?_)
  have hr1 : r1 = bI (inR cell (nI 0) (nI 8)) := hr1
  subst hr1
  refine lv_iload_n hx hb dX3_drawdown_5 rfl (lv_at hl 2 rfl) ?_
  refine wc_calli (va_runV (As := [.int (bI (inR cell (nI 0) (nI 8))), .int part]) (rest := []) ⟨hx, hb, hml, hown, hts⟩ (c_X3_lacks l dd cy ad X u _ (inR cell (nI 0) (nI 8)) part hg) (cwV 2 hts gX3_drawdown_X3_lacks rfl rfl rfl hd_X3_lacks ⟨Nat.le_of_ble_eq_true rfl, Nat.le_of_ble_eq_true rfl⟩) (wrW_V hP hK hD (wM_0 cy ad u X) rfl) rfl rfl hl.1 rfl (lv_room (Nat.le_of_ble_eq_true rfl)) dX3_drawdown_6 ⟨Nat.le_of_ble_eq_true rfl, Nat.le_of_ble_eq_true rfl⟩) hD hS hA (fun r2 us3 H locs w4 hP hD hS => ?_)
  obtain ⟨hr2, hth, hf1, hf2, hf3, hsv⟩ := w4
  by_cases h0 : (lkT (inR cell (nI 0) (nI 8)) part (lsM u)) = 0
  · have hr2 : r2 = nI 0 := by rw [hr2]; simp [h0]; rfl
    subst hr2
    have hsv := hsv h0
    have hin : inR cell (nI 0) (nI 8) = true ∧ inR part (nI 0) (nI 1) = true ∧ lsM u = false := by unfold lkT at h0; revert h0; cases h1 : inR cell (nI 0) (nI 8) <;> cases h2 : inR part (nI 0) (nI 1) <;> cases h3 : lsM u <;> simp
    have hG := hg ((lsM_iff u).mp hin.2.2)
    obtain ⟨c0, hc0, ec0⟩ := inR_nat (n := 8) (by decide) hin.1
    obtain ⟨pt, hpt, ept⟩ := inR_nat (n := 1) (by decide) hin.2.1
    have hl : lv_has ls 3 [(0, .ref (ad 0)), (1, .int (nI c0)), (2, .int (nI pt))] := by rw [← ec0]; rw [← ept]; exact hl
    refine wn_if_eq (tgt := 16) hx hb dX3_drawdown_9 (by decide) (by omega) (fun _ => ?_) (fun c5 => (by first | exact absurd (by decide) c5 | exact absurd c5 (by decide)))
    refine lv_aload_n hx hb dX3_drawdown_16 rfl (lv_at hl 0 rfl) ?_
    refine lv_aload_n hx hb dX3_drawdown_17 rfl (lv_at hl 0 rfl) ?_
    refine lv_iload_n hx hb dX3_drawdown_18 rfl (lv_at hl 1 rfl) ?_
    refine vp_callSl (va_runV (As := [.int (nI c0)]) (rest := [.ref (ad 0)]) ⟨hx, hb, hml, hown, hts⟩ (c_X3_drawdownOf l dd cy ad X us3 c0 (by omega)) (cwV 1 hts gX3_drawdown_X3_drawdownOf rfl rfl rfl hd_X3_drawdownOf ⟨Nat.le_of_ble_eq_true rfl, Nat.le_of_ble_eq_true rfl⟩) (rdW_V hP hK (wM_0 cy ad us3 X) rfl) rfl rfl hl.1 rfl (lv_room (Nat.le_of_ble_eq_true rfl)) dX3_drawdown_19 ⟨Nat.le_of_ble_eq_true rfl, Nat.le_of_ble_eq_true rfl⟩).run (fun r6 hr6 => ?_)
    have hr6 : r6 = (ddM us3 c0) := hr6
    subst hr6
    refine lv_iload_n hx hb dX3_drawdown_22 rfl (lv_at hl 2 rfl) ?_
    have hwh : lN (det 9 (AM (u.1 1))).toNat = us3.2.2.2.2.2.1 := by rw [hsv.1]; exact (ofI_nat (Int.le_of_lt hG.2.1.1)).symm
    refine vp_callSl (va_runV (As := [.long (ddM us3 c0), .int (nI pt)]) (rest := []) ⟨hx, hb, hml, hown, hts⟩ (c_X3_partOf l dd cy ad X us3 (ddM us3 c0) pt (det 9 (AM (u.1 1))).toNat (by rw [sv_dd hsv (congrFun hf1 1) (by omega)]; exact hG.2.2.2.2.2.2 c0 (by omega)) hwh (by have := hG.2.1; omega) (by have := hG.2.1; omega) (by omega)) (cwV 2 hts gX3_drawdown_X3_partOf rfl rfl rfl hd_X3_partOf ⟨Nat.le_of_ble_eq_true rfl, Nat.le_of_ble_eq_true rfl⟩) (rdW_V hP hK (wM_0 cy ad us3 X) rfl) rfl rfl hl.1 rfl (lv_room (Nat.le_of_ble_eq_true rfl)) dX3_drawdown_23 ⟨Nat.le_of_ble_eq_true rfl, Nat.le_of_ble_eq_true rfl⟩).run (fun r7 hr7 => ?_)
    exact W.lret (v := r7) hx hb hr (fun t ht hW => ⟨⟨r7, us3, rfl, ⟨hth, hf1, hf2, hf3, fun _ => (by rw [show r7 = _ from hr7, sv_dd hsv (congrFun hf1 1) (by omega), ← nI_clamp (n := c0) (by omega), ← ec0]; unfold ptF; rw [ept, pt_if (by omega)])⟩, by rw [ht]; exact hP, va_K.moved hW.alike hK, hD⟩, hS.F ht⟩) hS.2.2 dX3_drawdown_26
  · have hr2 : r2 = nI 1 := by rw [hr2]; simp [h0]; rfl
    subst hr2
    refine wn_if_eq (tgt := 16) hx hb dX3_drawdown_9 (by decide) (by omega) (fun c8 => (by first | exact absurd c8 (by decide) | exact absurd (by decide) c8)) (fun _ => ?_)
    refine lv_lconst (v := 0) hx hb dX3_drawdown_12 rfl ?_
    refine lv_goto (tgt := 26) hx hb dX3_drawdown_13 (by decide) ?_
    exact W.lret (v := 0) hx hb hr (fun t ht hW => ⟨⟨0, us3, rfl, ⟨hth, hf1, hf2, hf3, fun q9 => absurd q9 h0⟩, by rw [ht]; exact hP, va_K.moved hW.alike hK, hD⟩, hS.F ht⟩) hS.2.2 dX3_drawdown_26

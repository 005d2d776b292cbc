/-! the reference: isAllowed, bestOf, bestPair -/
theorem hd_X3_isAllowed : yX3_isAllowed.cls = RX3 ∧ yX3_isAllowed.cls ≠ "java/lang/invoke/MethodHandle" ∧ yX3_isAllowed.cls ≠ "java/lang/invoke/VarHandle" ∧ (parseMethodDescriptor yX3_isAllowed.desc).map (fun d => d.parameters.length) = some 0 := by decide +kernel
set_option maxHeartbeats 4000000 in
set_option maxRecDepth 100000 in
/-- isAllowed() -/
theorem c_X3_isAllowed (l : Launch) (dd : va_G) (cy : Nat → ClassId) (ad : Nat → Nat) (X : va_W) (u : MS) (sz : Nat) (hg : GM (u.1 1)) : Met l yX3_isAllowed wsX3_isAllowed ({ frames := 5, cells := 0, slots := 0, locals := 114 }) (va_Pc [.ref (ad 0)] (wrW dd cy (wM cy ad u ++ X) sz)) (va_Qi (fun r u9 => u9.2.2.2.2.1 = nI (if lsM u then 1 else 0) ∧ u9.1 = u.1 ∧ u9.2.1 = u.2.1 ∧ u9.2.2.2.1 = u.2.2.2.1 ∧ (lsM u = false → r = bI (isF (abU (cn (u.1 1)) 0) 9))) (wB dd cy (fun u9 : MS => wM cy ad u9 ++ X) (va_A (wM cy ad u ++ X) sz)) (va_A (wM cy ad u ++ X) sz)) 0 0 (va_A (wM cy ad u ++ X) sz) := by
  refine Met.ofW (cc := cX3_isAllowed) (maxL := 1) (ret := (some .boolean)) (by decide) rfl ?_
  intro p e s m args below meth c s₁ B hml hv
  obtain ⟨rfl, hsz, hP, hK, hD0⟩ := hv
  have hx := B.exec
  have hb := B.bytes
  have hr := B.returns
  have hts := atoms_spec (ws := wsX3_isAllowed) B.pre
  have hown : s.vm.findClass RX3 = some m.cls := findClass_of_methodNamed B.named
  have hlocks := B.notSynchronized
  subst hsz
  have hD := hD0.self (sz := s.heap.size)
  generalize hAe : va_A (wM cy ad u ++ X) s.heap.size = A at hD ⊢
  have hA : ∀ q : Nat, s.heap.size ≤ q → A q := fun q h => by rw [← hAe]; exact Or.inr h
  have hS : va_S A s.heap s.heap [] := va_S.rf
  have hl := lv_entry ([.ref (ad 0)]) (n := 1) (Nat.le_of_ble_eq_true rfl)
  rw [lg_entry_eq]
  generalize (lg_sl ([.ref (ad 0)]) ++ List.replicate (1 - (lg_sl ([.ref (ad 0)])).length) Slot.unset).toArray = ls at hl ⊢
  have hl : lv_has ls 1 [(0, .ref (ad 0))] := hl
  refine lv_aload_n hx hb dX3_isAllowed_0 rfl (lv_at hl 0 rfl) ?_
  refine wc_calli (va_runV (As := []) (rest := []) ⟨hx, hb, hml, hown, hts⟩ (c_X3_isSolved l dd cy ad X u _ hg) (cwV 0 hts gX3_isAllowed_X3_isSolved rfl rfl rfl hd_X3_isSolved ⟨Nat.le_of_ble_eq_true rfl, Nat.le_of_ble_eq_true rfl⟩) (wrW_V hP hK hD (wM_0 cy ad u X) rfl) rfl rfl hl.1 rfl (lv_room (Nat.le_of_ble_eq_true rfl)) dX3_isAllowed_1 ⟨Nat.le_of_ble_eq_true rfl, Nat.le_of_ble_eq_true rfl⟩) hD hS hA (fun r1 us2 H locs w3 hP hD hS => ?_)
  obtain ⟨hr1, hth, hf1, hf2, hf3, hsv⟩ := w3
  rcases Bool.eq_false_or_eq_true (lsM u) with hlo | hlo
  · have hr1 : r1 = nI 0 := by rw [hr1, hlo]; rfl
    subst hr1
    rw [hlo] at hth
    refine wn_if_eq (tgt := 19) hx hb dX3_isAllowed_4 (by decide) (by omega) (fun _ => ?_) (fun c4 => (by first | exact absurd (by decide) c4 | exact absurd c4 (by decide)))
    refine lv_iconst (v := nI 0) hx hb dX3_isAllowed_19 (by decide) ?_
    exact W.zret (v := (nI 0)) hx hb hr rfl (fun t ht hW => ⟨⟨(nI 0), us2, rfl, ⟨by rw [hlo]; exact hth, hf1, hf2, hf3, fun q9 => absurd q9 (by rw [hlo]; decide)⟩, by rw [ht]; exact hP, va_K.moved hW.alike hK, hD⟩, hS.F ht⟩) hS.2.2 dX3_isAllowed_20
  · have hr1 : r1 = nI 1 := by rw [hr1, hlo]; rfl
    subst hr1
    rw [hlo] at hth
    have hsv := hsv hlo
    refine wn_if_eq (tgt := 19) hx hb dX3_isAllowed_4 (by decide) (by omega) (fun c5 => (by first | exact absurd c5 (by decide) | exact absurd (by decide) c5)) (fun _ => ?_)
    refine lv_aload_n hx hb dX3_isAllowed_7 rfl (lv_at hl 0 rfl) ?_
    refine lv_iconst (v := nI 0) hx hb dX3_isAllowed_8 (by decide) ?_
    refine wc_calli (va_runV (As := [.int (nI 0)]) (rest := []) ⟨hx, hb, hml, hown, hts⟩ (c_X3_laysAbove l dd cy ad X us2 _ 0 (by decide)) (cwV 1 hts gX3_isAllowed_X3_laysAbove rfl rfl rfl hd_X3_laysAbove ⟨Nat.le_of_ble_eq_true rfl, Nat.le_of_ble_eq_true rfl⟩) (wrW_V hP hK hD (wM_0 cy ad us2 X) rfl) rfl rfl hl.1 rfl (lv_room (Nat.le_of_ble_eq_true rfl)) dX3_isAllowed_9 ⟨Nat.le_of_ble_eq_true rfl, Nat.le_of_ble_eq_true rfl⟩) hD hS hA (fun r6 us7 H locs w8 hP hD hS => ?_)
    obtain ⟨hr6, hfA, hAB⟩ := w8
    subst hr6
    refine wb_if_eq (tgt := 19) hx hb dX3_isAllowed_12 (by decide) (fun cL => ?_) (fun cL => ?_)
    · refine lv_iconst (v := nI 0) hx hb dX3_isAllowed_19 (by decide) ?_
      exact W.zret (v := (nI 0)) hx hb hr rfl (fun t ht hW => ⟨⟨(nI 0), us7, rfl, ⟨by rw [hlo, hfA.2.2.1]; exact hth, hfA.1.trans hf1, hfA.2.1.trans hf2, (by rw [hfA.2.2.1]; exact hf3), fun _ => by rw [← isF_congr (fun k9 hk9 => sv_ab hsv (congrFun hf1 1) 0 hk9), cL]; rfl⟩, by rw [ht]; exact hP, va_K.moved hW.alike hK, hD⟩, hS.F ht⟩) hS.2.2 dX3_isAllowed_20
    · refine lv_iconst (v := nI 1) hx hb dX3_isAllowed_15 (by decide) ?_
      refine lv_goto (tgt := 20) hx hb dX3_isAllowed_16 (by decide) ?_
      exact W.zret (v := (nI 1)) hx hb hr rfl (fun t ht hW => ⟨⟨(nI 1), us7, rfl, ⟨by rw [hlo, hfA.2.2.1]; exact hth, hfA.1.trans hf1, hfA.2.1.trans hf2, (by rw [hfA.2.2.1]; exact hf3), fun _ => by rw [← isF_congr (fun k9 hk9 => sv_ab hsv (congrFun hf1 1) 0 hk9), cL]; rfl⟩, by rw [ht]; exact hP, va_K.moved hW.alike hK, hD⟩, hS.F ht⟩) hS.2.2 dX3_isAllowed_20
theorem hd_X3_bestOf : yX3_bestOf.cls = RX3 ∧ yX3_bestOf.cls ≠ "java/lang/invoke/MethodHandle" ∧ yX3_bestOf.cls ≠ "java/lang/invoke/VarHandle" ∧ (parseMethodDescriptor yX3_bestOf.desc).map (fun d => d.parameters.length) = some 2 := by decide +kernel
set_option maxHeartbeats 4000000 in
set_option maxRecDepth 100000 in
/-- bestOf(a, b) -/
theorem c_X3_bestOf (l : Launch) (dd : va_G) (cy : Nat → ClassId) (ad : Nat → Nat) (X : va_W) (u : MS) (sz : Nat) (a0 b0 : Nat) (ha0 : a0 < 9) (hb0 : b0 < 9) : Met l yX3_bestOf wsX3_bestOf ({ frames := 1, cells := 0, slots := 0, locals := 30 }) (va_Pc [.ref (ad 0), .int (nI a0), .int (nI b0)] (wrW dd cy (wM cy ad u ++ X) sz)) (va_Qi (fun r u9 => r = boU u a0 b0 ∧ frJ [10, 11] u u9) (wB dd cy (fun u9 : MS => wM cy ad u9 ++ X) (va_A (wM cy ad u ++ X) sz)) (va_A (wM cy ad u ++ X) sz)) 0 0 (va_A (wM cy ad u ++ X) sz) := by
  refine Met.ofW (cc := cX3_bestOf) (maxL := 9) (ret := (some .int)) (by decide) rfl ?_
  intro p e s m args below meth c s₁ B hml hv
  obtain ⟨rfl, hsz, hP, hK, hD0⟩ := hv
  have hx := B.exec
  have hb := B.bytes
  have hr := B.returns
  have hts := atoms_spec (ws := wsX3_bestOf) B.pre
  have hown : s.vm.findClass RX3 = some m.cls := findClass_of_methodNamed B.named
  have hlocks := B.notSynchronized
  subst hsz
  have hD := hD0.self (sz := s.heap.size)
  generalize hAe : va_A (wM cy ad u ++ X) s.heap.size = A at hD ⊢
  have hA : ∀ q : Nat, s.heap.size ≤ q → A q := fun q h => by rw [← hAe]; exact Or.inr h
  have hS : va_S A s.heap s.heap [] := va_S.rf
  have hl := lv_entry ([.ref (ad 0), .int (nI a0), .int (nI b0)]) (n := 9) (Nat.le_of_ble_eq_true rfl)
  rw [lg_entry_eq]
  generalize (lg_sl ([.ref (ad 0), .int (nI a0), .int (nI b0)]) ++ List.replicate (9 - (lg_sl ([.ref (ad 0), .int (nI a0), .int (nI b0)])).length) Slot.unset).toArray = ls at hl ⊢
  have hl : lv_has ls 9 [(0, .ref (ad 0)), (1, .int (nI a0)), (2, .int (nI b0))] := hl
  refine lv_aload_n hx hb dX3_bestOf_0 rfl (lv_at hl 0 rfl) ?_
  refine lv_iconst (v := nI 1) hx hb dX3_bestOf_1 (by decide) ?_
  refine lv_iload_n hx hb dX3_bestOf_2 rfl (lv_at hl 1 rfl) ?_
  refine lv_ishl hx hb dX3_bestOf_3 ?_
  have hp9 : 2 ^ a0 < 512 := by have := Nat.pow_le_pow_right (show 0 < 2 by decide) (show a0 ≤ 8 by omega); omega
  refine lv_topi (fun y1 ey1 => ?_)
  have ey1 : y1 = (nI (2 ^ a0)) := ey1.trans (shl9 a0 (by omega))
  subst ey1
  refine lv_iconst (v := nI 1) hx hb dX3_bestOf_4 (by decide) ?_
  refine lv_iload_n hx hb dX3_bestOf_5 rfl (lv_at hl 2 rfl) ?_
  refine lv_ishl hx hb dX3_bestOf_6 ?_
  refine lv_ior hx hb dX3_bestOf_7 ?_
  refine lv_topi (fun y2 ey2 => ?_)
  have ey2 : y2 = (nI (2 ^ a0 ||| 2 ^ b0)) := ey2.trans (or9 _ hp9 b0 (by omega)).1
  subst ey2
  refine wc_calli (va_runV (As := [.int (nI (2 ^ a0 ||| 2 ^ b0))]) (rest := []) ⟨hx, hb, hml, hown, hts⟩ (c_X3_laysAbove l dd cy ad X u _ (2 ^ a0 ||| 2 ^ b0) (or9 _ hp9 b0 (by omega)).2) (cwV 1 hts gX3_bestOf_X3_laysAbove rfl rfl rfl hd_X3_laysAbove ⟨Nat.le_of_ble_eq_true rfl, Nat.le_of_ble_eq_true rfl⟩) (wrW_V hP hK hD (wM_0 cy ad u X) rfl) rfl rfl hl.1 rfl (lv_room (Nat.le_of_ble_eq_true rfl)) dX3_bestOf_8 ⟨Nat.le_of_ble_eq_true rfl, Nat.le_of_ble_eq_true rfl⟩) hD hS hA (fun r3 us4 H locs w5 hP hD hS => ?_)
  obtain ⟨hr3, hfA, hAB⟩ := w5
  subst hr3
  refine wb_if_ne (tgt := 16) hx hb dX3_bestOf_11 (by decide) (fun cL => ?_) (fun cL => ?_)
  · refine lv_iconst (v := nI 0) hx hb dX3_bestOf_16 (by decide) ?_
    refine lv_istore_n (lv' := [(3, .int (nI 0)), (0, .ref (ad 0)), (1, .int (nI a0)), (2, .int (nI b0))]) hx hb dX3_bestOf_17 rfl hl (by decide) rfl (fun ls hl => ?_)
    refine lv_ldc2 hx hb hown (hts _ (List.mem_of_getElem? (i := 1) rfl)) dX3_bestOf_18 ?_
    refine lv_lstore (lv' := [(4, .long (-1)), (3, .int (nI 0)), (0, .ref (ad 0)), (1, .int (nI a0)), (2, .int (nI b0))]) hx hb dX3_bestOf_21 hl (by decide) rfl (fun ls hl => ?_)
    refine lv_iconst (v := nI 0) hx hb dX3_bestOf_23 (by decide) ?_
    refine lv_istore (lv' := [(6, .int (nI 0)), (4, .long (-1)), (3, .int (nI 0)), (0, .ref (ad 0)), (1, .int (nI a0)), (2, .int (nI b0))]) hx hb dX3_bestOf_24 hl (by decide) rfl (fun ls hl => ?_)
    refine wLoopR (σ := Nat × Int64 × Int32) (fun k x ls => k = 1001 - x.1 ∧ (x.1 ≤ 1001) ∧ (x.2.1 = (boF (fun t9 => rfM (abU u (2 ^ a0 ||| 2 ^ b0)) (u.2.2.1 8) a0 b0 (nI t9).toInt64 9 0 1000) x.1).1) ∧ (x.2.2 = (boF (fun t9 => rfM (abU u (2 ^ a0 ||| 2 ^ b0)) (u.2.2.1 8) a0 b0 (nI t9).toInt64 9 0 1000) x.1).2) ∧ lv_has ls 9 [(6, .int (nI x.1)), (4, .long x.2.1), (3, .int x.2.2), (2, .int (nI b0)), (1, .int (nI a0)), (0, .ref (ad 0))]) ?_ _ (0, (-1), nI 0) _ ⟨rfl, (by omega), rfl, rfl, lv_sub hl [0, 1, 2, 5, 4, 3] rfl⟩
    intro kb x ls hI ihb
    obtain ⟨t0, z, bz⟩ := x
    obtain ⟨hkb, ht0, hz, hbz, hl⟩ := hI
    have hkb : kb = 1001 - t0 := hkb
    have ht0 : t0 ≤ 1001 := ht0
    have hz : z = (boF (fun t9 => rfM (abU u (2 ^ a0 ||| 2 ^ b0)) (u.2.2.1 8) a0 b0 (nI t9).toInt64 9 0 1000) t0).1 := hz
    have hbz : bz = (boF (fun t9 => rfM (abU u (2 ^ a0 ||| 2 ^ b0)) (u.2.2.1 8) a0 b0 (nI t9).toInt64 9 0 1000) t0).2 := hbz
    have hl : lv_has ls 9 [(6, .int (nI t0)), (4, .long z), (3, .int bz), (2, .int (nI b0)), (1, .int (nI a0)), (0, .ref (ad 0))] := hl
    refine lv_iload hx hb dX3_bestOf_26 (lv_at hl 0 rfl) ?_
    refine lv_sipush (v := nI 1000) hx hb dX3_bestOf_28 (by decide) ?_
    refine wn_icmp_gt (tgt := 88) hx hb dX3_bestOf_31 (by decide) (by omega) (by omega) (fun c6 => ?_) (fun c6 => ?_)
    · refine lv_iload_n hx hb dX3_bestOf_88 rfl (lv_at hl 2 rfl) ?_
      exact W.iret (v := bz) hx hb hr (fun t ht hW => ⟨⟨bz, us4, rfl, ⟨by unfold boU; rw [cL, if_pos rfl, hbz, show t0 = 1001 by omega], hfA⟩, by rw [ht]; exact hP, va_K.moved hW.alike hK, hD⟩, hS.F ht⟩) hS.2.2 dX3_bestOf_89
    · refine lv_aload_n hx hb dX3_bestOf_34 rfl (lv_at hl 5 rfl) ?_
      refine lv_iload_n hx hb dX3_bestOf_35 rfl (lv_at hl 4 rfl) ?_
      refine lv_iload_n hx hb dX3_bestOf_36 rfl (lv_at hl 3 rfl) ?_
      refine lv_iload hx hb dX3_bestOf_37 (lv_at hl 0 rfl) ?_
      refine vp_callSl (va_runV (As := [.int (nI a0), .int (nI b0), .int (nI t0)]) (rest := []) ⟨hx, hb, hml, hown, hts⟩ (c_X3_restFor l dd cy ad X us4 a0 b0 t0 (by omega) (by omega)) (cwV 3 hts gX3_bestOf_X3_restFor rfl rfl rfl hd_X3_restFor ⟨Nat.le_of_ble_eq_true rfl, Nat.le_of_ble_eq_true rfl⟩) (rdW_V hP hK (wM_0 cy ad us4 X) rfl) rfl rfl hl.1 rfl (lv_room (Nat.le_of_ble_eq_true rfl)) dX3_bestOf_39 ⟨Nat.le_of_ble_eq_true rfl, Nat.le_of_ble_eq_true rfl⟩).run (fun r7 hr7 => ?_)
      have hr7 : r7 = rfM (abU u (2 ^ a0 ||| 2 ^ b0)) (u.2.2.1 8) a0 b0 (nI t0).toInt64 9 0 1000 := by rw [show r7 = _ from hr7]; exact rfM_congr (by omega) (by omega) (fun i9 hi9 => (hAB i9 hi9).1) (fun i9 _ j9 _ => by rw [hfA.2.2.2 8 (by decide)]) 9 0 1000 (by omega)
      refine lv_lstore (lv' := [(7, .long r7), (6, .int (nI t0)), (4, .long z), (3, .int bz), (2, .int (nI b0)), (1, .int (nI a0)), (0, .ref (ad 0))]) hx hb dX3_bestOf_42 hl (by decide) rfl (fun ls hl => ?_)
      refine lv_lload hx hb dX3_bestOf_44 (lv_at hl 0 rfl) ?_
      refine lv_lconst (v := 0) hx hb dX3_bestOf_46 rfl ?_
      refine wl_lt (tgt := 82) hx hb dX3_bestOf_47 dX3_bestOf_48 (by decide) (fun cN => ?_) (fun cN => ?_)
      · refine lv_iinc (v := (nI (t0 + 1))) (lv' := [(6, .int (nI (t0 + 1))), (7, .long r7), (4, .long z), (3, .int bz), (2, .int (nI b0)), (1, .int (nI a0)), (0, .ref (ad 0))]) hx hb dX3_bestOf_82 hl (k := 1) rfl (nI_1 _) (by decide) rfl (fun ls hl => ?_)
        refine lv_goto (tgt := 26) hx hb dX3_bestOf_85 (by decide) ?_
        exact ihb (1001 - (t0 + 1)) (t0 + 1, z, bz) ls (by omega) ⟨rfl, (by omega), (by rw [boF, if_neg (fun h9 => absurd h9.1 (by rw [Int64.not_le, ← hr7]; exact cN))]; exact hz), (by rw [boF, if_neg (fun h9 => absurd h9.1 (by rw [Int64.not_le, ← hr7]; exact cN))]; exact hbz), lv_sub hl [0, 2, 3, 4, 5, 6] rfl⟩
      · refine lv_iload hx hb dX3_bestOf_51 (lv_at hl 1 rfl) ?_
        refine lv_i2l hx hb dX3_bestOf_53 rfl ?_
        refine lv_lload hx hb dX3_bestOf_54 (lv_at hl 0 rfl) ?_
        refine lv_ladd hx hb dX3_bestOf_56 ?_
        refine lv_lload hx hb dX3_bestOf_57 (lv_at hl 2 rfl) ?_
        refine wl_le (tgt := 82) hx hb dX3_bestOf_59 dX3_bestOf_60 (by decide) (fun cM => ?_) (fun cM => ?_)
        · refine lv_iinc (v := (nI (t0 + 1))) (lv' := [(6, .int (nI (t0 + 1))), (7, .long r7), (4, .long z), (3, .int bz), (2, .int (nI b0)), (1, .int (nI a0)), (0, .ref (ad 0))]) hx hb dX3_bestOf_82 hl (k := 1) rfl (nI_1 _) (by decide) rfl (fun ls hl => ?_)
          refine lv_goto (tgt := 26) hx hb dX3_bestOf_85 (by decide) ?_
          exact ihb (1001 - (t0 + 1)) (t0 + 1, z, bz) ls (by omega) ⟨rfl, (by omega), (by rw [boF, if_neg (fun h9 => absurd h9.2 (by rw [Int64.not_lt, ← hr7, ← hz]; exact cM))]; exact hz), (by rw [boF, if_neg (fun h9 => absurd h9.2 (by rw [Int64.not_lt, ← hr7, ← hz]; exact cM))]; exact hbz), lv_sub hl [0, 2, 3, 4, 5, 6] rfl⟩
        · refine lv_iload hx hb dX3_bestOf_63 (lv_at hl 1 rfl) ?_
          refine lv_i2l hx hb dX3_bestOf_65 rfl ?_
          refine lv_lload hx hb dX3_bestOf_66 (lv_at hl 0 rfl) ?_
          refine lv_ladd hx hb dX3_bestOf_68 ?_
          refine lv_topl (fun x8 ex8 => ?_)
          refine lv_lstore (lv' := [(4, .long x8), (7, .long r7), (6, .int (nI t0)), (3, .int bz), (2, .int (nI b0)), (1, .int (nI a0)), (0, .ref (ad 0))]) hx hb dX3_bestOf_69 hl (by decide) rfl (fun ls hl => ?_)
          refine lv_sipush (v := nI 10000) hx hb dX3_bestOf_71 (by decide) ?_
          refine lv_iload hx hb dX3_bestOf_74 (lv_at hl 2 rfl) ?_
          refine wn_imul hx hb dX3_bestOf_76 ?_
          refine lv_lload hx hb dX3_bestOf_77 (lv_at hl 1 rfl) ?_
          refine lv_l2i hx hb dX3_bestOf_79 rfl ?_
          refine lv_iadd hx hb dX3_bestOf_80 ?_
          refine lv_topi (fun x9 ex9 => ?_)
          refine lv_istore_n (lv' := [(3, .int x9), (4, .long x8), (7, .long r7), (6, .int (nI t0)), (2, .int (nI b0)), (1, .int (nI a0)), (0, .ref (ad 0))]) hx hb dX3_bestOf_81 rfl hl (by decide) rfl (fun ls hl => ?_)
          refine lv_iinc (v := (nI (t0 + 1))) (lv' := [(6, .int (nI (t0 + 1))), (3, .int x9), (4, .long x8), (7, .long r7), (2, .int (nI b0)), (1, .int (nI a0)), (0, .ref (ad 0))]) hx hb dX3_bestOf_82 hl (k := 3) rfl (nI_1 _) (by decide) rfl (fun ls hl => ?_)
          refine lv_goto (tgt := 26) hx hb dX3_bestOf_85 (by decide) ?_
          exact ihb (1001 - (t0 + 1)) (t0 + 1, x8, x9) ls (by omega) ⟨rfl, (by omega), (by rw [boF, if_pos ⟨by rw [← Int64.not_lt, ← hr7]; exact cN, by rw [← Int64.not_le, ← hr7, ← hz]; exact cM⟩, ex8, hr7]), (by rw [boF, if_pos ⟨by rw [← Int64.not_lt, ← hr7]; exact cN, by rw [← Int64.not_le, ← hr7, ← hz]; exact cM⟩, ex9, hr7]), lv_sub hl [0, 2, 1, 4, 5, 6] rfl⟩
  · refine lv_iconst (v := -1) hx hb dX3_bestOf_14 i32_m1 ?_
    exact W.iret (v := (-1)) hx hb hr (fun t ht hW => ⟨⟨(-1), us4, rfl, ⟨by unfold boU; rw [cL, if_neg (by decide)], hfA⟩, by rw [ht]; exact hP, va_K.moved hW.alike hK, hD⟩, hS.F ht⟩) hS.2.2 dX3_bestOf_15
theorem hd_X3_bestPair : yX3_bestPair.cls = RX3 ∧ yX3_bestPair.cls ≠ "java/lang/invoke/MethodHandle" ∧ yX3_bestPair.cls ≠ "java/lang/invoke/VarHandle" ∧ (parseMethodDescriptor yX3_bestPair.desc).map (fun d => d.parameters.length) = some 2 := by decide +kernel
set_option maxHeartbeats 4000000 in
set_option maxRecDepth 100000 in
/-- bestPair(a, b) -/
theorem c_X3_bestPair (l : Launch) (dd : va_G) (cy : Nat → ClassId) (ad : Nat → Nat) (X : va_W) (u : MS) (sz : Nat) (a b : Int32) (hg : GM (u.1 1)) : Met l yX3_bestPair wsX3_bestPair ({ frames := 4, cells := 0, slots := 0, locals := 94 }) (va_Pc [.ref (ad 0), .int a, .int b] (wrW dd cy (wM cy ad u ++ X) sz)) (va_Qi (fun r u9 => u9.2.2.2.2.1 = nI (if inR a (nI 0) (nI 8) && inR b (nI 0) (nI 8) then (if a = b then 2 else if lsM u then 3 else 0) else 1) ∧ u9.1 = u.1 ∧ u9.2.1 = u.2.1 ∧ u9.2.2.2.1 = u.2.2.2.1 ∧ ((if inR a (nI 0) (nI 8) && inR b (nI 0) (nI 8) then (if a = b then 2 else if lsM u then 3 else 0) else 1) = 0 → r = boU (cn (u.1 1)) a.toNatClampNeg b.toNatClampNeg)) (wB dd cy (fun u9 : MS => wM cy ad u9 ++ X) (va_A (wM cy ad u ++ X) sz)) (va_A (wM cy ad u ++ X) sz)) 0 0 (va_A (wM cy ad u ++ X) sz) := by
  refine Met.ofW (cc := cX3_bestPair) (maxL := 3) (ret := (some .int)) (by decide) rfl ?_
  intro p e s m args below meth c s₁ B hml hv
  obtain ⟨rfl, hsz, hP, hK, hD0⟩ := hv
  have hx := B.exec
  have hb := B.bytes
  have hr := B.returns
  have hts := atoms_spec (ws := wsX3_bestPair) B.pre
  have hown : s.vm.findClass RX3 = some m.cls := findClass_of_methodNamed B.named
  have hlocks := B.notSynchronized
  subst hsz
  have hD := hD0.self (sz := s.heap.size)
  generalize hAe : va_A (wM cy ad u ++ X) s.heap.size = A at hD ⊢
  have hA : ∀ q : Nat, s.heap.size ≤ q → A q := fun q h => by rw [← hAe]; exact Or.inr h
  have hS : va_S A s.heap s.heap [] := va_S.rf
  have hl := lv_entry ([.ref (ad 0), .int a, .int b]) (n := 3) (Nat.le_of_ble_eq_true rfl)
  rw [lg_entry_eq]
  generalize (lg_sl ([.ref (ad 0), .int a, .int b]) ++ List.replicate (3 - (lg_sl ([.ref (ad 0), .int a, .int b])).length) Slot.unset).toArray = ls at hl ⊢
  have hl : lv_has ls 3 [(0, .ref (ad 0)), (1, .int a), (2, .int b)] := hl
  refine lv_aload_n hx hb dX3_bestPair_0 rfl (lv_at hl 0 rfl) ?_
  refine lv_iload_n hx hb dX3_bestPair_1 rfl (lv_at hl 1 rfl) ?_
  refine vp_callSi (va_runS (As := [.int a]) (rest := [.ref (ad 0)]) ⟨hx, hb, hml, hown, hts⟩ (c_X3_isCell l a) (va_cwS 1 hts gX3_bestPair_X3_isCell rfl rfl rfl hd_X3_isCell ⟨Nat.le_of_ble_eq_true rfl, Nat.le_of_ble_eq_true rfl⟩) ⟨fun a U g mk q => q, fun U hU hW => ⟨rfl, trivial⟩⟩ rfl rfl hl.1 rfl (lv_room (Nat.le_of_ble_eq_true rfl)) dX3_bestPair_2 ⟨Nat.le_of_ble_eq_true rfl, Nat.le_of_ble_eq_true rfl⟩).run (fun r1 hr1 => ?_)
  have hr1 : r1 = bI (inR a (nI 0) (nI 8)) := hr1
  subst hr1
  refine wb_if_eq (tgt := 15) hx hb dX3_bestPair_5 (by decide) (fun cI => ?_) (fun cI => ?_)
  · refine lv_iconst (v := nI 1) hx hb dX3_bestPair_15 (by decide) ?_
    refine lv_goto (tgt := 40) hx hb dX3_bestPair_16 (by decide) ?_
    refine va_put (D := dd) (ci := 5) (v := .int (nI 1)) (ty := .int) (C := RX3) (T := TX3) (N := 15) hx hb hts (fun _ h9 => List.mem_cons_of_mem _ (List.mem_append_left _ (List.mem_append_left _ (List.mem_append_right _ h9)))) tyX3 tyX3_ok nmX3 hown hK hP hD hS 0 (wM_0 cy ad u X) rfl 5 (by decide) (hts (Cond.fieldLink RX3 45 "HeadGridModel" "thrown" "I") (List.mem_of_getElem? (i := 1) rfl)) (fun _ h9 => h9) rfl (tyX3_ok 5 (by decide)) rfl rfl (Nat.le_of_ble_eq_true rfl) dX3_bestPair_40 (fun H locs hP hD hS => ?_)
    have hP : va_P dd vwCl (wM cy ad (u.1, u.2.1, u.2.2.1, u.2.2.2.1, (nI 1), u.2.2.2.2.2) ++ X) H := hP
    have hD : va_D A (wM cy ad (u.1, u.2.1, u.2.2.1, u.2.2.2.1, (nI 1), u.2.2.2.2.2) ++ X) := hD
    obtain ⟨us2, hus2⟩ : ∃ z9z : MS, z9z = (u.1, u.2.1, u.2.2.1, u.2.2.2.1, (nI 1), u.2.2.2.2.2) := ⟨_, rfl⟩
    rw [← hus2] at hP hD
    have pus2_1 : us2.1 = u.1 := by rw [hus2]
    have pus2_21 : us2.2.1 = u.2.1 := by rw [hus2]
    have pus2_221 : us2.2.2.1 = u.2.2.1 := by rw [hus2]
    have pus2_kept : us2.2.2.2.1 = u.2.2.2.1 := by rw [hus2]
    have h_thrown : (nI 1) = us2.2.2.2.2.1 := by rw [hus2]
    have pus2_whole : us2.2.2.2.2.2.1 = u.2.2.2.2.2.1 := by rw [hus2]
    have pus2_hash : us2.2.2.2.2.2.2 = u.2.2.2.2.2.2 := by rw [hus2]
    have qus2_1 : us2.1 = u.1 := pus2_1.trans rfl
    have qus2_21 : us2.2.1 = u.2.1 := pus2_21.trans rfl
    have qus2_k : us2.2.2.2.1 = u.2.2.2.1 := pus2_kept.trans rfl
    refine lv_aload_n hx hb dX3_bestPair_43 rfl (lv_at hl 0 rfl) ?_
    refine va_get (D := dd) (ci := 5) (v := .int (nI 1)) (C := RX3) (T := TX3) (N := 15) hx hb hts (fun _ h9 => List.mem_cons_of_mem _ (List.mem_append_left _ (List.mem_append_left _ (List.mem_append_right _ h9)))) hown hK hP 0 (wM_0 cy ad us2 X) rfl 5 (by decide) (hts (Cond.fieldLink RX3 45 "HeadGridModel" "thrown" "I") (List.mem_of_getElem? (i := 1) rfl)) (fun _ h9 => h9) (by rw [h_thrown]; rfl) dX3_bestPair_44 ?_
    refine wn_if_eq (tgt := 54) hx hb dX3_bestPair_47 (by decide) (by omega) (fun c3 => (by first | exact absurd c3 (by decide) | exact absurd (by decide) c3)) (fun _ => ?_)
    refine lv_iconst (v := nI 0) hx hb dX3_bestPair_50 (by decide) ?_
    refine lv_goto (tgt := 60) hx hb dX3_bestPair_51 (by decide) ?_
    exact W.iret (v := (nI 0)) hx hb hr (fun t ht hW => ⟨⟨(nI 0), us2, rfl, (by rw [cI]; exact ⟨h_thrown.symm, qus2_1, qus2_21, qus2_k, fun q9 => absurd q9 (by simp)⟩), by rw [ht]; exact hP, va_K.moved hW.alike hK, hD⟩, hS.F ht⟩) hS.2.2 dX3_bestPair_60
  · refine lv_iload_n hx hb dX3_bestPair_8 rfl (lv_at hl 2 rfl) ?_
    refine vp_callSi (va_runS (As := [.int b]) (rest := [.ref (ad 0)]) ⟨hx, hb, hml, hown, hts⟩ (c_X3_isCell l b) (va_cwS 1 hts gX3_bestPair_X3_isCell rfl rfl rfl hd_X3_isCell ⟨Nat.le_of_ble_eq_true rfl, Nat.le_of_ble_eq_true rfl⟩) ⟨fun a U g mk q => q, fun U hU hW => ⟨rfl, trivial⟩⟩ rfl rfl hl.1 rfl (lv_room (Nat.le_of_ble_eq_true rfl)) dX3_bestPair_9 ⟨Nat.le_of_ble_eq_true rfl, Nat.le_of_ble_eq_true rfl⟩).run (fun r4 hr4 => ?_)
    have hr4 : r4 = bI (inR b (nI 0) (nI 8)) := hr4
    subst hr4
    refine wb_if_ne (tgt := 19) hx hb dX3_bestPair_12 (by decide) (fun cJ => ?_) (fun cJ => ?_)
    · obtain ⟨a0, ha0, ea0⟩ := inR_nat (n := 8) (by decide) cI
      obtain ⟨b0, hb0, eb0⟩ := inR_nat (n := 8) (by decide) cJ
      have hl : lv_has ls 3 [(0, .ref (ad 0)), (1, .int (nI a0)), (2, .int (nI b0))] := by rw [← ea0, ← eb0]; exact hl
      refine lv_iload_n hx hb dX3_bestPair_19 rfl (lv_at hl 1 rfl) ?_
      refine lv_iload_n hx hb dX3_bestPair_20 rfl (lv_at hl 2 rfl) ?_
      refine wn_icmp_ne (tgt := 28) hx hb dX3_bestPair_21 (by decide) (by omega) (by omega) (fun cE => ?_) (fun cE => ?_)
      · refine lv_aload_n hx hb dX3_bestPair_28 rfl (lv_at hl 0 rfl) ?_
        have g8 : GM (u.1 1) := by rw [show u.1 = u.1 from rfl]; exact hg
        refine wc_calli (va_runV (As := []) (rest := [.ref (ad 0)]) ⟨hx, hb, hml, hown, hts⟩ (c_X3_solves l dd cy ad X u _ (fun q9 => (g8 ((lsM_iff u).mp q9)).1)) (cwV 0 hts gX3_bestPair_X3_solves rfl rfl rfl hd_X3_solves ⟨Nat.le_of_ble_eq_true rfl, Nat.le_of_ble_eq_true rfl⟩) (wrW_V hP hK hD (wM_0 cy ad u X) rfl) rfl rfl hl.1 rfl (lv_room (Nat.le_of_ble_eq_true rfl)) dX3_bestPair_29 ⟨Nat.le_of_ble_eq_true rfl, Nat.le_of_ble_eq_true rfl⟩) hD hS hA (fun r5 us6 H locs w7 hP hD hS => ?_)
        have hls9 : lsM u = lsM u := lsM_congr rfl
        rcases Bool.eq_false_or_eq_true (lsM u) with hlo | hlo
        · obtain ⟨hr5, e9⟩ := w7.1 (hls9.trans hlo)
          subst hr5
          rw [e9] at hP hD
          refine wn_if_ne (tgt := 39) hx hb dX3_bestPair_32 (by decide) (by omega) (fun c9 => (by first | exact absurd c9 (by decide) | exact absurd (by decide) c9)) (fun _ => ?_)
          refine lv_iconst (v := nI 3) hx hb dX3_bestPair_35 (by decide) ?_
          refine lv_goto (tgt := 40) hx hb dX3_bestPair_36 (by decide) ?_
          refine va_put (D := dd) (ci := 5) (v := .int (nI 3)) (ty := .int) (C := RX3) (T := TX3) (N := 15) hx hb hts (fun _ h9 => List.mem_cons_of_mem _ (List.mem_append_left _ (List.mem_append_left _ (List.mem_append_right _ h9)))) tyX3 tyX3_ok nmX3 hown hK hP hD hS 0 (wM_0 cy ad u X) rfl 5 (by decide) (hts (Cond.fieldLink RX3 45 "HeadGridModel" "thrown" "I") (List.mem_of_getElem? (i := 1) rfl)) (fun _ h9 => h9) rfl (tyX3_ok 5 (by decide)) rfl rfl (Nat.le_of_ble_eq_true rfl) dX3_bestPair_40 (fun H locs hP hD hS => ?_)
          have hP : va_P dd vwCl (wM cy ad (u.1, u.2.1, u.2.2.1, u.2.2.2.1, (nI 3), u.2.2.2.2.2) ++ X) H := hP
          have hD : va_D A (wM cy ad (u.1, u.2.1, u.2.2.1, u.2.2.2.1, (nI 3), u.2.2.2.2.2) ++ X) := hD
          obtain ⟨us10, hus10⟩ : ∃ z9z : MS, z9z = (u.1, u.2.1, u.2.2.1, u.2.2.2.1, (nI 3), u.2.2.2.2.2) := ⟨_, rfl⟩
          rw [← hus10] at hP hD
          have pus10_1 : us10.1 = u.1 := by rw [hus10]
          have pus10_21 : us10.2.1 = u.2.1 := by rw [hus10]
          have pus10_221 : us10.2.2.1 = u.2.2.1 := by rw [hus10]
          have pus10_kept : us10.2.2.2.1 = u.2.2.2.1 := by rw [hus10]
          have h_thrown : (nI 3) = us10.2.2.2.2.1 := by rw [hus10]
          have pus10_whole : us10.2.2.2.2.2.1 = u.2.2.2.2.2.1 := by rw [hus10]
          have pus10_hash : us10.2.2.2.2.2.2 = u.2.2.2.2.2.2 := by rw [hus10]
          have qus10_1 : us10.1 = u.1 := pus10_1.trans rfl
          have qus10_21 : us10.2.1 = u.2.1 := pus10_21.trans rfl
          have qus10_k : us10.2.2.2.1 = u.2.2.2.1 := pus10_kept.trans rfl
          refine lv_aload_n hx hb dX3_bestPair_43 rfl (lv_at hl 0 rfl) ?_
          refine va_get (D := dd) (ci := 5) (v := .int (nI 3)) (C := RX3) (T := TX3) (N := 15) hx hb hts (fun _ h9 => List.mem_cons_of_mem _ (List.mem_append_left _ (List.mem_append_left _ (List.mem_append_right _ h9)))) hown hK hP 0 (wM_0 cy ad us10 X) rfl 5 (by decide) (hts (Cond.fieldLink RX3 45 "HeadGridModel" "thrown" "I") (List.mem_of_getElem? (i := 1) rfl)) (fun _ h9 => h9) (by rw [h_thrown]; rfl) dX3_bestPair_44 ?_
          refine wn_if_eq (tgt := 54) hx hb dX3_bestPair_47 (by decide) (by omega) (fun c11 => (by first | exact absurd c11 (by decide) | exact absurd (by decide) c11)) (fun _ => ?_)
          refine lv_iconst (v := nI 0) hx hb dX3_bestPair_50 (by decide) ?_
          refine lv_goto (tgt := 60) hx hb dX3_bestPair_51 (by decide) ?_
          exact W.iret (v := (nI 0)) hx hb hr (fun t ht hW => ⟨⟨(nI 0), us10, rfl, (by rw [cI, cJ, if_neg (show ¬ a = b from fun z9 => cE ((nI_eq (by omega) (by omega)).mp (by rw [← ea0, ← eb0]; exact z9))), hlo]; exact ⟨h_thrown.symm, qus10_1, qus10_21, qus10_k, fun q9 => absurd q9 (by simp)⟩), by rw [ht]; exact hP, va_K.moved hW.alike hK, hD⟩, hS.F ht⟩) hS.2.2 dX3_bestPair_60
        · obtain ⟨hr5, hfs, hth, hhs, hsv⟩ := w7.2 (hls9.trans hlo)
          subst hr5
          have hf1 : us6.1 = u.1 := hfs.1.trans rfl
          have hsv : svd (u.1 1) us6 := hsv
          have hf21 : us6.2.1 = u.2.1 := hfs.2.1.trans rfl
          have hfk : us6.2.2.2.1 = u.2.2.2.1 := hfs.2.2.trans rfl
          refine wn_if_ne (tgt := 39) hx hb dX3_bestPair_32 (by decide) (by omega) (fun _ => ?_) (fun c12 => (by first | exact absurd (by decide) c12 | exact absurd c12 (by decide)))
          refine lv_iconst (v := nI 0) hx hb dX3_bestPair_39 (by decide) ?_
          refine va_put (D := dd) (ci := 5) (v := .int (nI 0)) (ty := .int) (C := RX3) (T := TX3) (N := 15) hx hb hts (fun _ h9 => List.mem_cons_of_mem _ (List.mem_append_left _ (List.mem_append_left _ (List.mem_append_right _ h9)))) tyX3 tyX3_ok nmX3 hown hK hP hD hS 0 (wM_0 cy ad us6 X) rfl 5 (by decide) (hts (Cond.fieldLink RX3 45 "HeadGridModel" "thrown" "I") (List.mem_of_getElem? (i := 1) rfl)) (fun _ h9 => h9) rfl (tyX3_ok 5 (by decide)) rfl rfl (Nat.le_of_ble_eq_true rfl) dX3_bestPair_40 (fun H locs hP hD hS => ?_)
          have hP : va_P dd vwCl (wM cy ad (us6.1, us6.2.1, us6.2.2.1, us6.2.2.2.1, (nI 0), us6.2.2.2.2.2) ++ X) H := hP
          have hD : va_D A (wM cy ad (us6.1, us6.2.1, us6.2.2.1, us6.2.2.2.1, (nI 0), us6.2.2.2.2.2) ++ X) := hD
          obtain ⟨us13, hus13⟩ : ∃ z9z : MS, z9z = (us6.1, us6.2.1, us6.2.2.1, us6.2.2.2.1, (nI 0), us6.2.2.2.2.2) := ⟨_, rfl⟩
          rw [← hus13] at hP hD
          have pus13_1 : us13.1 = us6.1 := by rw [hus13]
          have pus13_21 : us13.2.1 = us6.2.1 := by rw [hus13]
          have pus13_221 : us13.2.2.1 = us6.2.2.1 := by rw [hus13]
          have pus13_kept : us13.2.2.2.1 = us6.2.2.2.1 := by rw [hus13]
          have h_thrown : (nI 0) = us13.2.2.2.2.1 := by rw [hus13]
          have pus13_whole : us13.2.2.2.2.2.1 = us6.2.2.2.2.2.1 := by rw [hus13]
          have pus13_hash : us13.2.2.2.2.2.2 = us6.2.2.2.2.2.2 := by rw [hus13]
          have qus13_1 : us13.1 = u.1 := pus13_1.trans hf1
          have qus13_21 : us13.2.1 = u.2.1 := pus13_21.trans hf21
          have qus13_k : us13.2.2.2.1 = u.2.2.2.1 := pus13_kept.trans hfk
          refine lv_aload_n hx hb dX3_bestPair_43 rfl (lv_at hl 0 rfl) ?_
          refine va_get (D := dd) (ci := 5) (v := .int (nI 0)) (C := RX3) (T := TX3) (N := 15) hx hb hts (fun _ h9 => List.mem_cons_of_mem _ (List.mem_append_left _ (List.mem_append_left _ (List.mem_append_right _ h9)))) hown hK hP 0 (wM_0 cy ad us13 X) rfl 5 (by decide) (hts (Cond.fieldLink RX3 45 "HeadGridModel" "thrown" "I") (List.mem_of_getElem? (i := 1) rfl)) (fun _ h9 => h9) (by rw [h_thrown]; rfl) dX3_bestPair_44 ?_
          refine wn_if_eq (tgt := 54) hx hb dX3_bestPair_47 (by decide) (by omega) (fun _ => ?_) (fun c14 => (by first | exact absurd (by decide) c14 | exact absurd c14 (by decide)))
          refine lv_aload_n hx hb dX3_bestPair_54 rfl (lv_at hl 0 rfl) ?_
          refine lv_iload_n hx hb dX3_bestPair_55 rfl (lv_at hl 1 rfl) ?_
          refine lv_iload_n hx hb dX3_bestPair_56 rfl (lv_at hl 2 rfl) ?_
          refine wc_calli (va_runV (As := [.int (nI a0), .int (nI b0)]) (rest := []) ⟨hx, hb, hml, hown, hts⟩ (c_X3_bestOf l dd cy ad X us13 _ a0 b0 (by omega) (by omega)) (cwV 2 hts gX3_bestPair_X3_bestOf rfl rfl rfl hd_X3_bestOf ⟨Nat.le_of_ble_eq_true rfl, Nat.le_of_ble_eq_true rfl⟩) (wrW_V hP hK hD (wM_0 cy ad us13 X) rfl) rfl rfl hl.1 rfl (lv_room (Nat.le_of_ble_eq_true rfl)) dX3_bestPair_57 ⟨Nat.le_of_ble_eq_true rfl, Nat.le_of_ble_eq_true rfl⟩) hD hS hA (fun r15 us16 H locs w17 hP hD hS => ?_)
          obtain ⟨hr15, hfA⟩ := w17
          subst hr15
          have h_thrown : nI 0 = us16.2.2.2.2.1 := by rw [hfA.2.2.1]; exact h_thrown
          have zus16_1 : us16.1 = u.1 := (show us16.1 = us13.1 from hfA.1).trans qus13_1
          have zus16_21 : us16.2.1 = u.2.1 := (show us16.2.1 = us13.2.1 from hfA.2.1).trans qus13_21
          have zus16_k : us16.2.2.2.1 = u.2.2.2.1 := (show us16.2.2.2.1 = us13.2.2.2.1 from (by rw [hfA.2.2.1])).trans qus13_k
          exact W.iret (v := boU us13 a0 b0) hx hb hr (fun t ht hW => ⟨⟨boU us13 a0 b0, us16, rfl, (by rw [cI, cJ, if_neg (show ¬ a = b from fun z9 => cE ((nI_eq (by omega) (by omega)).mp (by rw [← ea0, ← eb0]; exact z9))), hlo]; exact ⟨h_thrown.symm, zus16_1, zus16_21, zus16_k, fun _ => by rw [sv_bo (now := u.1 1) ⟨by rw [pus13_whole]; exact hsv.1, fun a9 ha9 b9 hb9 => by rw [pus13_221]; exact hsv.2.1 a9 ha9 b9 hb9, fun a9 ha9 => by rw [pus13_221]; exact hsv.2.2 a9 ha9⟩ (congrFun qus13_1 1) (by omega) (by omega), ea0, eb0, nI_clamp (by omega), nI_clamp (by omega)]⟩), by rw [ht]; exact hP, va_K.moved hW.alike hK, hD⟩, hS.F ht⟩) hS.2.2 dX3_bestPair_60
      · refine lv_iconst (v := nI 2) hx hb dX3_bestPair_24 (by decide) ?_
        refine lv_goto (tgt := 40) hx hb dX3_bestPair_25 (by decide) ?_
        refine va_put (D := dd) (ci := 5) (v := .int (nI 2)) (ty := .int) (C := RX3) (T := TX3) (N := 15) hx hb hts (fun _ h9 => List.mem_cons_of_mem _ (List.mem_append_left _ (List.mem_append_left _ (List.mem_append_right _ h9)))) tyX3 tyX3_ok nmX3 hown hK hP hD hS 0 (wM_0 cy ad u X) rfl 5 (by decide) (hts (Cond.fieldLink RX3 45 "HeadGridModel" "thrown" "I") (List.mem_of_getElem? (i := 1) rfl)) (fun _ h9 => h9) rfl (tyX3_ok 5 (by decide)) rfl rfl (Nat.le_of_ble_eq_true rfl) dX3_bestPair_40 (fun H locs hP hD hS => ?_)
        have hP : va_P dd vwCl (wM cy ad (u.1, u.2.1, u.2.2.1, u.2.2.2.1, (nI 2), u.2.2.2.2.2) ++ X) H := hP
        have hD : va_D A (wM cy ad (u.1, u.2.1, u.2.2.1, u.2.2.2.1, (nI 2), u.2.2.2.2.2) ++ X) := hD
        obtain ⟨us18, hus18⟩ : ∃ z9z : MS, z9z = (u.1, u.2.1, u.2.2.1, u.2.2.2.1, (nI 2), u.2.2.2.2.2) := ⟨_, rfl⟩
        rw [← hus18] at hP hD
        have pus18_1 : us18.1 = u.1 := by rw [hus18]
        have pus18_21 : us18.2.1 = u.2.1 := by rw [hus18]
        have pus18_221 : us18.2.2.1 = u.2.2.1 := by rw [hus18]
        have pus18_kept : us18.2.2.2.1 = u.2.2.2.1 := by rw [hus18]
        have h_thrown : (nI 2) = us18.2.2.2.2.1 := by rw [hus18]
        have pus18_whole : us18.2.2.2.2.2.1 = u.2.2.2.2.2.1 := by rw [hus18]
        have pus18_hash : us18.2.2.2.2.2.2 = u.2.2.2.2.2.2 := by rw [hus18]
        have qus18_1 : us18.1 = u.1 := pus18_1.trans rfl
        have qus18_21 : us18.2.1 = u.2.1 := pus18_21.trans rfl
        have qus18_k : us18.2.2.2.1 = u.2.2.2.1 := pus18_kept.trans rfl
        refine lv_aload_n hx hb dX3_bestPair_43 rfl (lv_at hl 0 rfl) ?_
        refine va_get (D := dd) (ci := 5) (v := .int (nI 2)) (C := RX3) (T := TX3) (N := 15) hx hb hts (fun _ h9 => List.mem_cons_of_mem _ (List.mem_append_left _ (List.mem_append_left _ (List.mem_append_right _ h9)))) hown hK hP 0 (wM_0 cy ad us18 X) rfl 5 (by decide) (hts (Cond.fieldLink RX3 45 "HeadGridModel" "thrown" "I") (List.mem_of_getElem? (i := 1) rfl)) (fun _ h9 => h9) (by rw [h_thrown]; rfl) dX3_bestPair_44 ?_
        refine wn_if_eq (tgt := 54) hx hb dX3_bestPair_47 (by decide) (by omega) (fun c19 => (by first | exact absurd c19 (by decide) | exact absurd (by decide) c19)) (fun _ => ?_)
        refine lv_iconst (v := nI 0) hx hb dX3_bestPair_50 (by decide) ?_
        refine lv_goto (tgt := 60) hx hb dX3_bestPair_51 (by decide) ?_
        exact W.iret (v := (nI 0)) hx hb hr (fun t ht hW => ⟨⟨(nI 0), us18, rfl, (by rw [cI, cJ, if_pos (show a = b by rw [ea0, eb0, cE])]; exact ⟨h_thrown.symm, qus18_1, qus18_21, qus18_k, fun q9 => absurd q9 (by simp)⟩), by rw [ht]; exact hP, va_K.moved hW.alike hK, hD⟩, hS.F ht⟩) hS.2.2 dX3_bestPair_60
    · refine lv_iconst (v := nI 1) hx hb dX3_bestPair_15 (by decide) ?_
      refine lv_goto (tgt := 40) hx hb dX3_bestPair_16 (by decide) ?_
      refine va_put (D := dd) (ci := 5) (v := .int (nI 1)) (ty := .int) (C := RX3) (T := TX3) (N := 15) hx hb hts (fun _ h9 => List.mem_cons_of_mem _ (List.mem_append_left _ (List.mem_append_left _ (List.mem_append_right _ h9)))) tyX3 tyX3_ok nmX3 hown hK hP hD hS 0 (wM_0 cy ad u X) rfl 5 (by decide) (hts (Cond.fieldLink RX3 45 "HeadGridModel" "thrown" "I") (List.mem_of_getElem? (i := 1) rfl)) (fun _ h9 => h9) rfl (tyX3_ok 5 (by decide)) rfl rfl (Nat.le_of_ble_eq_true rfl) dX3_bestPair_40 (fun H locs hP hD hS => ?_)
      have hP : va_P dd vwCl (wM cy ad (u.1, u.2.1, u.2.2.1, u.2.2.2.1, (nI 1), u.2.2.2.2.2) ++ X) H := hP
      have hD : va_D A (wM cy ad (u.1, u.2.1, u.2.2.1, u.2.2.2.1, (nI 1), u.2.2.2.2.2) ++ X) := hD
      obtain ⟨us20, hus20⟩ : ∃ z9z : MS, z9z = (u.1, u.2.1, u.2.2.1, u.2.2.2.1, (nI 1), u.2.2.2.2.2) := ⟨_, rfl⟩
      rw [← hus20] at hP hD
      have pus20_1 : us20.1 = u.1 := by rw [hus20]
      have pus20_21 : us20.2.1 = u.2.1 := by rw [hus20]
      have pus20_221 : us20.2.2.1 = u.2.2.1 := by rw [hus20]
      have pus20_kept : us20.2.2.2.1 = u.2.2.2.1 := by rw [hus20]
      have h_thrown : (nI 1) = us20.2.2.2.2.1 := by rw [hus20]
      have pus20_whole : us20.2.2.2.2.2.1 = u.2.2.2.2.2.1 := by rw [hus20]
      have pus20_hash : us20.2.2.2.2.2.2 = u.2.2.2.2.2.2 := by rw [hus20]
      have qus20_1 : us20.1 = u.1 := pus20_1.trans rfl
      have qus20_21 : us20.2.1 = u.2.1 := pus20_21.trans rfl
      have qus20_k : us20.2.2.2.1 = u.2.2.2.1 := pus20_kept.trans rfl
      refine lv_aload_n hx hb dX3_bestPair_43 rfl (lv_at hl 0 rfl) ?_
      refine va_get (D := dd) (ci := 5) (v := .int (nI 1)) (C := RX3) (T := TX3) (N := 15) hx hb hts (fun _ h9 => List.mem_cons_of_mem _ (List.mem_append_left _ (List.mem_append_left _ (List.mem_append_right _ h9)))) hown hK hP 0 (wM_0 cy ad us20 X) rfl 5 (by decide) (hts (Cond.fieldLink RX3 45 "HeadGridModel" "thrown" "I") (List.mem_of_getElem? (i := 1) rfl)) (fun _ h9 => h9) (by rw [h_thrown]; rfl) dX3_bestPair_44 ?_
      refine wn_if_eq (tgt := 54) hx hb dX3_bestPair_47 (by decide) (by omega) (fun c21 => (by first | exact absurd c21 (by decide) | exact absurd (by decide) c21)) (fun _ => ?_)
      refine lv_iconst (v := nI 0) hx hb dX3_bestPair_50 (by decide) ?_
      refine lv_goto (tgt := 60) hx hb dX3_bestPair_51 (by decide) ?_
      exact W.iret (v := (nI 0)) hx hb hr (fun t ht hW => ⟨⟨(nI 0), us20, rfl, (by rw [cI, cJ]; exact ⟨h_thrown.symm, qus20_1, qus20_21, qus20_k, fun q9 => absurd q9 (by simp)⟩), by rw [ht]; exact hP, va_K.moved hW.alike hK, hD⟩, hS.F ht⟩) hS.2.2 dX3_bestPair_60

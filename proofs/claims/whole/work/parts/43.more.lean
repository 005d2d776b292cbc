/-! the class: extremes, rates, relaxation, undo -/
theorem hd_X2_extreme : yX2_extreme.cls = RX2 ∧ yX2_extreme.cls ≠ "java/lang/invoke/MethodHandle" ∧ yX2_extreme.cls ≠ "java/lang/invoke/VarHandle" ∧ (parseMethodDescriptor yX2_extreme.desc).map (fun d => d.parameters.length) = some 1 := by decide +kernel
set_option maxHeartbeats 4000000 in
set_option maxRecDepth 100000 in
/-- extreme(highest) -/
theorem c_X2_extreme (l : Launch) (hlt : l.stackTraces = false) (dd : va_G) (cy : Nat → ClassId) (ad : Nat → Nat) (X : va_W) (tt : Nat × Nat) (N : Nat → Nat) (u : CS) (sz : Nat) (hi : Bool) (hrg : rgM (nw u)) (hsI : slI u) : vx_Met l yX2_extreme wsX2_extreme ({ frames := 7, cells := 1, slots := 6, locals := 117 }) (va_Pc [.ref (ad 0), .int (bI hi)] (wrX dd cy tt N (wC cy ad u ++ X) sz)) (va_Qi (fun r u9 => (if lsN (nw u) then 1 else 0) = 0 ∧ frP u u9 ∧ r = nI (exF ((cn (nw u)).2.2.1 9) hi 8)) (wB dd cy (fun u9 : CS => wC cy ad u9 ++ X) (va_A (wC cy ad u ++ X) sz)) (va_A (wC cy ad u ++ X) sz)) (vx_X (fun u9 => frP u u9) (fun E u9 t => xsE E (if lsN (nw u) then 1 else 0) [xAE] ∧ wB dd cy (fun u9 : CS => wC cy ad u9 ++ X) (va_A (wC cy ad u ++ X) sz) u9 t) (va_A (wC cy ad u ++ X) sz)) 1 6 (va_A (wC cy ad u ++ X) sz) := by
  refine vx_ofW (cc := cX2_extreme) (maxL := 6) (ret := (some .int)) (by decide) rfl ?_
  intro p e s m args below meth c s₁ B hml hnt hv
  obtain ⟨rfl, ⟨hsz, hP, hK, hD0, hSt⟩, hE⟩ := hv
  have hx := B.exec
  have hb := B.bytes
  have hr := B.returns
  have hts := atoms_spec (ws := wsX2_extreme) B.pre
  have hown : s.vm.findClass RX2 = some m.cls := findClass_of_methodNamed B.named
  have hlocks := B.notSynchronized
  subst hsz
  have hD := hD0.self (sz := s.heap.size)
  generalize hAe : va_A (wC cy ad u ++ X) s.heap.size = A at hD hSt hE ⊢
  have hA : ∀ q : Nat, s.heap.size ≤ q → A q := fun q h => by rw [← hAe]; exact Or.inr h
  have hS : va_S A s.heap s.heap [] := va_S.rf
  have hl := lv_entry ([.ref (ad 0), .int (bI hi)]) (n := 6) (Nat.le_of_ble_eq_true rfl)
  rw [lg_entry_eq]
  generalize (lg_sl ([.ref (ad 0), .int (bI hi)]) ++ List.replicate (6 - (lg_sl ([.ref (ad 0), .int (bI hi)])).length) Slot.unset).toArray = ls at hl ⊢
  have hl : lv_has ls 6 [(0, .ref (ad 0)), (1, .int (bI hi))] := hl
  refine lv_aload_n hx hb dX2_extreme_0 rfl (lv_at hl 0 rfl) ?_
  refine wx_callv (vx_runV (As := []) (rest := []) ⟨hx, hb, hml, hown, hts⟩ (c_X2_requireExactHeads l hlt dd cy ad X tt N u _ hrg hsI) (cwV 0 hts gX2_extreme_X2_requireExactHeads rfl rfl rfl hd_X2_requireExactHeads ⟨Nat.le_of_ble_eq_true rfl, Nat.le_of_ble_eq_true rfl⟩) (wrX_V hP hK hD hSt hE hS hA (wC_0 cy ad u X) rfl) rfl rfl hl.1 rfl (lv_room (Nat.le_of_ble_eq_true rfl)) dX2_extreme_1 ⟨Nat.le_of_ble_eq_true rfl, Nat.le_of_ble_eq_true rfl⟩) hD hS hA (fun E9 ce q9 us1 H locs hE9 hpx hP hD hS hce hcv hcl => ?_) (fun us1 H locs hw9 hP hD hS => ?_)
  · have hE9 : E9 = xAE := hE9
    subst hE9
    have hlo := lsN_f hpx.1
    exact vx_out (fun x9 h9 => (hnt x9 h9).elim) hlocks hce hcv hcl (fun t ht hvm => ⟨us1, hpx.2, ⟨⟨0, by rw [hlo]; rfl, rfl⟩, by rw [ht]; exact hP, va_K.moved hvm hK, hD⟩, hS.F ht⟩) hS.2.2 (Nat.le_of_ble_eq_true rfl) (Nat.le_of_ble_eq_true rfl)
  obtain ⟨htt, cP, cS9, c19⟩ := hw9
  have hlo := lsN_t htt
  have hnw : nw us1 = nw u := frP_nw cP
  have hrg9 : rgM (nw us1) := by rw [hnw]; exact hrg
  have ht9 : nR (gNow (nw us1)) 9 = 511 := by rw [hnw]; exact htt
  have hsl9 : slv (nw us1) us1 := by rw [hnw]; exact cS9
  refine lv_aload_n hx hb dX2_extreme_4 rfl (lv_at hl 0 rfl) ?_
  refine va_get (D := dd) (ci := 4) (v := .ref (ad 2)) (C := RX2) (T := TX2) (N := 7) hx hb hts (fun _ h9 => List.mem_cons_of_mem _ (List.mem_append_left _ (List.mem_append_left _ (List.mem_append_left _ (List.mem_append_left _ (List.mem_append_left _ (List.mem_append_right _ h9))))))) hown hK hP (0) (wC_0 cy ad us1 X) rfl 3 (by decide) (hts (Cond.fieldLink RX2 27 "HeadGrid" "solution" "LHeadGrid$Solution;") (List.mem_of_getElem? (i := 1) rfl)) (fun _ h9 => h9) rfl dX2_extreme_5 ?_
  refine va_get (D := dd) (ci := 2) (v := .ref (ad 5)) (C := RX0) (T := TX0) (N := 4) hx hb hts (fun _ h9 => List.mem_cons_of_mem _ (List.mem_append_left _ (List.mem_append_left _ (List.mem_append_left _ (List.mem_append_left _ (List.mem_append_right _ h9)))))) hown hK hP (2) (wC_2 cy ad us1 X) rfl 2 (by decide) (hts (Cond.fieldLink RX2 92 "HeadGrid$Solution" "scaledHeads" "[J") (List.mem_of_getElem? (i := 2) rfl)) (fun _ h9 => h9) rfl dX2_extreme_8 ?_
  refine lv_astore_n (lv' := [(2, .ref (ad 5)), (0, .ref (ad 0)), (1, .int (bI hi))]) hx hb dX2_extreme_11 rfl hl (by decide) rfl (fun ls hl => ?_)
  refine lv_iconst (v := nI 0) hx hb dX2_extreme_12 (by decide) ?_
  refine lv_istore_n (lv' := [(3, .int (nI 0)), (2, .ref (ad 5)), (0, .ref (ad 0)), (1, .int (bI hi))]) hx hb dX2_extreme_13 rfl hl (by decide) rfl (fun ls hl => ?_)
  refine lv_iconst (v := nI 1) hx hb dX2_extreme_14 (by decide) ?_
  refine lv_istore (lv' := [(4, .int (nI 1)), (3, .int (nI 0)), (2, .ref (ad 5)), (0, .ref (ad 0)), (1, .int (bI hi))]) hx hb dX2_extreme_15 hl (by decide) rfl (fun ls hl => ?_)
  have hh9 : ∀ k9, k9 < 9 → us1.2.2.1 5 k9 = (cn (nw u)).2.2.1 9 k9 := fun k9 h9 => by rw [(hsl9.2 ht9).2 k9 h9, hnw]
  refine wLoopR (σ := Nat × Nat) (fun k x ls => k = 8 - x.1 ∧ (x.1 ≤ 8) ∧ (x.2 = exF ((cn (nw u)).2.2.1 9) hi x.1) ∧ (x.2 ≤ x.1) ∧ lv_has ls 6 [(4, .int (nI (x.1 + 1))), (3, .int (nI x.2)), (2, .ref (ad 5)), (1, .int (bI hi)), (0, .ref (ad 0))]) ?_ _ (0, 0) _ ⟨rfl, (Nat.zero_le _), rfl, (Nat.le_refl 0), lv_sub hl [0, 1, 2, 4, 3] rfl⟩
  intro ke x ls hI ihe
  obtain ⟨q0, b0⟩ := x
  obtain ⟨hke, hq0, hb0, hb1, hl⟩ := hI
  have hke : ke = 8 - q0 := hke
  have hq0 : q0 ≤ 8 := hq0
  have hb0 : b0 = exF ((cn (nw u)).2.2.1 9) hi q0 := hb0
  have hb1 : b0 ≤ q0 := hb1
  have hl : lv_has ls 6 [(4, .int (nI (q0 + 1))), (3, .int (nI b0)), (2, .ref (ad 5)), (1, .int (bI hi)), (0, .ref (ad 0))] := hl
  refine lv_iload hx hb dX2_extreme_17 (lv_at hl 0 rfl) ?_
  refine lv_bipush (v := nI 9) hx hb dX2_extreme_19 (by decide) ?_
  refine wn_icmp_ge (tgt := 79) hx hb dX2_extreme_21 (by decide) (by omega) (by omega) (fun c2 => ?_) (fun c2 => ?_)
  · refine lv_iload_n hx hb dX2_extreme_79 rfl (lv_at hl 1 rfl) ?_
    exact vx_ret (W.widen (k := 1) (n := 6) (Nat.le_of_ble_eq_true rfl) (Nat.le_of_ble_eq_true rfl) (W.iret (v := (nI b0)) hx hb hr (fun t ht hW => ⟨⟨(nI b0), us1, rfl, ⟨by rw [hlo]; rfl, cP, by rw [hb0, show q0 = 8 by omega]⟩, by rw [ht]; exact hP, va_K.moved hW.alike hK, hD⟩, hS.F ht⟩) hS.2.2 dX2_extreme_80))
  · refine lv_iload_n hx hb dX2_extreme_24 rfl (lv_at hl 3 rfl) ?_
    refine wb_if_eq (tgt := 47) hx hb dX2_extreme_25 (by decide) (fun cH => ?_) (fun cH => ?_)
    · refine lv_aload_n hx hb dX2_extreme_47 rfl (lv_at hl 2 rfl) ?_
      refine lv_iload hx hb dX2_extreme_48 (lv_at hl 0 rfl) ?_
      refine wa_lald hx hb hK hP (wC_5 cy ad us1 X) (t0 := 1) rfl (i := q0 + 1) (by omega) (by decide) dX2_extreme_50 ?_
      refine lv_aload_n hx hb dX2_extreme_51 rfl (lv_at hl 2 rfl) ?_
      refine lv_iload_n hx hb dX2_extreme_52 rfl (lv_at hl 1 rfl) ?_
      refine wa_lald hx hb hK hP (wC_5 cy ad us1 X) (t0 := 1) rfl (i := b0) (by omega) (by decide) dX2_extreme_53 ?_
      refine wl_ge (tgt := 62) hx hb dX2_extreme_54 dX2_extreme_55 (by decide) (fun cB => ?_) (fun cB => ?_)
      · refine lv_iconst (v := nI 0) hx hb dX2_extreme_62 (by decide) ?_
        refine lv_istore (lv' := [(5, .int (nI 0)), (4, .int (nI (q0 + 1))), (3, .int (nI b0)), (2, .ref (ad 5)), (1, .int (bI hi)), (0, .ref (ad 0))]) hx hb dX2_extreme_63 hl (by decide) rfl (fun ls hl => ?_)
        refine lv_iload hx hb dX2_extreme_65 (lv_at hl 0 rfl) ?_
        refine wn_if_eq (tgt := 73) hx hb dX2_extreme_67 (by decide) (by omega) (fun _ => ?_) (fun c3 => (by first | exact absurd (by decide) c3 | exact absurd c3 (by decide)))
        refine lv_iinc (v := (nI (q0 + 1 + 1))) (lv' := [(4, .int (nI (q0 + 1 + 1))), (5, .int (nI 0)), (3, .int (nI b0)), (2, .ref (ad 5)), (1, .int (bI hi)), (0, .ref (ad 0))]) hx hb dX2_extreme_73 hl (k := 1) rfl (nI_1 _) (by decide) rfl (fun ls hl => ?_)
        refine lv_goto (tgt := 17) hx hb dX2_extreme_76 (by decide) ?_
        exact ihe (8 - (q0 + 1)) (q0 + 1, b0) ls (by omega) ⟨rfl, (by show q0 + 1 ≤ 8; omega), (by show b0 = exF _ _ (q0 + 1); rw [exF_f cH, ← hb0, if_neg (by rw [Int64.not_lt, ← hh9 _ (by omega), ← hh9 _ (by omega)]; exact cB)]), (by show b0 ≤ q0 + 1; omega), lv_sub hl [0, 2, 3, 4, 5] rfl⟩
      · refine lv_iconst (v := nI 1) hx hb dX2_extreme_58 (by decide) ?_
        refine lv_goto (tgt := 63) hx hb dX2_extreme_59 (by decide) ?_
        refine lv_istore (lv' := [(5, .int (nI 1)), (4, .int (nI (q0 + 1))), (3, .int (nI b0)), (2, .ref (ad 5)), (1, .int (bI hi)), (0, .ref (ad 0))]) hx hb dX2_extreme_63 hl (by decide) rfl (fun ls hl => ?_)
        refine lv_iload hx hb dX2_extreme_65 (lv_at hl 0 rfl) ?_
        refine wn_if_eq (tgt := 73) hx hb dX2_extreme_67 (by decide) (by omega) (fun c4 => (by first | exact absurd c4 (by decide) | exact absurd (by decide) c4)) (fun _ => ?_)
        refine lv_iload hx hb dX2_extreme_70 (lv_at hl 1 rfl) ?_
        refine lv_istore_n (lv' := [(3, .int (nI (q0 + 1))), (5, .int (nI 1)), (4, .int (nI (q0 + 1))), (2, .ref (ad 5)), (1, .int (bI hi)), (0, .ref (ad 0))]) hx hb dX2_extreme_72 rfl hl (by decide) rfl (fun ls hl => ?_)
        refine lv_iinc (v := (nI (q0 + 1 + 1))) (lv' := [(4, .int (nI (q0 + 1 + 1))), (3, .int (nI (q0 + 1))), (5, .int (nI 1)), (2, .ref (ad 5)), (1, .int (bI hi)), (0, .ref (ad 0))]) hx hb dX2_extreme_73 hl (k := 2) rfl (nI_1 _) (by decide) rfl (fun ls hl => ?_)
        refine lv_goto (tgt := 17) hx hb dX2_extreme_76 (by decide) ?_
        exact ihe (8 - (q0 + 1)) (q0 + 1, q0 + 1) ls (by omega) ⟨rfl, (by show q0 + 1 ≤ 8; omega), (by show q0 + 1 = exF _ _ (q0 + 1); rw [exF_f cH, ← hb0, if_pos (by rw [← Int64.not_le, ← hh9 _ (by omega), ← hh9 _ (by omega)]; exact cB)]), (by show q0 + 1 ≤ q0 + 1; omega), lv_sub hl [0, 1, 3, 4, 5] rfl⟩
    · refine lv_aload_n hx hb dX2_extreme_28 rfl (lv_at hl 2 rfl) ?_
      refine lv_iload hx hb dX2_extreme_29 (lv_at hl 0 rfl) ?_
      refine wa_lald hx hb hK hP (wC_5 cy ad us1 X) (t0 := 1) rfl (i := q0 + 1) (by omega) (by decide) dX2_extreme_31 ?_
      refine lv_aload_n hx hb dX2_extreme_32 rfl (lv_at hl 2 rfl) ?_
      refine lv_iload_n hx hb dX2_extreme_33 rfl (lv_at hl 1 rfl) ?_
      refine wa_lald hx hb hK hP (wC_5 cy ad us1 X) (t0 := 1) rfl (i := b0) (by omega) (by decide) dX2_extreme_34 ?_
      refine wl_le (tgt := 43) hx hb dX2_extreme_35 dX2_extreme_36 (by decide) (fun cA => ?_) (fun cA => ?_)
      · refine lv_iconst (v := nI 0) hx hb dX2_extreme_43 (by decide) ?_
        refine lv_goto (tgt := 63) hx hb dX2_extreme_44 (by decide) ?_
        refine lv_istore (lv' := [(5, .int (nI 0)), (4, .int (nI (q0 + 1))), (3, .int (nI b0)), (2, .ref (ad 5)), (1, .int (bI hi)), (0, .ref (ad 0))]) hx hb dX2_extreme_63 hl (by decide) rfl (fun ls hl => ?_)
        refine lv_iload hx hb dX2_extreme_65 (lv_at hl 0 rfl) ?_
        refine wn_if_eq (tgt := 73) hx hb dX2_extreme_67 (by decide) (by omega) (fun _ => ?_) (fun c5 => (by first | exact absurd (by decide) c5 | exact absurd c5 (by decide)))
        refine lv_iinc (v := (nI (q0 + 1 + 1))) (lv' := [(4, .int (nI (q0 + 1 + 1))), (5, .int (nI 0)), (3, .int (nI b0)), (2, .ref (ad 5)), (1, .int (bI hi)), (0, .ref (ad 0))]) hx hb dX2_extreme_73 hl (k := 1) rfl (nI_1 _) (by decide) rfl (fun ls hl => ?_)
        refine lv_goto (tgt := 17) hx hb dX2_extreme_76 (by decide) ?_
        exact ihe (8 - (q0 + 1)) (q0 + 1, b0) ls (by omega) ⟨rfl, (by show q0 + 1 ≤ 8; omega), (by show b0 = exF _ _ (q0 + 1); rw [exF_t cH, ← hb0, if_neg (by rw [Int64.not_lt, ← hh9 _ (by omega), ← hh9 _ (by omega)]; exact cA)]), (by show b0 ≤ q0 + 1; omega), lv_sub hl [0, 2, 3, 4, 5] rfl⟩
      · refine lv_iconst (v := nI 1) hx hb dX2_extreme_39 (by decide) ?_
        refine lv_goto (tgt := 63) hx hb dX2_extreme_40 (by decide) ?_
        refine lv_istore (lv' := [(5, .int (nI 1)), (4, .int (nI (q0 + 1))), (3, .int (nI b0)), (2, .ref (ad 5)), (1, .int (bI hi)), (0, .ref (ad 0))]) hx hb dX2_extreme_63 hl (by decide) rfl (fun ls hl => ?_)
        refine lv_iload hx hb dX2_extreme_65 (lv_at hl 0 rfl) ?_
        refine wn_if_eq (tgt := 73) hx hb dX2_extreme_67 (by decide) (by omega) (fun c6 => (by first | exact absurd c6 (by decide) | exact absurd (by decide) c6)) (fun _ => ?_)
        refine lv_iload hx hb dX2_extreme_70 (lv_at hl 1 rfl) ?_
        refine lv_istore_n (lv' := [(3, .int (nI (q0 + 1))), (5, .int (nI 1)), (4, .int (nI (q0 + 1))), (2, .ref (ad 5)), (1, .int (bI hi)), (0, .ref (ad 0))]) hx hb dX2_extreme_72 rfl hl (by decide) rfl (fun ls hl => ?_)
        refine lv_iinc (v := (nI (q0 + 1 + 1))) (lv' := [(4, .int (nI (q0 + 1 + 1))), (3, .int (nI (q0 + 1))), (5, .int (nI 1)), (2, .ref (ad 5)), (1, .int (bI hi)), (0, .ref (ad 0))]) hx hb dX2_extreme_73 hl (k := 2) rfl (nI_1 _) (by decide) rfl (fun ls hl => ?_)
        refine lv_goto (tgt := 17) hx hb dX2_extreme_76 (by decide) ?_
        exact ihe (8 - (q0 + 1)) (q0 + 1, q0 + 1) ls (by omega) ⟨rfl, (by show q0 + 1 ≤ 8; omega), (by show q0 + 1 = exF _ _ (q0 + 1); rw [exF_t cH, ← hb0, if_pos (by rw [← Int64.not_le, ← hh9 _ (by omega), ← hh9 _ (by omega)]; exact cA)]), (by show q0 + 1 ≤ q0 + 1; omega), lv_sub hl [0, 1, 3, 4, 5] rfl⟩
theorem hd_X2_dry : yX2_dry.cls = RX2 ∧ yX2_dry.cls ≠ "java/lang/invoke/MethodHandle" ∧ yX2_dry.cls ≠ "java/lang/invoke/VarHandle" ∧ (parseMethodDescriptor yX2_dry.desc).map (fun d => d.parameters.length) = some 0 := by decide +kernel
set_option maxHeartbeats 4000000 in
set_option maxRecDepth 100000 in
/-- dry() -/
theorem c_X2_dry (l : Launch) (hlt : l.stackTraces = false) (dd : va_G) (cy : Nat → ClassId) (ad : Nat → Nat) (X : va_W) (tt : Nat × Nat) (N : Nat → Nat) (u : CS) (sz : Nat) (hrg : rgM (nw u)) (hsI : slI u) : vx_Met l yX2_dry wsX2_dry ({ frames := 7, cells := 1, slots := 6, locals := 117 }) (va_Pc [.ref (ad 0)] (wrX dd cy tt N (wC cy ad u ++ X) sz)) (va_Qi (fun r u9 => (if lsN (nw u) then 1 else 0) = 0 ∧ frP u u9 ∧ r = bwF ((cn (nw u)).2.2.1 9) (fun k9 => nw u (54 + k9)) (cn (nw u)).2.2.2.2.2.1 9) (wB dd cy (fun u9 : CS => wC cy ad u9 ++ X) (va_A (wC cy ad u ++ X) sz)) (va_A (wC cy ad u ++ X) sz)) (vx_X (fun u9 => frP u u9) (fun E u9 t => xsE E (if lsN (nw u) then 1 else 0) [xAE] ∧ wB dd cy (fun u9 : CS => wC cy ad u9 ++ X) (va_A (wC cy ad u ++ X) sz) u9 t) (va_A (wC cy ad u ++ X) sz)) 1 6 (va_A (wC cy ad u ++ X) sz) := by
  refine vx_ofW (cc := cX2_dry) (maxL := 1) (ret := (some .int)) (by decide) rfl ?_
  intro p e s m args below meth c s₁ B hml hnt hv
  obtain ⟨rfl, ⟨hsz, hP, hK, hD0, hSt⟩, hE⟩ := hv
  have hx := B.exec
  have hb := B.bytes
  have hr := B.returns
  have hts := atoms_spec (ws := wsX2_dry) B.pre
  have hown : s.vm.findClass RX2 = some m.cls := findClass_of_methodNamed B.named
  have hlocks := B.notSynchronized
  subst hsz
  have hD := hD0.self (sz := s.heap.size)
  generalize hAe : va_A (wC cy ad u ++ X) s.heap.size = A at hD hSt hE ⊢
  have hA : ∀ q : Nat, s.heap.size ≤ q → A q := fun q h => by rw [← hAe]; exact Or.inr h
  have hS : va_S A s.heap s.heap [] := va_S.rf
  have hl := lv_entry ([.ref (ad 0)]) (n := 1) (Nat.le_of_ble_eq_true rfl)
  rw [lg_entry_eq]
  generalize (lg_sl ([.ref (ad 0)]) ++ List.replicate (1 - (lg_sl ([.ref (ad 0)])).length) Slot.unset).toArray = ls at hl ⊢
  have hl : lv_has ls 1 [(0, .ref (ad 0))] := hl
  refine lv_aload_n hx hb dX2_dry_0 rfl (lv_at hl 0 rfl) ?_
  refine wx_callv (vx_runV (As := []) (rest := []) ⟨hx, hb, hml, hown, hts⟩ (c_X2_requireExactHeads l hlt dd cy ad X tt N u _ hrg hsI) (cwV 0 hts gX2_dry_X2_requireExactHeads rfl rfl rfl hd_X2_requireExactHeads ⟨Nat.le_of_ble_eq_true rfl, Nat.le_of_ble_eq_true rfl⟩) (wrX_V hP hK hD hSt hE hS hA (wC_0 cy ad u X) rfl) rfl rfl hl.1 rfl (lv_room (Nat.le_of_ble_eq_true rfl)) dX2_dry_1 ⟨Nat.le_of_ble_eq_true rfl, Nat.le_of_ble_eq_true rfl⟩) hD hS hA (fun E9 ce q9 us1 H locs hE9 hpx hP hD hS hce hcv hcl => ?_) (fun us1 H locs hw9 hP hD hS => ?_)
  · have hE9 : E9 = xAE := hE9
    subst hE9
    have hlo := lsN_f hpx.1
    exact vx_out (fun x9 h9 => (hnt x9 h9).elim) hlocks hce hcv hcl (fun t ht hvm => ⟨us1, hpx.2, ⟨⟨0, by rw [hlo]; rfl, rfl⟩, by rw [ht]; exact hP, va_K.moved hvm hK, hD⟩, hS.F ht⟩) hS.2.2 (Nat.le_of_ble_eq_true rfl) (Nat.le_of_ble_eq_true rfl)
  obtain ⟨htt, cP, cS9, c19⟩ := hw9
  have hlo := lsN_t htt
  have hnw : nw us1 = nw u := frP_nw cP
  have hrg9 : rgM (nw us1) := by rw [hnw]; exact hrg
  have ht9 : nR (gNow (nw us1)) 9 = 511 := by rw [hnw]; exact htt
  have hsl9 : slv (nw us1) us1 := by rw [hnw]; exact cS9
  refine lv_aload_n hx hb dX2_dry_4 rfl (lv_at hl 0 rfl) ?_
  refine lv_aload_n hx hb dX2_dry_5 rfl (lv_at hl 0 rfl) ?_
  refine va_get (D := dd) (ci := 4) (v := .ref (ad 17)) (C := RX2) (T := TX2) (N := 7) hx hb hts (fun _ h9 => List.mem_cons_of_mem _ (List.mem_append_left _ (List.mem_append_left _ (List.mem_append_left _ (List.mem_append_left _ (List.mem_append_left _ (List.mem_append_right _ h9))))))) hown hK hP (0) (wC_0 cy ad us1 X) rfl 0 (by decide) (hts (Cond.fieldLink RX2 10 "HeadGrid" "now" "LHeadGrid$State;") (List.mem_of_getElem? (i := 1) rfl)) (fun _ h9 => h9) rfl dX2_dry_6 ?_
  refine va_get (D := dd) (ci := 3) (v := .ref (ad 22)) (C := RX1) (T := TX1) (N := 7) hx hb hts (fun _ h9 => List.mem_cons_of_mem _ (List.mem_append_left _ (List.mem_append_left _ (List.mem_append_left _ (List.mem_append_left _ (List.mem_append_right _ h9)))))) hown hK hP (17) (wC_now cy ad us1 X) rfl 4 (by decide) (hts (Cond.fieldLink RX2 76 "HeadGrid$State" "floors" "[I") (List.mem_of_getElem? (i := 2) rfl)) (fun _ h9 => h9) rfl dX2_dry_9 ?_
  refine vp_callSi (va_runV (As := [.ref (ad 22)]) (rest := []) ⟨hx, hb, hml, hown, hts⟩ (c_X2_cellsBelow_22 l dd cy ad X tt us1 hrg9 ht9 hsl9) (cwV 1 hts gX2_dry_X2_cellsBelow rfl rfl rfl hd_X2_cellsBelow ⟨Nat.le_of_ble_eq_true rfl, Nat.le_of_ble_eq_true rfl⟩) (rdC_V hP hK hSt hS (wC_0 cy ad us1 X) rfl) rfl rfl hl.1 rfl (lv_room (Nat.le_of_ble_eq_true rfl)) dX2_dry_12 ⟨Nat.le_of_ble_eq_true rfl, Nat.le_of_ble_eq_true rfl⟩).run (fun r2 hr2 => ?_)
  exact vx_ret (W.widen (k := 1) (n := 6) (Nat.le_of_ble_eq_true rfl) (Nat.le_of_ble_eq_true rfl) (W.iret (v := r2) hx hb hr (fun t ht hW => ⟨⟨r2, us1, rfl, ⟨by rw [hlo]; rfl, cP, by rw [hr2, hnw]⟩, by rw [ht]; exact hP, va_K.moved hW.alike hK, hD⟩, hS.F ht⟩) hS.2.2 dX2_dry_15))
theorem hd_X2_isAllowed : yX2_isAllowed.cls = RX2 ∧ yX2_isAllowed.cls ≠ "java/lang/invoke/MethodHandle" ∧ yX2_isAllowed.cls ≠ "java/lang/invoke/VarHandle" ∧ (parseMethodDescriptor yX2_isAllowed.desc).map (fun d => d.parameters.length) = some 0 := by decide +kernel
set_option maxHeartbeats 4000000 in
set_option maxRecDepth 100000 in
/-- isAllowed() -/
theorem c_X2_isAllowed (l : Launch) (hlt : l.stackTraces = false) (dd : va_G) (cy : Nat → ClassId) (ad : Nat → Nat) (X : va_W) (tt : Nat × Nat) (N : Nat → Nat) (u : CS) (sz : Nat) (hrg : rgM (nw u)) (hsI : slI u) : vx_Met l yX2_isAllowed wsX2_isAllowed ({ frames := 7, cells := 1, slots := 6, locals := 117 }) (va_Pc [.ref (ad 0)] (wrX dd cy tt N (wC cy ad u ++ X) sz)) (va_Qi (fun r u9 => (if lsN (nw u) then 1 else 0) = 0 ∧ frP u u9 ∧ r = bI (isF (abU (cn (nw u)) 0) 9)) (wB dd cy (fun u9 : CS => wC cy ad u9 ++ X) (va_A (wC cy ad u ++ X) sz)) (va_A (wC cy ad u ++ X) sz)) (vx_X (fun u9 => frP u u9) (fun E u9 t => xsE E (if lsN (nw u) then 1 else 0) [xAE] ∧ wB dd cy (fun u9 : CS => wC cy ad u9 ++ X) (va_A (wC cy ad u ++ X) sz) u9 t) (va_A (wC cy ad u ++ X) sz)) 1 6 (va_A (wC cy ad u ++ X) sz) := by
  refine vx_ofW (cc := cX2_isAllowed) (maxL := 1) (ret := (some .boolean)) (by decide) rfl ?_
  intro p e s m args below meth c s₁ B hml hnt hv
  obtain ⟨rfl, ⟨hsz, hP, hK, hD0, hSt⟩, hE⟩ := hv
  have hx := B.exec
  have hb := B.bytes
  have hr := B.returns
  have hts := atoms_spec (ws := wsX2_isAllowed) B.pre
  have hown : s.vm.findClass RX2 = some m.cls := findClass_of_methodNamed B.named
  have hlocks := B.notSynchronized
  subst hsz
  have hD := hD0.self (sz := s.heap.size)
  generalize hAe : va_A (wC cy ad u ++ X) s.heap.size = A at hD hSt hE ⊢
  have hA : ∀ q : Nat, s.heap.size ≤ q → A q := fun q h => by rw [← hAe]; exact Or.inr h
  have hS : va_S A s.heap s.heap [] := va_S.rf
  have hl := lv_entry ([.ref (ad 0)]) (n := 1) (Nat.le_of_ble_eq_true rfl)
  rw [lg_entry_eq]
  generalize (lg_sl ([.ref (ad 0)]) ++ List.replicate (1 - (lg_sl ([.ref (ad 0)])).length) Slot.unset).toArray = ls at hl ⊢
  have hl : lv_has ls 1 [(0, .ref (ad 0))] := hl
  refine lv_aload_n hx hb dX2_isAllowed_0 rfl (lv_at hl 0 rfl) ?_
  refine wx_callv (vx_runV (As := []) (rest := []) ⟨hx, hb, hml, hown, hts⟩ (c_X2_requireExactHeads l hlt dd cy ad X tt N u _ hrg hsI) (cwV 0 hts gX2_isAllowed_X2_requireExactHeads rfl rfl rfl hd_X2_requireExactHeads ⟨Nat.le_of_ble_eq_true rfl, Nat.le_of_ble_eq_true rfl⟩) (wrX_V hP hK hD hSt hE hS hA (wC_0 cy ad u X) rfl) rfl rfl hl.1 rfl (lv_room (Nat.le_of_ble_eq_true rfl)) dX2_isAllowed_1 ⟨Nat.le_of_ble_eq_true rfl, Nat.le_of_ble_eq_true rfl⟩) hD hS hA (fun E9 ce q9 us1 H locs hE9 hpx hP hD hS hce hcv hcl => ?_) (fun us1 H locs hw9 hP hD hS => ?_)
  · have hE9 : E9 = xAE := hE9
    subst hE9
    have hlo := lsN_f hpx.1
    exact vx_out (fun x9 h9 => (hnt x9 h9).elim) hlocks hce hcv hcl (fun t ht hvm => ⟨us1, hpx.2, ⟨⟨0, by rw [hlo]; rfl, rfl⟩, by rw [ht]; exact hP, va_K.moved hvm hK, hD⟩, hS.F ht⟩) hS.2.2 (Nat.le_of_ble_eq_true rfl) (Nat.le_of_ble_eq_true rfl)
  obtain ⟨htt, cP, cS9, c19⟩ := hw9
  have hlo := lsN_t htt
  have hnw : nw us1 = nw u := frP_nw cP
  have hrg9 : rgM (nw us1) := by rw [hnw]; exact hrg
  have ht9 : nR (gNow (nw us1)) 9 = 511 := by rw [hnw]; exact htt
  have hsl9 : slv (nw us1) us1 := by rw [hnw]; exact cS9
  refine lv_aload_n hx hb dX2_isAllowed_4 rfl (lv_at hl 0 rfl) ?_
  refine lv_aload_n hx hb dX2_isAllowed_5 rfl (lv_at hl 0 rfl) ?_
  refine va_get (D := dd) (ci := 4) (v := .ref (ad 17)) (C := RX2) (T := TX2) (N := 7) hx hb hts (fun _ h9 => List.mem_cons_of_mem _ (List.mem_append_left _ (List.mem_append_left _ (List.mem_append_left _ (List.mem_append_left _ (List.mem_append_left _ (List.mem_append_right _ h9))))))) hown hK hP (0) (wC_0 cy ad us1 X) rfl 0 (by decide) (hts (Cond.fieldLink RX2 10 "HeadGrid" "now" "LHeadGrid$State;") (List.mem_of_getElem? (i := 1) rfl)) (fun _ h9 => h9) rfl dX2_isAllowed_6 ?_
  refine va_get (D := dd) (ci := 3) (v := .ref (ad 23)) (C := RX1) (T := TX1) (N := 7) hx hb hts (fun _ h9 => List.mem_cons_of_mem _ (List.mem_append_left _ (List.mem_append_left _ (List.mem_append_left _ (List.mem_append_left _ (List.mem_append_right _ h9)))))) hown hK hP (17) (wC_now cy ad us1 X) rfl 5 (by decide) (hts (Cond.fieldLink RX2 79 "HeadGrid$State" "limits" "[I") (List.mem_of_getElem? (i := 2) rfl)) (fun _ h9 => h9) rfl dX2_isAllowed_9 ?_
  refine vp_callSi (va_runV (As := [.ref (ad 23)]) (rest := []) ⟨hx, hb, hml, hown, hts⟩ (c_X2_cellsBelow_23 l dd cy ad X tt us1 hrg9 ht9 hsl9) (cwV 1 hts gX2_isAllowed_X2_cellsBelow rfl rfl rfl hd_X2_cellsBelow ⟨Nat.le_of_ble_eq_true rfl, Nat.le_of_ble_eq_true rfl⟩) (rdC_V hP hK hSt hS (wC_0 cy ad us1 X) rfl) rfl rfl hl.1 rfl (lv_room (Nat.le_of_ble_eq_true rfl)) dX2_isAllowed_12 ⟨Nat.le_of_ble_eq_true rfl, Nat.le_of_ble_eq_true rfl⟩).run (fun r2 hr2 => ?_)
  refine lv_if_ne (tgt := 22) hx hb dX2_isAllowed_15 (by decide) (fun cZ => ?_) (fun cZ => ?_)
  · refine lv_iconst (v := nI 0) hx hb dX2_isAllowed_22 (by decide) ?_
    have hz9 : r2 = 0 ↔ isF (abU (cn (nw u)) 0) 9 = true := by rw [hr2, hnw]; exact bw_is hrg htt
    exact vx_ret (W.widen (k := 1) (n := 6) (Nat.le_of_ble_eq_true rfl) (Nat.le_of_ble_eq_true rfl) (W.zret (v := (nI 0)) hx hb hr rfl (fun t ht hW => ⟨⟨(nI 0), us1, rfl, ⟨by rw [hlo]; rfl, cP, by rw [show isF (abU (cn (nw u)) 0) 9 = false by cases q9 : isF (abU (cn (nw u)) 0) 9; (rfl); (exact absurd (hz9.mpr q9) cZ)]; rfl⟩, by rw [ht]; exact hP, va_K.moved hW.alike hK, hD⟩, hS.F ht⟩) hS.2.2 dX2_isAllowed_23))
  · refine lv_iconst (v := nI 1) hx hb dX2_isAllowed_18 (by decide) ?_
    refine lv_goto (tgt := 23) hx hb dX2_isAllowed_19 (by decide) ?_
    have hz9 : r2 = 0 ↔ isF (abU (cn (nw u)) 0) 9 = true := by rw [hr2, hnw]; exact bw_is hrg htt
    exact vx_ret (W.widen (k := 1) (n := 6) (Nat.le_of_ble_eq_true rfl) (Nat.le_of_ble_eq_true rfl) (W.zret (v := (nI 1)) hx hb hr rfl (fun t ht hW => ⟨⟨(nI 1), us1, rfl, ⟨by rw [hlo]; rfl, cP, by rw [hz9.mp cZ]; rfl⟩, by rw [ht]; exact hP, va_K.moved hW.alike hK, hD⟩, hS.F ht⟩) hS.2.2 dX2_isAllowed_23))
theorem hd_X2_greatestRate : yX2_greatestRate.cls = RX2 ∧ yX2_greatestRate.cls ≠ "java/lang/invoke/MethodHandle" ∧ yX2_greatestRate.cls ≠ "java/lang/invoke/VarHandle" ∧ (parseMethodDescriptor yX2_greatestRate.desc).map (fun d => d.parameters.length) = some 1 := by decide +kernel
set_option maxHeartbeats 4000000 in
set_option maxRecDepth 100000 in
/-- greatestRate(cell) -/
theorem c_X2_greatestRate (l : Launch) (hlt : l.stackTraces = false) (dd : va_G) (cy : Nat → ClassId) (ad : Nat → Nat) (X : va_W) (tt : Nat × Nat) (N : Nat → Nat) (u : CS) (sz : Nat) (hrg : rgM (nw u)) (hsI : slI u) (cell : Int32) : vx_Met l yX2_greatestRate wsX2_greatestRate ({ frames := 7, cells := 2, slots := 12, locals := 117 }) (va_Pc [.ref (ad 0), .int cell] (wrX dd cy tt N (wC cy ad u ++ X) sz)) (va_Qi (fun r u9 => (if inR cell (nI 0) (nI 8) then (if lsN (nw u) then 2 else 0) else 1) = 0 ∧ frP u u9 ∧ r = grU (cn (nw u)) (2 ^ cell.toNatClampNeg)) (wB dd cy (fun u9 : CS => wC cy ad u9 ++ X) (va_A (wC cy ad u ++ X) sz)) (va_A (wC cy ad u ++ X) sz)) (vx_X (fun u9 => frP u u9) (fun E u9 t => xsE E (if inR cell (nI 0) (nI 8) then (if lsN (nw u) then 2 else 0) else 1) [xIO, xAE] ∧ wB dd cy (fun u9 : CS => wC cy ad u9 ++ X) (va_A (wC cy ad u ++ X) sz) u9 t) (va_A (wC cy ad u ++ X) sz)) 2 12 (va_A (wC cy ad u ++ X) sz) := by
  refine vx_ofW (cc := cX2_greatestRate) (maxL := 2) (ret := (some .int)) (by decide) rfl ?_
  intro p e s m args below meth c s₁ B hml hnt hv
  obtain ⟨rfl, ⟨hsz, hP, hK, hD0, hSt⟩, hE⟩ := hv
  have hx := B.exec
  have hb := B.bytes
  have hr := B.returns
  have hts := atoms_spec (ws := wsX2_greatestRate) B.pre
  have hown : s.vm.findClass RX2 = some m.cls := findClass_of_methodNamed B.named
  have hlocks := B.notSynchronized
  subst hsz
  have hD := hD0.self (sz := s.heap.size)
  generalize hAe : va_A (wC cy ad u ++ X) s.heap.size = A at hD hSt hE ⊢
  have hA : ∀ q : Nat, s.heap.size ≤ q → A q := fun q h => by rw [← hAe]; exact Or.inr h
  have hS : va_S A s.heap s.heap [] := va_S.rf
  have hl := lv_entry ([.ref (ad 0), .int cell]) (n := 2) (Nat.le_of_ble_eq_true rfl)
  rw [lg_entry_eq]
  generalize (lg_sl ([.ref (ad 0), .int cell]) ++ List.replicate (2 - (lg_sl ([.ref (ad 0), .int cell])).length) Slot.unset).toArray = ls at hl ⊢
  have hl : lv_has ls 2 [(0, .ref (ad 0)), (1, .int cell)] := hl
  refine lv_iload_n hx hb dX2_greatestRate_0 rfl (lv_at hl 1 rfl) ?_
  refine wx_req (vx_runS (As := [.int cell]) (rest := []) ⟨hx, hb, hml, hown, hts⟩ (c_X2_requireCell l hlt N _ cell) (va_cwS 1 hts gX2_greatestRate_X2_requireCell rfl rfl rfl hd_X2_requireCell ⟨Nat.le_of_ble_eq_true rfl, Nat.le_of_ble_eq_true rfl⟩) (exS_S hE hS hA) rfl rfl hl.1 rfl (lv_room (Nat.le_of_ble_eq_true rfl)) dX2_greatestRate_1 ⟨Nat.le_of_ble_eq_true rfl, Nat.le_of_ble_eq_true rfl⟩) hP hS hA (fun E9 ce q9 H locs hE9 o1 hP hS hce hcv hcl => ?_) (fun H locs o1 hP hS => ?_)
  · subst hE9
    exact vx_out (fun x9 h9 => (hnt x9 h9).elim) hlocks hce hcv hcl (fun t ht hvm => ⟨u, frP_rf hsI, ⟨⟨0, by rw [o1]; rfl, rfl⟩, by rw [ht]; exact hP, va_K.moved hvm hK, hD⟩, hS.F ht⟩) hS.2.2 (Nat.le_of_ble_eq_true rfl) (Nat.le_of_ble_eq_true rfl)
  refine lv_aload_n hx hb dX2_greatestRate_4 rfl (lv_at hl 0 rfl) ?_
  refine wx_callv (vx_runV (As := []) (rest := []) ⟨hx, hb, hml, hown, hts⟩ (c_X2_requireExactHeads l hlt dd cy ad X tt N u _ hrg hsI) (cwV 0 hts gX2_greatestRate_X2_requireExactHeads rfl rfl rfl hd_X2_requireExactHeads ⟨Nat.le_of_ble_eq_true rfl, Nat.le_of_ble_eq_true rfl⟩) (wrX_V hP hK hD hSt hE hS hA (wC_0 cy ad u X) rfl) rfl rfl hl.1 rfl (lv_room (Nat.le_of_ble_eq_true rfl)) dX2_greatestRate_5 ⟨Nat.le_of_ble_eq_true rfl, Nat.le_of_ble_eq_true rfl⟩) hD hS hA (fun E9 ce q9 us2 H locs hE9 hpx hP hD hS hce hcv hcl => ?_) (fun us2 H locs hw9 hP hD hS => ?_)
  · have hE9 : E9 = xAE := hE9
    subst hE9
    have hlo := lsN_f hpx.1
    exact vx_out (fun x9 h9 => (hnt x9 h9).elim) hlocks hce hcv hcl (fun t ht hvm => ⟨us2, hpx.2, ⟨⟨1, by rw [o1, hlo]; rfl, rfl⟩, by rw [ht]; exact hP, va_K.moved hvm hK, hD⟩, hS.F ht⟩) hS.2.2 (Nat.le_of_ble_eq_true rfl) (Nat.le_of_ble_eq_true rfl)
  obtain ⟨htt, cP, cS9, c19⟩ := hw9
  have hlo := lsN_t htt
  have hnw : nw us2 = nw u := frP_nw cP
  have hrg9 : rgM (nw us2) := by rw [hnw]; exact hrg
  have ht9 : nR (gNow (nw us2)) 9 = 511 := by rw [hnw]; exact htt
  have hsl9 : slv (nw us2) us2 := by rw [hnw]; exact cS9
  obtain ⟨c0, hc0, ec0⟩ := inR_nat (n := 8) (by decide) o1
  have hl : lv_has ls 2 [(0, .ref (ad 0)), (1, .int (nI c0))] := by rw [← ec0]; exact hl
  refine lv_aload_n hx hb dX2_greatestRate_8 rfl (lv_at hl 0 rfl) ?_
  refine lv_iconst (v := nI 1) hx hb dX2_greatestRate_9 (by decide) ?_
  refine lv_iload_n hx hb dX2_greatestRate_10 rfl (lv_at hl 1 rfl) ?_
  refine lv_ishl hx hb dX2_greatestRate_11 ?_
  have hp9 : 2 ^ c0 < 512 := by have := Nat.pow_le_pow_right (show 0 < 2 by decide) (show c0 ≤ 8 by omega); omega
  refine lv_topi (fun y3 ey3 => ?_)
  have ey3 : (nI (2 ^ c0)) = y3 := (ey3.trans (shl9 c0 (by omega))).symm
  subst ey3
  refine wc_calli (va_runV (As := [.int (nI (2 ^ c0))]) (rest := []) ⟨hx, hb, hml, hown, hts⟩ (c_X2_greatestCommonRate l dd cy ad X tt us2 _ (2 ^ c0) hp9 hrg9 ht9 hsl9) (cwV 1 hts gX2_greatestRate_X2_greatestCommonRate rfl rfl rfl hd_X2_greatestCommonRate ⟨Nat.le_of_ble_eq_true rfl, Nat.le_of_ble_eq_true rfl⟩) (wrC_V hP hK hD hSt hS hA (wC_0 cy ad us2 X) rfl) rfl rfl hl.1 rfl (lv_room (Nat.le_of_ble_eq_true rfl)) dX2_greatestRate_12 ⟨Nat.le_of_ble_eq_true rfl, Nat.le_of_ble_eq_true rfl⟩) hD hS hA (fun r4 us5 H locs w6 hP hD hS => ?_)
  obtain ⟨hr4, hR9⟩ := w6
  rw [hnw] at hr4
  have cP2 : frP u us5 := frP_R cP hsl9 c19 hR9
  exact vx_ret (W.widen (k := 2) (n := 12) (Nat.le_of_ble_eq_true rfl) (Nat.le_of_ble_eq_true rfl) (W.iret (v := r4) hx hb hr (fun t ht hW => ⟨⟨r4, us5, rfl, ⟨by rw [o1, hlo]; rfl, cP2, by rw [hr4, show cell.toNatClampNeg = c0 by rw [ec0, nI_clamp (by omega)]]⟩, by rw [ht]; exact hP, va_K.moved hW.alike hK, hD⟩, hS.F ht⟩) hS.2.2 dX2_greatestRate_15))
theorem hd_X2_greatestEqual : yX2_greatestEqual.cls = RX2 ∧ yX2_greatestEqual.cls ≠ "java/lang/invoke/MethodHandle" ∧ yX2_greatestEqual.cls ≠ "java/lang/invoke/VarHandle" ∧ (parseMethodDescriptor yX2_greatestEqual.desc).map (fun d => d.parameters.length) = some 1 := by decide +kernel
set_option maxHeartbeats 4000000 in
set_option maxRecDepth 100000 in
/-- greatestEqual(cells) -/
theorem c_X2_greatestEqual (l : Launch) (hlt : l.stackTraces = false) (dd : va_G) (cy : Nat → ClassId) (ad : Nat → Nat) (X : va_W) (tt : Nat × Nat) (N : Nat → Nat) (u : CS) (sz : Nat) (hrg : rgM (nw u)) (hsI : slI u) (cells : Int32) : vx_Met l yX2_greatestEqual wsX2_greatestEqual ({ frames := 7, cells := 2, slots := 12, locals := 117 }) (va_Pc [.ref (ad 0), .int cells] (wrX dd cy tt N (wC cy ad u ++ X) sz)) (va_Qi (fun r u9 => (if inR cells (nI 1) (nI 511) then (if lsN (nw u) then 2 else 0) else 1) = 0 ∧ frP u u9 ∧ r = grU (cn (nw u)) cells.toNatClampNeg) (wB dd cy (fun u9 : CS => wC cy ad u9 ++ X) (va_A (wC cy ad u ++ X) sz)) (va_A (wC cy ad u ++ X) sz)) (vx_X (fun u9 => frP u u9) (fun E u9 t => xsE E (if inR cells (nI 1) (nI 511) then (if lsN (nw u) then 2 else 0) else 1) [xIA, xAE] ∧ wB dd cy (fun u9 : CS => wC cy ad u9 ++ X) (va_A (wC cy ad u ++ X) sz) u9 t) (va_A (wC cy ad u ++ X) sz)) 2 12 (va_A (wC cy ad u ++ X) sz) := by
  refine vx_ofW (cc := cX2_greatestEqual) (maxL := 2) (ret := (some .int)) (by decide) rfl ?_
  intro p e s m args below meth c s₁ B hml hnt hv
  obtain ⟨rfl, ⟨hsz, hP, hK, hD0, hSt⟩, hE⟩ := hv
  have hx := B.exec
  have hb := B.bytes
  have hr := B.returns
  have hts := atoms_spec (ws := wsX2_greatestEqual) B.pre
  have hown : s.vm.findClass RX2 = some m.cls := findClass_of_methodNamed B.named
  have hlocks := B.notSynchronized
  subst hsz
  have hD := hD0.self (sz := s.heap.size)
  generalize hAe : va_A (wC cy ad u ++ X) s.heap.size = A at hD hSt hE ⊢
  have hA : ∀ q : Nat, s.heap.size ≤ q → A q := fun q h => by rw [← hAe]; exact Or.inr h
  have hS : va_S A s.heap s.heap [] := va_S.rf
  have hl := lv_entry ([.ref (ad 0), .int cells]) (n := 2) (Nat.le_of_ble_eq_true rfl)
  rw [lg_entry_eq]
  generalize (lg_sl ([.ref (ad 0), .int cells]) ++ List.replicate (2 - (lg_sl ([.ref (ad 0), .int cells])).length) Slot.unset).toArray = ls at hl ⊢
  have hl : lv_has ls 2 [(0, .ref (ad 0)), (1, .int cells)] := hl
  refine lv_iload_n hx hb dX2_greatestEqual_0 rfl (lv_at hl 1 rfl) ?_
  refine wx_req (vx_runS (As := [.int cells]) (rest := []) ⟨hx, hb, hml, hown, hts⟩ (c_X2_requireCellSet l hlt N _ cells) (va_cwS 1 hts gX2_greatestEqual_X2_requireCellSet rfl rfl rfl hd_X2_requireCellSet ⟨Nat.le_of_ble_eq_true rfl, Nat.le_of_ble_eq_true rfl⟩) (exS_S hE hS hA) rfl rfl hl.1 rfl (lv_room (Nat.le_of_ble_eq_true rfl)) dX2_greatestEqual_1 ⟨Nat.le_of_ble_eq_true rfl, Nat.le_of_ble_eq_true rfl⟩) hP hS hA (fun E9 ce q9 H locs hE9 o1 hP hS hce hcv hcl => ?_) (fun H locs o1 hP hS => ?_)
  · subst hE9
    exact vx_out (fun x9 h9 => (hnt x9 h9).elim) hlocks hce hcv hcl (fun t ht hvm => ⟨u, frP_rf hsI, ⟨⟨0, by rw [o1]; rfl, rfl⟩, by rw [ht]; exact hP, va_K.moved hvm hK, hD⟩, hS.F ht⟩) hS.2.2 (Nat.le_of_ble_eq_true rfl) (Nat.le_of_ble_eq_true rfl)
  refine lv_aload_n hx hb dX2_greatestEqual_4 rfl (lv_at hl 0 rfl) ?_
  refine wx_callv (vx_runV (As := []) (rest := []) ⟨hx, hb, hml, hown, hts⟩ (c_X2_requireExactHeads l hlt dd cy ad X tt N u _ hrg hsI) (cwV 0 hts gX2_greatestEqual_X2_requireExactHeads rfl rfl rfl hd_X2_requireExactHeads ⟨Nat.le_of_ble_eq_true rfl, Nat.le_of_ble_eq_true rfl⟩) (wrX_V hP hK hD hSt hE hS hA (wC_0 cy ad u X) rfl) rfl rfl hl.1 rfl (lv_room (Nat.le_of_ble_eq_true rfl)) dX2_greatestEqual_5 ⟨Nat.le_of_ble_eq_true rfl, Nat.le_of_ble_eq_true rfl⟩) hD hS hA (fun E9 ce q9 us2 H locs hE9 hpx hP hD hS hce hcv hcl => ?_) (fun us2 H locs hw9 hP hD hS => ?_)
  · have hE9 : E9 = xAE := hE9
    subst hE9
    have hlo := lsN_f hpx.1
    exact vx_out (fun x9 h9 => (hnt x9 h9).elim) hlocks hce hcv hcl (fun t ht hvm => ⟨us2, hpx.2, ⟨⟨1, by rw [o1, hlo]; rfl, rfl⟩, by rw [ht]; exact hP, va_K.moved hvm hK, hD⟩, hS.F ht⟩) hS.2.2 (Nat.le_of_ble_eq_true rfl) (Nat.le_of_ble_eq_true rfl)
  obtain ⟨htt, cP, cS9, c19⟩ := hw9
  have hlo := lsN_t htt
  have hnw : nw us2 = nw u := frP_nw cP
  have hrg9 : rgM (nw us2) := by rw [hnw]; exact hrg
  have ht9 : nR (gNow (nw us2)) 9 = 511 := by rw [hnw]; exact htt
  have hsl9 : slv (nw us2) us2 := by rw [hnw]; exact cS9
  obtain ⟨S0, hS1, hS2, eS0⟩ := inR_nat1 (a := 1) (n := 511) (by decide) (by decide) o1
  have hl : lv_has ls 2 [(0, .ref (ad 0)), (1, .int (nI S0))] := by rw [← eS0]; exact hl
  refine lv_aload_n hx hb dX2_greatestEqual_8 rfl (lv_at hl 0 rfl) ?_
  refine lv_iload_n hx hb dX2_greatestEqual_9 rfl (lv_at hl 1 rfl) ?_
  refine wc_calli (va_runV (As := [.int (nI S0)]) (rest := []) ⟨hx, hb, hml, hown, hts⟩ (c_X2_greatestCommonRate l dd cy ad X tt us2 _ S0 (by omega) hrg9 ht9 hsl9) (cwV 1 hts gX2_greatestEqual_X2_greatestCommonRate rfl rfl rfl hd_X2_greatestCommonRate ⟨Nat.le_of_ble_eq_true rfl, Nat.le_of_ble_eq_true rfl⟩) (wrC_V hP hK hD hSt hS hA (wC_0 cy ad us2 X) rfl) rfl rfl hl.1 rfl (lv_room (Nat.le_of_ble_eq_true rfl)) dX2_greatestEqual_10 ⟨Nat.le_of_ble_eq_true rfl, Nat.le_of_ble_eq_true rfl⟩) hD hS hA (fun r3 us4 H locs w5 hP hD hS => ?_)
  obtain ⟨hr3, hR9⟩ := w5
  rw [hnw] at hr3
  have cP2 : frP u us4 := frP_R cP hsl9 c19 hR9
  exact vx_ret (W.widen (k := 2) (n := 12) (Nat.le_of_ble_eq_true rfl) (Nat.le_of_ble_eq_true rfl) (W.iret (v := r3) hx hb hr (fun t ht hW => ⟨⟨r3, us4, rfl, ⟨by rw [o1, hlo]; rfl, cP2, by rw [hr3, show cells.toNatClampNeg = S0 by rw [eS0, nI_clamp (by omega)]]⟩, by rw [ht]; exact hP, va_K.moved hW.alike hK, hD⟩, hS.F ht⟩) hS.2.2 dX2_greatestEqual_13))
theorem hd_X2_bestPair : yX2_bestPair.cls = RX2 ∧ yX2_bestPair.cls ≠ "java/lang/invoke/MethodHandle" ∧ yX2_bestPair.cls ≠ "java/lang/invoke/VarHandle" ∧ (parseMethodDescriptor yX2_bestPair.desc).map (fun d => d.parameters.length) = some 2 := by decide +kernel
set_option maxHeartbeats 4000000 in
set_option maxRecDepth 100000 in
/-- bestPair(a, b) -/
theorem c_X2_bestPair (l : Launch) (hlt : l.stackTraces = false) (dd : va_G) (cy : Nat → ClassId) (ad : Nat → Nat) (X : va_W) (tt : Nat × Nat) (N : Nat → Nat) (u : CS) (sz : Nat) (hrg : rgM (nw u)) (hsI : slI u) (a b : Int32) : vx_Met l yX2_bestPair wsX2_bestPair ({ frames := 7, cells := 4, slots := 24, locals := 117 }) (va_Pc [.ref (ad 0), .int a, .int b] (wrX dd cy tt N (wC cy ad u ++ X) sz)) (va_Qi (fun r u9 => (if inR a (nI 0) (nI 8) && inR b (nI 0) (nI 8) then (if a = b then 2 else if lsN (nw u) then 3 else 0) else 1) = 0 ∧ frP u u9 ∧ r = boU (cn (nw u)) a.toNatClampNeg b.toNatClampNeg) (wB dd cy (fun u9 : CS => wC cy ad u9 ++ X) (va_A (wC cy ad u ++ X) sz)) (va_A (wC cy ad u ++ X) sz)) (vx_X (fun u9 => frP u u9) (fun E u9 t => xsE E (if inR a (nI 0) (nI 8) && inR b (nI 0) (nI 8) then (if a = b then 2 else if lsN (nw u) then 3 else 0) else 1) [xIO, xIA, xAE] ∧ wB dd cy (fun u9 : CS => wC cy ad u9 ++ X) (va_A (wC cy ad u ++ X) sz) u9 t) (va_A (wC cy ad u ++ X) sz)) 4 24 (va_A (wC cy ad u ++ X) sz) := by
  refine vx_ofW (cc := cX2_bestPair) (maxL := 3) (ret := (some .int)) (by decide) rfl ?_
  intro p e s m args below meth c s₁ B hml hnt hv
  obtain ⟨rfl, ⟨hsz, hP, hK, hD0, hSt⟩, hE⟩ := hv
  have hx := B.exec
  have hb := B.bytes
  have hr := B.returns
  have hts := atoms_spec (ws := wsX2_bestPair) B.pre
  have hown : s.vm.findClass RX2 = some m.cls := findClass_of_methodNamed B.named
  have hlocks := B.notSynchronized
  subst hsz
  have hD := hD0.self (sz := s.heap.size)
  generalize hAe : va_A (wC cy ad u ++ X) s.heap.size = A at hD hSt hE ⊢
  have hA : ∀ q : Nat, s.heap.size ≤ q → A q := fun q h => by rw [← hAe]; exact Or.inr h
  have hS : va_S A s.heap s.heap [] := va_S.rf
  have hl := lv_entry ([.ref (ad 0), .int a, .int b]) (n := 3) (Nat.le_of_ble_eq_true rfl)
  rw [lg_entry_eq]
  generalize (lg_sl ([.ref (ad 0), .int a, .int b]) ++ List.replicate (3 - (lg_sl ([.ref (ad 0), .int a, .int b])).length) Slot.unset).toArray = ls at hl ⊢
  have hl : lv_has ls 3 [(0, .ref (ad 0)), (1, .int a), (2, .int b)] := hl
  refine lv_iload_n hx hb dX2_bestPair_0 rfl (lv_at hl 1 rfl) ?_
  refine wx_req (vx_runS (As := [.int a]) (rest := []) ⟨hx, hb, hml, hown, hts⟩ (c_X2_requireCell l hlt N _ a) (va_cwS 1 hts gX2_bestPair_X2_requireCell rfl rfl rfl hd_X2_requireCell ⟨Nat.le_of_ble_eq_true rfl, Nat.le_of_ble_eq_true rfl⟩) (exS_S hE hS hA) rfl rfl hl.1 rfl (lv_room (Nat.le_of_ble_eq_true rfl)) dX2_bestPair_1 ⟨Nat.le_of_ble_eq_true rfl, Nat.le_of_ble_eq_true rfl⟩) hP hS hA (fun E9 ce q9 H locs hE9 o1 hP hS hce hcv hcl => ?_) (fun H locs o1 hP hS => ?_)
  · subst hE9
    exact vx_out (fun x9 h9 => (hnt x9 h9).elim) hlocks hce hcv hcl (fun t ht hvm => ⟨u, frP_rf hsI, ⟨⟨0, by rw [o1]; rfl, rfl⟩, by rw [ht]; exact hP, va_K.moved hvm hK, hD⟩, hS.F ht⟩) hS.2.2 (Nat.le_of_ble_eq_true rfl) (Nat.le_of_ble_eq_true rfl)
  refine lv_iload_n hx hb dX2_bestPair_4 rfl (lv_at hl 2 rfl) ?_
  refine wx_req (vx_runS (As := [.int b]) (rest := []) ⟨hx, hb, hml, hown, hts⟩ (c_X2_requireCell l hlt N _ b) (va_cwS 1 hts gX2_bestPair_X2_requireCell rfl rfl rfl hd_X2_requireCell ⟨Nat.le_of_ble_eq_true rfl, Nat.le_of_ble_eq_true rfl⟩) (exS_S hE hS hA) rfl rfl hl.1 rfl (lv_room (Nat.le_of_ble_eq_true rfl)) dX2_bestPair_5 ⟨Nat.le_of_ble_eq_true rfl, Nat.le_of_ble_eq_true rfl⟩) hP hS hA (fun E9 ce q9 H locs hE9 o2 hP hS hce hcv hcl => ?_) (fun H locs o2 hP hS => ?_)
  · subst hE9
    exact vx_out (fun x9 h9 => (hnt x9 h9).elim) hlocks hce hcv hcl (fun t ht hvm => ⟨u, frP_rf hsI, ⟨⟨0, by rw [o1, o2]; rfl, rfl⟩, by rw [ht]; exact hP, va_K.moved hvm hK, hD⟩, hS.F ht⟩) hS.2.2 (Nat.le_of_ble_eq_true rfl) (Nat.le_of_ble_eq_true rfl)
  refine lv_iload_n hx hb dX2_bestPair_8 rfl (lv_at hl 1 rfl) ?_
  refine lv_iload_n hx hb dX2_bestPair_9 rfl (lv_at hl 2 rfl) ?_
  refine wx_req (vx_runS (As := [.int a, .int b]) (rest := []) ⟨hx, hb, hml, hown, hts⟩ (c_X2_requireDifferent l hlt N _ a b) (va_cwS 2 hts gX2_bestPair_X2_requireDifferent rfl rfl rfl hd_X2_requireDifferent ⟨Nat.le_of_ble_eq_true rfl, Nat.le_of_ble_eq_true rfl⟩) (exS_S hE hS hA) rfl rfl hl.1 rfl (lv_room (Nat.le_of_ble_eq_true rfl)) dX2_bestPair_10 ⟨Nat.le_of_ble_eq_true rfl, Nat.le_of_ble_eq_true rfl⟩) hP hS hA (fun E9 ce q9 H locs hE9 o3 hP hS hce hcv hcl => ?_) (fun H locs o3 hP hS => ?_)
  · subst hE9
    exact vx_out (fun x9 h9 => (hnt x9 h9).elim) hlocks hce hcv hcl (fun t ht hvm => ⟨u, frP_rf hsI, ⟨⟨1, by rw [o1, o2, if_pos (show a = b by simpa using o3)]; rfl, rfl⟩, by rw [ht]; exact hP, va_K.moved hvm hK, hD⟩, hS.F ht⟩) hS.2.2 (Nat.le_of_ble_eq_true rfl) (Nat.le_of_ble_eq_true rfl)
  refine lv_aload_n hx hb dX2_bestPair_13 rfl (lv_at hl 0 rfl) ?_
  refine wx_callv (vx_runV (As := []) (rest := []) ⟨hx, hb, hml, hown, hts⟩ (c_X2_requireExactHeads l hlt dd cy ad X tt N u _ hrg hsI) (cwV 0 hts gX2_bestPair_X2_requireExactHeads rfl rfl rfl hd_X2_requireExactHeads ⟨Nat.le_of_ble_eq_true rfl, Nat.le_of_ble_eq_true rfl⟩) (wrX_V hP hK hD hSt hE hS hA (wC_0 cy ad u X) rfl) rfl rfl hl.1 rfl (lv_room (Nat.le_of_ble_eq_true rfl)) dX2_bestPair_14 ⟨Nat.le_of_ble_eq_true rfl, Nat.le_of_ble_eq_true rfl⟩) hD hS hA (fun E9 ce q9 us4 H locs hE9 hpx hP hD hS hce hcv hcl => ?_) (fun us4 H locs hw9 hP hD hS => ?_)
  · have hE9 : E9 = xAE := hE9
    subst hE9
    have hlo := lsN_f hpx.1
    exact vx_out (fun x9 h9 => (hnt x9 h9).elim) hlocks hce hcv hcl (fun t ht hvm => ⟨us4, hpx.2, ⟨⟨2, by rw [o1, o2, if_neg (show ¬ a = b by simpa using o3), hlo]; rfl, rfl⟩, by rw [ht]; exact hP, va_K.moved hvm hK, hD⟩, hS.F ht⟩) hS.2.2 (Nat.le_of_ble_eq_true rfl) (Nat.le_of_ble_eq_true rfl)
  obtain ⟨htt, cP, cS9, c19⟩ := hw9
  have hlo := lsN_t htt
  have hnw : nw us4 = nw u := frP_nw cP
  have hrg9 : rgM (nw us4) := by rw [hnw]; exact hrg
  have ht9 : nR (gNow (nw us4)) 9 = 511 := by rw [hnw]; exact htt
  have hsl9 : slv (nw us4) us4 := by rw [hnw]; exact cS9
  obtain ⟨c0, hc0, ec0⟩ := inR_nat (n := 8) (by decide) o1
  obtain ⟨d0, hd0, ed0⟩ := inR_nat (n := 8) (by decide) o2
  have hl : lv_has ls 3 [(0, .ref (ad 0)), (1, .int (nI c0)), (2, .int (nI d0))] := by rw [← ec0]; rw [← ed0]; exact hl
  refine lv_aload_n hx hb dX2_bestPair_17 rfl (lv_at hl 0 rfl) ?_
  refine lv_iload_n hx hb dX2_bestPair_18 rfl (lv_at hl 1 rfl) ?_
  refine lv_iload_n hx hb dX2_bestPair_19 rfl (lv_at hl 2 rfl) ?_
  refine wc_calli (va_runV (As := [.int (nI c0), .int (nI d0)]) (rest := []) ⟨hx, hb, hml, hown, hts⟩ (c_X2_bestRates l dd cy ad X tt us4 _ c0 d0 (by omega) (by omega) hrg9 ht9 hsl9) (cwV 2 hts gX2_bestPair_X2_bestRates rfl rfl rfl hd_X2_bestRates ⟨Nat.le_of_ble_eq_true rfl, Nat.le_of_ble_eq_true rfl⟩) (wrC_V hP hK hD hSt hS hA (wC_0 cy ad us4 X) rfl) rfl rfl hl.1 rfl (lv_room (Nat.le_of_ble_eq_true rfl)) dX2_bestPair_20 ⟨Nat.le_of_ble_eq_true rfl, Nat.le_of_ble_eq_true rfl⟩) hD hS hA (fun r5 us6 H locs w7 hP hD hS => ?_)
  obtain ⟨hr5, hR9⟩ := w7
  rw [hnw] at hr5
  have cP2 : frP u us6 := frP_R cP hsl9 c19 hR9
  exact vx_ret (W.widen (k := 4) (n := 24) (Nat.le_of_ble_eq_true rfl) (Nat.le_of_ble_eq_true rfl) (W.iret (v := r5) hx hb hr (fun t ht hW => ⟨⟨r5, us6, rfl, ⟨by rw [o1, o2, if_neg (show ¬ a = b by simpa using o3), hlo]; rfl, cP2, by rw [hr5, show a.toNatClampNeg = c0 by rw [ec0, nI_clamp (by omega)], show b.toNatClampNeg = d0 by rw [ed0, nI_clamp (by omega)]]⟩, by rw [ht]; exact hP, va_K.moved hW.alike hK, hD⟩, hS.F ht⟩) hS.2.2 dX2_bestPair_23))
theorem hd_X2_relaxed : yX2_relaxed.cls = RX2 ∧ yX2_relaxed.cls ≠ "java/lang/invoke/MethodHandle" ∧ yX2_relaxed.cls ≠ "java/lang/invoke/VarHandle" ∧ (parseMethodDescriptor yX2_relaxed.desc).map (fun d => d.parameters.length) = some 1 := by decide +kernel
set_option maxHeartbeats 4000000 in
set_option maxRecDepth 100000 in
/-- relaxed(cell) -/
theorem c_X2_relaxed (l : Launch) (hlt : l.stackTraces = false) (dd : va_G) (cy : Nat → ClassId) (ad : Nat → Nat) (X : va_W) (tt : Nat × Nat) (N : Nat → Nat) (u : CS) (sz : Nat) (hsI : slI u) (cell : Int32) : vx_Met l yX2_relaxed wsX2_relaxed ({ frames := 7, cells := 1, slots := 6, locals := 102 }) (va_Pc [.ref (ad 0), .int cell] (wrX dd cy tt N (wC cy ad u ++ X) sz)) (va_Qd (fun r u9 => (if inR cell (nI 0) (nI 8) then 0 else 1) = 0 ∧ frP u u9 ∧ r = u.2.1 24 cell.toNatClampNeg) (wB dd cy (fun u9 : CS => wC cy ad u9 ++ X) (va_A (wC cy ad u ++ X) sz)) (va_A (wC cy ad u ++ X) sz)) (vx_X (fun u9 => frP u u9) (fun E u9 t => xsE E (if inR cell (nI 0) (nI 8) then 0 else 1) [xIO] ∧ wB dd cy (fun u9 : CS => wC cy ad u9 ++ X) (va_A (wC cy ad u ++ X) sz) u9 t) (va_A (wC cy ad u ++ X) sz)) 1 6 (va_A (wC cy ad u ++ X) sz) := by
  refine vx_ofW (cc := cX2_relaxed) (maxL := 2) (ret := (some .double)) (by decide) rfl ?_
  intro p e s m args below meth c s₁ B hml hnt hv
  obtain ⟨rfl, ⟨hsz, hP, hK, hD0, hSt⟩, hE⟩ := hv
  have hx := B.exec
  have hb := B.bytes
  have hr := B.returns
  have hts := atoms_spec (ws := wsX2_relaxed) B.pre
  have hown : s.vm.findClass RX2 = some m.cls := findClass_of_methodNamed B.named
  have hlocks := B.notSynchronized
  subst hsz
  have hD := hD0.self (sz := s.heap.size)
  generalize hAe : va_A (wC cy ad u ++ X) s.heap.size = A at hD hSt hE ⊢
  have hA : ∀ q : Nat, s.heap.size ≤ q → A q := fun q h => by rw [← hAe]; exact Or.inr h
  have hS : va_S A s.heap s.heap [] := va_S.rf
  have hl := lv_entry ([.ref (ad 0), .int cell]) (n := 2) (Nat.le_of_ble_eq_true rfl)
  rw [lg_entry_eq]
  generalize (lg_sl ([.ref (ad 0), .int cell]) ++ List.replicate (2 - (lg_sl ([.ref (ad 0), .int cell])).length) Slot.unset).toArray = ls at hl ⊢
  have hl : lv_has ls 2 [(0, .ref (ad 0)), (1, .int cell)] := hl
  refine lv_iload_n hx hb dX2_relaxed_0 rfl (lv_at hl 1 rfl) ?_
  refine wx_req (vx_runS (As := [.int cell]) (rest := []) ⟨hx, hb, hml, hown, hts⟩ (c_X2_requireCell l hlt N _ cell) (va_cwS 1 hts gX2_relaxed_X2_requireCell rfl rfl rfl hd_X2_requireCell ⟨Nat.le_of_ble_eq_true rfl, Nat.le_of_ble_eq_true rfl⟩) (exS_S hE hS hA) rfl rfl hl.1 rfl (lv_room (Nat.le_of_ble_eq_true rfl)) dX2_relaxed_1 ⟨Nat.le_of_ble_eq_true rfl, Nat.le_of_ble_eq_true rfl⟩) hP hS hA (fun E9 ce q9 H locs hE9 o1 hP hS hce hcv hcl => ?_) (fun H locs o1 hP hS => ?_)
  · subst hE9
    exact vx_out (fun x9 h9 => (hnt x9 h9).elim) hlocks hce hcv hcl (fun t ht hvm => ⟨u, frP_rf hsI, ⟨⟨0, by rw [o1]; rfl, rfl⟩, by rw [ht]; exact hP, va_K.moved hvm hK, hD⟩, hS.F ht⟩) hS.2.2 (Nat.le_of_ble_eq_true rfl) (Nat.le_of_ble_eq_true rfl)
  obtain ⟨c0, hc0, ec0⟩ := inR_nat (n := 8) (by decide) o1
  have hl : lv_has ls 2 [(0, .ref (ad 0)), (1, .int (nI c0))] := by rw [← ec0]; exact hl
  refine lv_aload_n hx hb dX2_relaxed_4 rfl (lv_at hl 0 rfl) ?_
  refine va_get (D := dd) (ci := 4) (v := .ref (ad 17)) (C := RX2) (T := TX2) (N := 7) hx hb hts (fun _ h9 => List.mem_cons_of_mem _ (List.mem_append_left _ (List.mem_append_left _ (List.mem_append_left _ (List.mem_append_right _ h9))))) hown hK hP (0) (wC_0 cy ad u X) rfl 0 (by decide) (hts (Cond.fieldLink RX2 10 "HeadGrid" "now" "LHeadGrid$State;") (List.mem_of_getElem? (i := 1) rfl)) (fun _ h9 => h9) rfl dX2_relaxed_5 ?_
  refine va_get (D := dd) (ci := 3) (v := .ref (ad 24)) (C := RX1) (T := TX1) (N := 7) hx hb hts (fun _ h9 => List.mem_cons_of_mem _ (List.mem_append_left _ (List.mem_append_left _ (List.mem_append_right _ h9)))) hown hK hP (17) (wC_now cy ad u X) rfl 6 (by decide) (hts (Cond.fieldLink RX2 135 "HeadGrid$State" "relaxedHeads" "[D") (List.mem_of_getElem? (i := 2) rfl)) (fun _ h9 => h9) rfl dX2_relaxed_8 ?_
  refine lv_iload_n hx hb dX2_relaxed_11 rfl (lv_at hl 1 rfl) ?_
  refine wa_dald hx hb hK hP (wC_n6 cy ad u X) (t0 := 2) rfl (i := c0) (by omega) (by decide) dX2_relaxed_12 ?_
  exact vx_ret (W.widen (k := 1) (n := 6) (Nat.le_of_ble_eq_true rfl) (Nat.le_of_ble_eq_true rfl) (W.dret (v := u.2.1 24 c0) hx hb hr (fun t ht hW => ⟨⟨u.2.1 24 c0, u, rfl, ⟨by rw [o1]; rfl, frP_rf hsI, by rw [show cell.toNatClampNeg = c0 by rw [ec0, nI_clamp (by omega)]]⟩, by rw [ht]; exact hP, va_K.moved hW.alike hK, hD⟩, hS.F ht⟩) hS.2.2 dX2_relaxed_13))
theorem hd_X2_relax : yX2_relax.cls = RX2 ∧ yX2_relax.cls ≠ "java/lang/invoke/MethodHandle" ∧ yX2_relax.cls ≠ "java/lang/invoke/VarHandle" ∧ (parseMethodDescriptor yX2_relax.desc).map (fun d => d.parameters.length) = some 1 := by decide +kernel
set_option maxHeartbeats 4000000 in
set_option maxRecDepth 100000 in
/-- relax(sweeps) -/
theorem c_X2_relax (l : Launch) (hlt : l.stackTraces = false) (dd : va_G) (cy : Nat → ClassId) (ad : Nat → Nat) (X : va_W) (tt : Nat × Nat) (N : Nat → Nat) (u : CS) (sz : Nat) (n : Nat) (hn : n ≤ 4) (hok : svOk u.2.2.2.2.2.2) (h_savedCount : nI n = u.2.2.2.1) (hsI : slI u) (hrg : rgM (nw u)) (bb : Nat) (hB : ∀ j, j < 9 → dB bb (u.2.1 24 j)) (hB0 : 1000 ≤ bb) (hB1 : bb + 900000 ≤ 2 ^ 40) (sweeps : Int32) : vx_Met l yX2_relax wsX2_relax ({ frames := 7, cells := 1, slots := 6, locals := 103 }) (va_Pc [.ref (ad 0), .int sweeps] (wrX dd cy tt N (wC cy ad u ++ X) sz)) (va_Qd (fun r u9 => (if inR sweeps (nI 0) (nI 100) then 0 else 1) = 0 ∧ r = (rxN (nw u) (u.2.1 24) sweeps.toNatClampNeg).2 ∧ svN n u u9 ∧ nw u9 = nw u ∧ u9.2.1 24 = (rxN (nw u) (u.2.1 24) sweeps.toNatClampNeg).1) (wB dd cy (fun u9 : CS => wC cy ad u9 ++ X) (va_A (wC cy ad u ++ X) sz)) (va_A (wC cy ad u ++ X) sz)) (vx_X (fun u9 => frP u u9) (fun E u9 t => xsE E (if inR sweeps (nI 0) (nI 100) then 0 else 1) [xIA] ∧ wB dd cy (fun u9 : CS => wC cy ad u9 ++ X) (va_A (wC cy ad u ++ X) sz) u9 t) (va_A (wC cy ad u ++ X) sz)) 1 6 (va_A (wC cy ad u ++ X) sz) := by
  refine vx_ofW (cc := cX2_relax) (maxL := 5) (ret := (some .double)) (by decide) rfl ?_
  intro p e s m args below meth c s₁ B hml hnt hv
  obtain ⟨rfl, ⟨hsz, hP, hK, hD0, hSt⟩, hE⟩ := hv
  have hx := B.exec
  have hb := B.bytes
  have hr := B.returns
  have hts := atoms_spec (ws := wsX2_relax) B.pre
  have hown : s.vm.findClass RX2 = some m.cls := findClass_of_methodNamed B.named
  have hlocks := B.notSynchronized
  subst hsz
  have hD := hD0.self (sz := s.heap.size)
  generalize hAe : va_A (wC cy ad u ++ X) s.heap.size = A at hD hSt hE ⊢
  have hA : ∀ q : Nat, s.heap.size ≤ q → A q := fun q h => by rw [← hAe]; exact Or.inr h
  have hS : va_S A s.heap s.heap [] := va_S.rf
  have hl := lv_entry ([.ref (ad 0), .int sweeps]) (n := 5) (Nat.le_of_ble_eq_true rfl)
  rw [lg_entry_eq]
  generalize (lg_sl ([.ref (ad 0), .int sweeps]) ++ List.replicate (5 - (lg_sl ([.ref (ad 0), .int sweeps])).length) Slot.unset).toArray = ls at hl ⊢
  have hl : lv_has ls 5 [(0, .ref (ad 0)), (1, .int sweeps)] := hl
  refine lv_iload_n hx hb dX2_relax_0 rfl (lv_at hl 1 rfl) ?_
  refine lv_bipush (v := nI 100) hx hb dX2_relax_1 (by decide) ?_
  refine wx_req (vx_runS (As := [.int sweeps, .int (nI 100)]) (rest := []) ⟨hx, hb, hml, hown, hts⟩ (c_X2_requireRange l hlt N _ sweeps 100) (va_cwS 2 hts gX2_relax_X2_requireRange rfl rfl rfl hd_X2_requireRange ⟨Nat.le_of_ble_eq_true rfl, Nat.le_of_ble_eq_true rfl⟩) (exS_S hE hS hA) rfl rfl hl.1 rfl (lv_room (Nat.le_of_ble_eq_true rfl)) dX2_relax_3 ⟨Nat.le_of_ble_eq_true rfl, Nat.le_of_ble_eq_true rfl⟩) hP hS hA (fun E9 ce q9 H locs hE9 o1 hP hS hce hcv hcl => ?_) (fun H locs o1 hP hS => ?_)
  · subst hE9
    exact vx_out (fun x9 h9 => (hnt x9 h9).elim) hlocks hce hcv hcl (fun t ht hvm => ⟨u, frP_rf hsI, ⟨⟨0, by rw [o1]; rfl, rfl⟩, by rw [ht]; exact hP, va_K.moved hvm hK, hD⟩, hS.F ht⟩) hS.2.2 (Nat.le_of_ble_eq_true rfl) (Nat.le_of_ble_eq_true rfl)
  obtain ⟨m0, hm0, em0⟩ := inR_nat (n := 100) (by decide) o1
  have hl : lv_has ls 5 [(0, .ref (ad 0)), (1, .int (nI m0))] := by rw [← em0]; exact hl
  refine lv_aload_n hx hb dX2_relax_6 rfl (lv_at hl 0 rfl) ?_
  refine wc_callv (va_runV (As := []) (rest := []) ⟨hx, hb, hml, hown, hts⟩ (c_X2_saveNow l dd cy ad X tt u _ n hn hok h_savedCount) (cwV 0 hts gX2_relax_X2_saveNow rfl rfl rfl hd_X2_saveNow ⟨Nat.le_of_ble_eq_true rfl, Nat.le_of_ble_eq_true rfl⟩) (wrC_V hP hK hD hSt hS hA (wC_0 cy ad u X) rfl) rfl rfl hl.1 rfl (lv_room (Nat.le_of_ble_eq_true rfl)) dX2_relax_7 ⟨Nat.le_of_ble_eq_true rfl, Nat.le_of_ble_eq_true rfl⟩) hD hS hA (fun us2 H locs w3 hP hD hS => ?_)
  have hR9 := (rotS_ok (n := n) hok).1 (kpM n) (kpM_lt hn)
  have hSN : svN n u us2 := ⟨w3.1, w3.2.1, w3.2.2.1, w3.2.2.2.1, w3.2.2.2.2.1, fun c9 a9 b9 e9 => w3.2.2.2.2.2 c9 b9 e9⟩
  have hN0 := w3.2.2.2.2.2 0 (by decide) (by omega)
  have hN1 : nw us2 = nw u := hN0.1
  have hN2 : us2.2.1 24 = u.2.1 24 := hN0.2
  refine lv_dconst0 hx hb dX2_relax_10 ?_
  refine lv_dstore_n (lv' := [(2, .double FP.dconst0), (0, .ref (ad 0)), (1, .int (nI m0))]) hx hb dX2_relax_11 rfl hl (by decide) rfl (fun ls hl => ?_)
  refine lv_iconst (v := nI 0) hx hb dX2_relax_12 (by decide) ?_
  refine lv_istore (lv' := [(4, .int (nI 0)), (2, .double FP.dconst0), (0, .ref (ad 0)), (1, .int (nI m0))]) hx hb dX2_relax_13 hl (by decide) rfl (fun ls hl => ?_)
  obtain ⟨uS, huS⟩ : ∃ z9z, z9z = us2 := ⟨_, rfl⟩
  rw [← huS] at hP hD hSN hN0 hN1 hN2
  refine wLoop (σ := Nat × UInt64 × CS) (fun k x H locs ls => k = m0 - x.1 ∧ (x.1 ≤ m0) ∧ (x.2.2.1 = uS.1) ∧ (x.2.2.2.2 = uS.2.2) ∧ (∀ k9, k9 ≠ 24 → x.2.2.2.1 k9 = uS.2.1 k9) ∧ (x.2.2.2.1 24 = (rxN (nw u) (u.2.1 24) x.1).1) ∧ (x.2.1 = (rxN (nw u) (u.2.1 24) x.1).2) ∧ va_P dd vwCl (wC cy ad x.2.2 ++ X) H ∧ va_D A (wC cy ad x.2.2 ++ X) ∧ va_S A s.heap H locs ∧ lv_has ls 5 [(4, .int (nI x.1)), (2, .double x.2.1), (1, .int (nI m0)), (0, .ref (ad 0))]) ?_ _ (0, FP.dconst0, uS) _ _ _ ⟨rfl, (Nat.zero_le _), rfl, rfl, (fun _ _ => rfl), hN2, rfl, hP, hD, hS, lv_sub hl [0, 1, 3, 2] rfl⟩
  intro kr x H locs ls hI ihr
  obtain ⟨n0, z, u2⟩ := x
  obtain ⟨hkr, hn0, hF1, hF2, hFo, hR, hz, hP, hD, hS, hl⟩ := hI
  have hkr : kr = m0 - n0 := hkr
  have hn0 : n0 ≤ m0 := hn0
  have hF1 : u2.1 = uS.1 := hF1
  have hF2 : u2.2.2 = uS.2.2 := hF2
  have hFo : ∀ k9, k9 ≠ 24 → u2.2.1 k9 = uS.2.1 k9 := hFo
  have hR : u2.2.1 24 = (rxN (nw u) (u.2.1 24) n0).1 := hR
  have hz : z = (rxN (nw u) (u.2.1 24) n0).2 := hz
  have hP : va_P dd vwCl (wC cy ad u2 ++ X) H := hP
  have hD : va_D A (wC cy ad u2 ++ X) := hD
  have hl : lv_has ls 5 [(4, .int (nI n0)), (2, .double z), (1, .int (nI m0)), (0, .ref (ad 0))] := hl
  refine lv_iload hx hb dX2_relax_15 (lv_at hl 0 rfl) ?_
  refine lv_iload_n hx hb dX2_relax_17 rfl (lv_at hl 2 rfl) ?_
  refine wn_icmp_ge (tgt := 32) hx hb dX2_relax_18 (by decide) (by omega) (by omega) (fun c4 => ?_) (fun c4 => ?_)
  · refine lv_dload_n hx hb dX2_relax_32 rfl (lv_at hl 1 rfl) ?_
    exact vx_ret (W.widen (k := 1) (n := 6) (Nat.le_of_ble_eq_true rfl) (Nat.le_of_ble_eq_true rfl) (W.dret (v := z) hx hb hr (fun t ht hW => ⟨⟨z, u2, rfl, ⟨by rw [o1]; rfl, by rw [hz, show n0 = m0 by omega, show sweeps.toNatClampNeg = m0 by rw [em0, nI_clamp (by omega)]], svN_keep hSN (fun c9 a9 b9 => ⟨nwB_congr (fun k9 _ _ => by rw [hF1]), hFo _ (by omega)⟩) (by rw [hF2]) (by rw [hF2]) (by rw [hF2]) hok hn, (nw_congr hF1).trans hN1, by rw [hR, show n0 = m0 by omega, show sweeps.toNatClampNeg = m0 by rw [em0, nI_clamp (by omega)]]⟩, by rw [ht]; exact hP, va_K.moved hW.alike hK, hD⟩, hS.F ht⟩) hS.2.2 dX2_relax_33))
  · have hU9 : nw u2 = nw u := (nw_congr hF1).trans hN1
    have hRB := rxN_B hrg hB hB0 n0 (by omega)
    refine lv_aload_n hx hb dX2_relax_21 rfl (lv_at hl 3 rfl) ?_
    refine wc_calld (va_runV (As := []) (rest := []) ⟨hx, hb, hml, hown, hts⟩ (c_X2_sweepOnce l dd cy ad X tt u2 _ (by rw [hU9]; exact hrg) (bb + 9000 * n0) (fun j9 h9 => by rw [hR]; exact hRB.1 j9 h9) (by omega) (by omega)) (cwV 0 hts gX2_relax_X2_sweepOnce rfl rfl rfl hd_X2_sweepOnce ⟨Nat.le_of_ble_eq_true rfl, Nat.le_of_ble_eq_true rfl⟩) (wrC_V hP hK hD hSt hS hA (wC_0 cy ad u2 X) rfl) rfl rfl hl.1 rfl (lv_room (Nat.le_of_ble_eq_true rfl)) dX2_relax_22 ⟨Nat.le_of_ble_eq_true rfl, Nat.le_of_ble_eq_true rfl⟩) hD hS hA (fun r5 us6 H locs w7 hP hD hS => ?_)
    obtain ⟨s1, s2, s3, s4, s5⟩ := w7
    refine lv_dstore_n (lv' := [(2, .double r5), (4, .int (nI n0)), (1, .int (nI m0)), (0, .ref (ad 0))]) hx hb dX2_relax_25 rfl hl (by decide) rfl (fun ls hl => ?_)
    refine lv_iinc (v := (nI (n0 + 1))) (lv' := [(4, .int (nI (n0 + 1))), (2, .double r5), (1, .int (nI m0)), (0, .ref (ad 0))]) hx hb dX2_relax_26 hl (k := 1) rfl (nI_1 _) (by decide) rfl (fun ls hl => ?_)
    refine lv_goto (tgt := 15) hx hb dX2_relax_29 (by decide) ?_
    exact ihr (m0 - (n0 + 1)) (n0 + 1, r5, us6) _ _ ls (by omega) ⟨rfl, (by show n0 + 1 ≤ m0; omega), (s4.trans hF1), (s5.trans hF2), (fun k9 h9 => (s3 k9 h9).trans (hFo k9 h9)), (by show _ = (rxS (nw u) (rxN (nw u) (u.2.1 24) n0).1 9).1; rw [s2, hU9, hR]), (by show r5 = (rxS (nw u) (rxN (nw u) (u.2.1 24) n0).1 9).2; rw [s1, hU9, hR]), hP, hD, hS, lv_sub hl [0, 1, 2, 3] rfl⟩
theorem hd_X2_error : yX2_error.cls = RX2 ∧ yX2_error.cls ≠ "java/lang/invoke/MethodHandle" ∧ yX2_error.cls ≠ "java/lang/invoke/VarHandle" ∧ (parseMethodDescriptor yX2_error.desc).map (fun d => d.parameters.length) = some 0 := by decide +kernel
set_option maxHeartbeats 4000000 in
set_option maxRecDepth 100000 in
/-- error() -/
theorem c_X2_error (l : Launch) (hlt : l.stackTraces = false) (dd : va_G) (cy : Nat → ClassId) (ad : Nat → Nat) (X : va_W) (tt : Nat × Nat) (N : Nat → Nat) (u : CS) (sz : Nat) (hrg : rgM (nw u)) (hsI : slI u) (bb : Nat) (hB : ∀ j, j < 9 → dB bb (u.2.1 24 j)) (hB1 : bb ≤ 2 ^ 40) : vx_Met l yX2_error wsX2_error ({ frames := 7, cells := 1, slots := 6, locals := 117 }) (va_Pc [.ref (ad 0)] (wrX dd cy tt N (wC cy ad u ++ X) sz)) (va_Qd (fun r u9 => (if lsN (nw u) then 1 else 0) = 0 ∧ frP u u9 ∧ r = erD (nw u) (u.2.1 24) 9) (wB dd cy (fun u9 : CS => wC cy ad u9 ++ X) (va_A (wC cy ad u ++ X) sz)) (va_A (wC cy ad u ++ X) sz)) (vx_X (fun u9 => frP u u9) (fun E u9 t => xsE E (if lsN (nw u) then 1 else 0) [xAE] ∧ wB dd cy (fun u9 : CS => wC cy ad u9 ++ X) (va_A (wC cy ad u ++ X) sz) u9 t) (va_A (wC cy ad u ++ X) sz)) 1 6 (va_A (wC cy ad u ++ X) sz) := by
  refine vx_ofW (cc := cX2_error) (maxL := 6) (ret := (some .double)) (by decide) rfl ?_
  intro p e s m args below meth c s₁ B hml hnt hv
  obtain ⟨rfl, ⟨hsz, hP, hK, hD0, hSt⟩, hE⟩ := hv
  have hx := B.exec
  have hb := B.bytes
  have hr := B.returns
  have hts := atoms_spec (ws := wsX2_error) B.pre
  have hown : s.vm.findClass RX2 = some m.cls := findClass_of_methodNamed B.named
  have hlocks := B.notSynchronized
  subst hsz
  have hD := hD0.self (sz := s.heap.size)
  generalize hAe : va_A (wC cy ad u ++ X) s.heap.size = A at hD hSt hE ⊢
  have hA : ∀ q : Nat, s.heap.size ≤ q → A q := fun q h => by rw [← hAe]; exact Or.inr h
  have hS : va_S A s.heap s.heap [] := va_S.rf
  have hl := lv_entry ([.ref (ad 0)]) (n := 6) (Nat.le_of_ble_eq_true rfl)
  rw [lg_entry_eq]
  generalize (lg_sl ([.ref (ad 0)]) ++ List.replicate (6 - (lg_sl ([.ref (ad 0)])).length) Slot.unset).toArray = ls at hl ⊢
  have hl : lv_has ls 6 [(0, .ref (ad 0))] := hl
  refine lv_aload_n hx hb dX2_error_0 rfl (lv_at hl 0 rfl) ?_
  refine wx_callv (vx_runV (As := []) (rest := []) ⟨hx, hb, hml, hown, hts⟩ (c_X2_requireExactHeads l hlt dd cy ad X tt N u _ hrg hsI) (cwV 0 hts gX2_error_X2_requireExactHeads rfl rfl rfl hd_X2_requireExactHeads ⟨Nat.le_of_ble_eq_true rfl, Nat.le_of_ble_eq_true rfl⟩) (wrX_V hP hK hD hSt hE hS hA (wC_0 cy ad u X) rfl) rfl rfl hl.1 rfl (lv_room (Nat.le_of_ble_eq_true rfl)) dX2_error_1 ⟨Nat.le_of_ble_eq_true rfl, Nat.le_of_ble_eq_true rfl⟩) hD hS hA (fun E9 ce q9 us1 H locs hE9 hpx hP hD hS hce hcv hcl => ?_) (fun us1 H locs hw9 hP hD hS => ?_)
  · have hE9 : E9 = xAE := hE9
    subst hE9
    have hlo := lsN_f hpx.1
    exact vx_out (fun x9 h9 => (hnt x9 h9).elim) hlocks hce hcv hcl (fun t ht hvm => ⟨us1, hpx.2, ⟨⟨0, by rw [hlo]; rfl, rfl⟩, by rw [ht]; exact hP, va_K.moved hvm hK, hD⟩, hS.F ht⟩) hS.2.2 (Nat.le_of_ble_eq_true rfl) (Nat.le_of_ble_eq_true rfl)
  obtain ⟨htt, cP, cS9, c19⟩ := hw9
  have hlo := lsN_t htt
  have hnw : nw us1 = nw u := frP_nw cP
  have hrg9 : rgM (nw us1) := by rw [hnw]; exact hrg
  have ht9 : nR (gNow (nw us1)) 9 = 511 := by rw [hnw]; exact htt
  have hsl9 : slv (nw us1) us1 := by rw [hnw]; exact cS9
  refine lv_dconst0 hx hb dX2_error_4 ?_
  refine lv_dstore_n (lv' := [(1, .double FP.dconst0), (0, .ref (ad 0))]) hx hb dX2_error_5 rfl hl (by decide) rfl (fun ls hl => ?_)
  refine lv_iconst (v := nI 0) hx hb dX2_error_6 (by decide) ?_
  refine lv_istore_n (lv' := [(3, .int (nI 0)), (1, .double FP.dconst0), (0, .ref (ad 0))]) hx hb dX2_error_7 rfl hl (by decide) rfl (fun ls hl => ?_)
  have hG := GM_rg hrg htt
  refine wLoopR (σ := Nat × UInt64) (fun k x ls => k = 9 - x.1 ∧ (x.1 ≤ 9) ∧ (x.2 = erD (nw u) (u.2.1 24) x.1) ∧ lv_has ls 6 [(3, .int (nI x.1)), (1, .double x.2), (0, .ref (ad 0))]) ?_ _ (0, FP.dconst0) _ ⟨rfl, (Nat.zero_le _), rfl, lv_sub hl [0, 1, 2] rfl⟩
  intro ke x ls hI ihe
  obtain ⟨c0, z⟩ := x
  obtain ⟨hke, hc0, hz, hl⟩ := hI
  have hke : ke = 9 - c0 := hke
  have hc0 : c0 ≤ 9 := hc0
  have hz : z = erD (nw u) (u.2.1 24) c0 := hz
  have hl : lv_has ls 6 [(3, .int (nI c0)), (1, .double z), (0, .ref (ad 0))] := hl
  refine lv_iload_n hx hb dX2_error_8 rfl (lv_at hl 0 rfl) ?_
  refine lv_bipush (v := nI 9) hx hb dX2_error_9 (by decide) ?_
  refine wn_icmp_ge (tgt := 53) hx hb dX2_error_11 (by decide) (by omega) (by omega) (fun c2 => ?_) (fun c2 => ?_)
  · refine lv_dload_n hx hb dX2_error_53 rfl (lv_at hl 1 rfl) ?_
    exact vx_ret (W.widen (k := 1) (n := 6) (Nat.le_of_ble_eq_true rfl) (Nat.le_of_ble_eq_true rfl) (W.dret (v := z) hx hb hr (fun t ht hW => ⟨⟨z, us1, rfl, ⟨by rw [hlo]; rfl, cP, by rw [hz, show c0 = 9 by omega]⟩, by rw [ht]; exact hP, va_K.moved hW.alike hK, hD⟩, hS.F ht⟩) hS.2.2 dX2_error_54))
  · refine lv_aload_n hx hb dX2_error_14 rfl (lv_at hl 2 rfl) ?_
    refine va_get (D := dd) (ci := 4) (v := .ref (ad 17)) (C := RX2) (T := TX2) (N := 7) hx hb hts (fun _ h9 => List.mem_cons_of_mem _ (List.mem_append_left _ (List.mem_append_left _ (List.mem_append_left _ (List.mem_append_left _ (List.mem_append_left _ (List.mem_append_right _ h9))))))) hown hK hP (0) (wC_0 cy ad us1 X) rfl 0 (by decide) (hts (Cond.fieldLink RX2 10 "HeadGrid" "now" "LHeadGrid$State;") (List.mem_of_getElem? (i := 1) rfl)) (fun _ h9 => h9) rfl dX2_error_15 ?_
    refine va_get (D := dd) (ci := 3) (v := .ref (ad 24)) (C := RX1) (T := TX1) (N := 7) hx hb hts (fun _ h9 => List.mem_cons_of_mem _ (List.mem_append_left _ (List.mem_append_left _ (List.mem_append_left _ (List.mem_append_left _ (List.mem_append_right _ h9)))))) hown hK hP (17) (wC_now cy ad us1 X) rfl 6 (by decide) (hts (Cond.fieldLink RX2 135 "HeadGrid$State" "relaxedHeads" "[D") (List.mem_of_getElem? (i := 2) rfl)) (fun _ h9 => h9) rfl dX2_error_18 ?_
    refine lv_iload_n hx hb dX2_error_21 rfl (lv_at hl 0 rfl) ?_
    refine wa_dald hx hb hK hP (wC_n6 cy ad us1 X) (t0 := 2) rfl (i := c0) (by omega) (by decide) dX2_error_22 ?_
    refine lv_aload_n hx hb dX2_error_23 rfl (lv_at hl 2 rfl) ?_
    refine lv_iload_n hx hb dX2_error_24 rfl (lv_at hl 0 rfl) ?_
    refine vp_callSd (va_runV (As := [.int (nI c0)]) (rest := [.double (us1.2.1 24 c0)]) ⟨hx, hb, hml, hown, hts⟩ (c_X2_exactHeadAsDouble l dd cy ad X tt us1 c0 (by omega) hrg9 ht9 hsl9 (GM_rg hrg9)) (cwV 1 hts gX2_error_X2_exactHeadAsDouble rfl rfl rfl hd_X2_exactHeadAsDouble ⟨Nat.le_of_ble_eq_true rfl, Nat.le_of_ble_eq_true rfl⟩) (rdC_V hP hK hSt hS (wC_0 cy ad us1 X) rfl) rfl rfl hl.1 rfl (lv_room (Nat.le_of_ble_eq_true rfl)) dX2_error_25 ⟨Nat.le_of_ble_eq_true rfl, Nat.le_of_ble_eq_true rfl⟩).run (fun r3 hr3 => ?_)
    have hr3 : (exD (nw us1) c0) = r3 := hr3.symm
    subst hr3
    have bx : (exD (nw us1) c0).toNat % 2 ^ 63 < 1200 * 2 ^ 52 := by rw [hnw]; exact ex_bits hG.2.1 c0
    have br : (us1.2.1 24 c0).toNat % 2 ^ 63 < 1200 * 2 ^ 52 := by rw [cP.2.1]; exact rx_bits (hB c0 (by omega)) hB1
    refine vp_callSd (va_runS (As := [.double (us1.2.1 24 c0), .double (exD (nw us1) c0)]) (rest := []) ⟨hx, hb, hml, hown, hts⟩ (c_X2_distance l (us1.2.1 24 c0) (exD (nw us1) c0) (fin_bits_of br) (fin_bits_of bx) (fin_sub_bits br bx)) (va_cwS 2 hts gX2_error_X2_distance rfl rfl rfl hd_X2_distance ⟨Nat.le_of_ble_eq_true rfl, Nat.le_of_ble_eq_true rfl⟩) ⟨fun a U g mk q => q, fun U hU hW => ⟨rfl, trivial⟩⟩ rfl rfl hl.1 rfl (lv_room (Nat.le_of_ble_eq_true rfl)) dX2_error_28 ⟨Nat.le_of_ble_eq_true rfl, Nat.le_of_ble_eq_true rfl⟩).run (fun r4 hr4 => ?_)
    have hr4 : r4 = dfD (us1.2.1 24 c0) (exD (nw us1) c0) := hr4
    subst hr4
    refine lv_dstore (lv' := [(4, .double (dfD (us1.2.1 24 c0) (exD (nw us1) c0))), (3, .int (nI c0)), (1, .double z), (0, .ref (ad 0))]) hx hb dX2_error_31 hl (by decide) rfl (fun ls hl => ?_)
    obtain ⟨of0, hoff⟩ : ∃ z9z, z9z = dfD (us1.2.1 24 c0) (exD (nw us1) c0) := ⟨_, rfl⟩
    have hl : lv_has ls 6 [(4, .double of0), (3, .int (nI c0)), (1, .double z), (0, .ref (ad 0))] := by rw [hoff]; exact hl
    rw [cP.2.1, hnw] at hoff
    refine lv_dload hx hb dX2_error_33 (lv_at hl 0 rfl) ?_
    refine lv_dload_n hx hb dX2_error_35 rfl (lv_at hl 2 rfl) ?_
    refine wd_lle (tgt := 45) hx hb dX2_error_36 dX2_error_37 (by decide) (fun cM => ?_) (fun cM => ?_)
    · refine lv_dload_n hx hb dX2_error_45 rfl (lv_at hl 2 rfl) ?_
      refine lv_dstore_n (lv' := [(1, .double z), (4, .double of0), (3, .int (nI c0)), (0, .ref (ad 0))]) hx hb dX2_error_46 rfl hl (by decide) rfl (fun ls hl => ?_)
      refine lv_iinc (v := (nI (c0 + 1))) (lv' := [(3, .int (nI (c0 + 1))), (1, .double z), (4, .double of0), (0, .ref (ad 0))]) hx hb dX2_error_47 hl (k := 2) rfl (nI_1 _) (by decide) rfl (fun ls hl => ?_)
      refine lv_goto (tgt := 8) hx hb dX2_error_50 (by decide) ?_
      exact ihe (9 - (c0 + 1)) (c0 + 1, z) ls (by omega) ⟨rfl, (by show c0 + 1 ≤ 9; omega), (by show z = mxD _ _; unfold mxD; rw [if_neg (by rw [← hoff, ← hz]; exact cM)]; exact hz), lv_sub hl [0, 1, 3] rfl⟩
    · refine lv_dload hx hb dX2_error_40 (lv_at hl 0 rfl) ?_
      refine lv_goto (tgt := 46) hx hb dX2_error_42 (by decide) ?_
      refine lv_dstore_n (lv' := [(1, .double of0), (4, .double of0), (3, .int (nI c0)), (0, .ref (ad 0))]) hx hb dX2_error_46 rfl hl (by decide) rfl (fun ls hl => ?_)
      refine lv_iinc (v := (nI (c0 + 1))) (lv' := [(3, .int (nI (c0 + 1))), (1, .double of0), (4, .double of0), (0, .ref (ad 0))]) hx hb dX2_error_47 hl (k := 2) rfl (nI_1 _) (by decide) rfl (fun ls hl => ?_)
      refine lv_goto (tgt := 8) hx hb dX2_error_50 (by decide) ?_
      exact ihe (9 - (c0 + 1)) (c0 + 1, of0) ls (by omega) ⟨rfl, (by show c0 + 1 ≤ 9; omega), (by show of0 = mxD _ _; unfold mxD; rw [if_pos (by rw [← hoff, ← hz]; exact cM)]; exact hoff), lv_sub hl [0, 1, 3] rfl⟩
theorem hd_X2_undo : yX2_undo.cls = RX2 ∧ yX2_undo.cls ≠ "java/lang/invoke/MethodHandle" ∧ yX2_undo.cls ≠ "java/lang/invoke/VarHandle" ∧ (parseMethodDescriptor yX2_undo.desc).map (fun d => d.parameters.length) = some 0 := by decide +kernel
set_option maxHeartbeats 4000000 in
set_option maxRecDepth 100000 in
/-- undo() -/
theorem c_X2_undo (l : Launch) (hlt : l.stackTraces = false) (dd : va_G) (cy : Nat → ClassId) (ad : Nat → Nat) (X : va_W) (tt : Nat × Nat) (N : Nat → Nat) (u : CS) (sz : Nat) (n : Nat) (hn : n ≤ 4) (hok : svOk u.2.2.2.2.2.2) (h_savedCount : nI n = u.2.2.2.1) (hsI : slI u) : vx_Met l yX2_undo wsX2_undo ({ frames := 7, cells := 1, slots := 6, locals := 102 }) (va_Pc [.ref (ad 0)] (wrX dd cy tt N (wC cy ad u ++ X) sz)) (va_Qi (fun r u9 => (if n = 0 then 1 else 0) = 0 ∧ r = nI (n - 1) ∧ u9.2.2.2.1 = nI (n - 1) ∧ u9.2.2.2.2.1 = nI 0 ∧ u9.2.2.2.2.2.2 = u.2.2.2.2.2.2 ∧ (∀ k, k < 72 → nw u9 k = nwB u (u.2.2.2.2.2.2 (n - 1)) k) ∧ (∀ j, j < 9 → u9.2.1 24 j = u.2.1 (17 + 8 * u.2.2.2.2.2.2 (n - 1) + 7) j) ∧ (∀ c, 1 ≤ c → c < 5 → nwB u9 c = nwB u c ∧ u9.2.1 (17 + 8 * c + 7) = u.2.1 (17 + 8 * c + 7))) (wB dd cy (fun u9 : CS => wC cy ad u9 ++ X) (va_A (wC cy ad u ++ X) sz)) (va_A (wC cy ad u ++ X) sz)) (vx_X (fun u9 => frP u u9) (fun E u9 t => xsE E (if n = 0 then 1 else 0) [xIS] ∧ wB dd cy (fun u9 : CS => wC cy ad u9 ++ X) (va_A (wC cy ad u ++ X) sz) u9 t) (va_A (wC cy ad u ++ X) sz)) 1 6 (va_A (wC cy ad u ++ X) sz) := by
  refine vx_ofW (cc := cX2_undo) (maxL := 1) (ret := (some .int)) (by decide) rfl ?_
  intro p e s m args below meth c s₁ B hml hnt hv
  obtain ⟨rfl, ⟨hsz, hP, hK, hD0, hSt⟩, hE⟩ := hv
  have hx := B.exec
  have hb := B.bytes
  have hr := B.returns
  have hts := atoms_spec (ws := wsX2_undo) B.pre
  have hown : s.vm.findClass RX2 = some m.cls := findClass_of_methodNamed B.named
  have hlocks := B.notSynchronized
  subst hsz
  have hD := hD0.self (sz := s.heap.size)
  generalize hAe : va_A (wC cy ad u ++ X) s.heap.size = A at hD hSt hE ⊢
  have hA : ∀ q : Nat, s.heap.size ≤ q → A q := fun q h => by rw [← hAe]; exact Or.inr h
  have hS : va_S A s.heap s.heap [] := va_S.rf
  have hl := lv_entry ([.ref (ad 0)]) (n := 1) (Nat.le_of_ble_eq_true rfl)
  rw [lg_entry_eq]
  generalize (lg_sl ([.ref (ad 0)]) ++ List.replicate (1 - (lg_sl ([.ref (ad 0)])).length) Slot.unset).toArray = ls at hl ⊢
  have hl : lv_has ls 1 [(0, .ref (ad 0))] := hl
  refine lv_aload_n hx hb dX2_undo_0 rfl (lv_at hl 0 rfl) ?_
  refine wx_callv (vx_runV (As := []) (rest := []) ⟨hx, hb, hml, hown, hts⟩ (c_X2_requireSavedState l hlt dd cy ad X tt N u _ n hn h_savedCount) (cwV 0 hts gX2_undo_X2_requireSavedState rfl rfl rfl hd_X2_requireSavedState ⟨Nat.le_of_ble_eq_true rfl, Nat.le_of_ble_eq_true rfl⟩) (wrX_V hP hK hD hSt hE hS hA (wC_0 cy ad u X) rfl) rfl rfl hl.1 rfl (lv_room (Nat.le_of_ble_eq_true rfl)) dX2_undo_1 ⟨Nat.le_of_ble_eq_true rfl, Nat.le_of_ble_eq_true rfl⟩) hD hS hA (fun E9 ce q9 us1 H locs hE9 hpx hP hD hS hce hcv hcl => ?_) (fun us1 H locs hw9 hP hD hS => ?_)
  · have hE9 : E9 = xIS := hE9
    subst hE9
    exact vx_out (fun x9 h9 => (hnt x9 h9).elim) hlocks hce hcv hcl (fun t ht hvm => ⟨us1, by rw [hpx.1]; exact frP_rf hsI, ⟨⟨0, by rw [if_pos hpx.2], rfl⟩, by rw [ht]; exact hP, va_K.moved hvm hK, hD⟩, hS.F ht⟩) hS.2.2 (Nat.le_of_ble_eq_true rfl) (Nat.le_of_ble_eq_true rfl)
  obtain ⟨hu9, hn0⟩ := hw9
  rw [hu9] at hP hD
  clear hu9 us1
  have h5 := (hok.1 (n - 1) (by omega))
  refine lv_aload_n hx hb dX2_undo_4 rfl (lv_at hl 0 rfl) ?_
  refine lv_dup hx hb dX2_undo_5 rfl ?_
  refine va_get (D := dd) (ci := 4) (v := .int (nI n)) (C := RX2) (T := TX2) (N := 7) hx hb hts (fun _ h9 => List.mem_cons_of_mem _ (List.mem_append_left _ (List.mem_append_left _ (List.mem_append_right _ h9)))) hown hK hP (0) (wC_0 cy ad u X) rfl 2 (by decide) (hts (Cond.fieldLink RX2 20 "HeadGrid" "savedCount" "I") (List.mem_of_getElem? (i := 1) rfl)) (fun _ h9 => h9) (by rw [h_savedCount]; rfl) dX2_undo_6 ?_
  refine lv_iconst (v := nI 1) hx hb dX2_undo_9 (by decide) ?_
  refine wn_isub hx hb dX2_undo_10 (by omega) ?_
  refine va_put (D := dd) (ci := 4) (v := .int (nI (n - 1))) (ty := .int) (C := RX2) (T := TX2) (N := 7) hx hb hts (fun _ h9 => List.mem_cons_of_mem _ (List.mem_append_left _ (List.mem_append_left _ (List.mem_append_right _ h9)))) tyX2 tyX2_ok nmX2 hown hK hP hD hS (0) (wC_0 cy ad u X) rfl 2 (by decide) (hts (Cond.fieldLink RX2 20 "HeadGrid" "savedCount" "I") (List.mem_of_getElem? (i := 1) rfl)) (fun _ h9 => h9) rfl (tyX2_ok 2 (by decide)) rfl rfl (Nat.le_of_ble_eq_true rfl) dX2_undo_11 (fun H locs hP hD hS => ?_)
  have hP : va_P dd vwCl (wC cy ad (u.1, u.2.1, u.2.2.1, (nI (n - 1)), u.2.2.2.2) ++ X) H := hP
  have hD : va_D A (wC cy ad (u.1, u.2.1, u.2.2.1, (nI (n - 1)), u.2.2.2.2) ++ X) := hD
  obtain ⟨us2, hus2⟩ : ∃ z9z : CS, z9z = (u.1, u.2.1, u.2.2.1, (nI (n - 1)), u.2.2.2.2) := ⟨_, rfl⟩
  rw [← hus2] at hP hD
  have pus2_1 : us2.1 = u.1 := by rw [hus2]
  have pus2_21 : us2.2.1 = u.2.1 := by rw [hus2]
  have pus2_221 : us2.2.2.1 = u.2.2.1 := by rw [hus2]
  have pus2_222222 : us2.2.2.2.2.2.2 = u.2.2.2.2.2.2 := by rw [hus2]
  have h_savedCount : (nI (n - 1)) = us2.2.2.2.1 := by rw [hus2]
  have pus2_solved : us2.2.2.2.2.1 = u.2.2.2.2.1 := by rw [hus2]
  have pus2_denominator : us2.2.2.2.2.2.1 = u.2.2.2.2.2.1 := by rw [hus2]
  have h5v : 1 ≤ us2.2.2.2.2.2.2 (n - 1) ∧ us2.2.2.2.2.2.2 (n - 1) < 5 := by rw [pus2_222222]; exact h5
  refine lv_aload_n hx hb dX2_undo_14 rfl (lv_at hl 0 rfl) ?_
  refine va_get (D := dd) (ci := 4) (v := .ref (ad 17)) (C := RX2) (T := TX2) (N := 7) hx hb hts (fun _ h9 => List.mem_cons_of_mem _ (List.mem_append_left _ (List.mem_append_left _ (List.mem_append_right _ h9)))) hown hK hP (0) (wC_0 cy ad us2 X) rfl 0 (by decide) (hts (Cond.fieldLink RX2 10 "HeadGrid" "now" "LHeadGrid$State;") (List.mem_of_getElem? (i := 2) rfl)) (fun _ h9 => h9) rfl dX2_undo_15 ?_
  refine lv_aload_n hx hb dX2_undo_18 rfl (lv_at hl 0 rfl) ?_
  refine va_get (D := dd) (ci := 4) (v := .ref (ad 1)) (C := RX2) (T := TX2) (N := 7) hx hb hts (fun _ h9 => List.mem_cons_of_mem _ (List.mem_append_left _ (List.mem_append_left _ (List.mem_append_right _ h9)))) hown hK hP (0) (wC_0 cy ad us2 X) rfl 1 (by decide) (hts (Cond.fieldLink RX2 16 "HeadGrid" "saved" "[LHeadGrid$State;") (List.mem_of_getElem? (i := 3) rfl)) (fun _ h9 => h9) rfl dX2_undo_19 ?_
  refine lv_aload_n hx hb dX2_undo_22 rfl (lv_at hl 0 rfl) ?_
  refine va_get (D := dd) (ci := 4) (v := .int (nI (n - 1))) (C := RX2) (T := TX2) (N := 7) hx hb hts (fun _ h9 => List.mem_cons_of_mem _ (List.mem_append_left _ (List.mem_append_left _ (List.mem_append_right _ h9)))) hown hK hP (0) (wC_0 cy ad us2 X) rfl 2 (by decide) (hts (Cond.fieldLink RX2 20 "HeadGrid" "savedCount" "I") (List.mem_of_getElem? (i := 1) rfl)) (fun _ h9 => h9) (by rw [h_savedCount]; rfl) dX2_undo_23 ?_
  refine wa_aaldO hx hb hK hP (wC_1 cy ad us2 X) (t0 := 3) rfl (i := n - 1) (by omega) (by decide) rfl dX2_undo_26 ?_
  refine wc_callv (va_runV (As := [.ref (ad (17 + 8 * (us2.2.2.2.2.2.2 (n - 1))))]) (rest := []) ⟨hx, hb, hml, hown, hts⟩ (c_X1_copyFrom l dd cy ad X tt us2 _ 0 (us2.2.2.2.2.2.2 (n - 1)) (by decide) h5v.2 (by omega)) (cwV 1 hts gX2_undo_X1_copyFrom rfl rfl rfl hd_X1_copyFrom ⟨Nat.le_of_ble_eq_true rfl, Nat.le_of_ble_eq_true rfl⟩) (wrC_V hP hK hD hSt hS hA (wC_now cy ad us2 X) rfl) rfl rfl hl.1 rfl (lv_room (Nat.le_of_ble_eq_true rfl)) dX2_undo_27 ⟨Nat.le_of_ble_eq_true rfl, Nat.le_of_ble_eq_true rfl⟩) hD hS hA (fun us4 H locs w5 hP hD hS => ?_)
  have hcp := w5
  have h_savedCount : nI (n - 1) = us4.2.2.2.1 := by rw [hcp.2.2.2]; exact h_savedCount
  refine lv_aload_n hx hb dX2_undo_30 rfl (lv_at hl 0 rfl) ?_
  refine lv_iconst (v := nI 0) hx hb dX2_undo_31 (by decide) ?_
  refine va_put (D := dd) (ci := 4) (v := .int (nI 0)) (ty := .boolean) (C := RX2) (T := TX2) (N := 7) hx hb hts (fun _ h9 => List.mem_cons_of_mem _ (List.mem_append_left _ (List.mem_append_left _ (List.mem_append_right _ h9)))) tyX2 tyX2_ok nmX2 hown hK hP hD hS (0) (wC_0 cy ad us4 X) rfl 4 (by decide) (hts (Cond.fieldLink RX2 31 "HeadGrid" "solved" "Z") (List.mem_of_getElem? (i := 4) rfl)) (fun _ h9 => h9) rfl (tyX2_ok 4 (by decide)) rfl rfl (Nat.le_of_ble_eq_true rfl) dX2_undo_32 (fun H locs hP hD hS => ?_)
  have hP : va_P dd vwCl (wC cy ad (us4.1, us4.2.1, us4.2.2.1, us4.2.2.2.1, (nI 0), us4.2.2.2.2.2) ++ X) H := hP
  have hD : va_D A (wC cy ad (us4.1, us4.2.1, us4.2.2.1, us4.2.2.2.1, (nI 0), us4.2.2.2.2.2) ++ X) := hD
  obtain ⟨us6, hus6⟩ : ∃ z9z : CS, z9z = (us4.1, us4.2.1, us4.2.2.1, us4.2.2.2.1, (nI 0), us4.2.2.2.2.2) := ⟨_, rfl⟩
  rw [← hus6] at hP hD
  have pus6_1 : us6.1 = us4.1 := by rw [hus6]
  have pus6_21 : us6.2.1 = us4.2.1 := by rw [hus6]
  have pus6_221 : us6.2.2.1 = us4.2.2.1 := by rw [hus6]
  have pus6_222222 : us6.2.2.2.2.2.2 = us4.2.2.2.2.2.2 := by rw [hus6]
  have pus6_savedCount : us6.2.2.2.1 = us4.2.2.2.1 := by rw [hus6]
  have h_savedCount : (nI (n - 1)) = us6.2.2.2.1 := by rw [pus6_savedCount]; exact h_savedCount
  have h_solved : (nI 0) = us6.2.2.2.2.1 := by rw [hus6]
  have pus6_denominator : us6.2.2.2.2.2.1 = us4.2.2.2.2.2.1 := by rw [hus6]
  refine lv_aload_n hx hb dX2_undo_35 rfl (lv_at hl 0 rfl) ?_
  refine va_get (D := dd) (ci := 4) (v := .int (nI (n - 1))) (C := RX2) (T := TX2) (N := 7) hx hb hts (fun _ h9 => List.mem_cons_of_mem _ (List.mem_append_left _ (List.mem_append_left _ (List.mem_append_right _ h9)))) hown hK hP (0) (wC_0 cy ad us6 X) rfl 2 (by decide) (hts (Cond.fieldLink RX2 20 "HeadGrid" "savedCount" "I") (List.mem_of_getElem? (i := 1) rfl)) (fun _ h9 => h9) (by rw [h_savedCount]; rfl) dX2_undo_36 ?_
  have eS : us2.2.2.2.2.2.2 (n - 1) = u.2.2.2.2.2.2 (n - 1) := by rw [pus2_222222]
  rw [eS] at hcp
  have eB : ∀ c9, nwB us2 c9 = nwB u c9 := fun c9 => by unfold nwB; rw [pus2_1]
  have eX : ∀ c9, nwB us6 c9 = nwB us4 c9 := fun c9 => by unfold nwB; rw [pus6_1]
  exact vx_ret (W.widen (k := 1) (n := 6) (Nat.le_of_ble_eq_true rfl) (Nat.le_of_ble_eq_true rfl) (W.iret (v := (nI (n - 1))) hx hb hr (fun t ht hW => ⟨⟨(nI (n - 1)), us6, rfl, ⟨by rw [if_neg hn0], rfl, h_savedCount.symm, h_solved.symm, by rw [pus6_222222, hcp.2.2.2, pus2_222222], fun k9 h9 => by show nwB us6 0 k9 = _; rw [eX, hcp.1 k9 h9, eB], fun j9 h9 => by rw [pus6_21]; show us4.2.1 (17 + 8 * 0 + 7) j9 = _; rw [hcp.2.1 j9 h9, pus2_21], fun c9 a9 b9 => ⟨by rw [eX, (hcp.2.2.1 c9 b9 (by omega)).1, eB], by rw [pus6_21, (hcp.2.2.1 c9 b9 (by omega)).2, pus2_21]⟩⟩, by rw [ht]; exact hP, va_K.moved hW.alike hK, hD⟩, hS.F ht⟩) hS.2.2 dX2_undo_39))

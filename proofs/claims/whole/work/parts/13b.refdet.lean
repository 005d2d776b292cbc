/-! the reference: determinantWithout -/
theorem hd_X3_determinantWithout : yX3_determinantWithout.cls = RX3 ∧ yX3_determinantWithout.cls ≠ "java/lang/invoke/MethodHandle" ∧ yX3_determinantWithout.cls ≠ "java/lang/invoke/VarHandle" ∧ (parseMethodDescriptor yX3_determinantWithout.desc).map (fun d => d.parameters.length) = some 2 := by decide +kernel
set_option maxHeartbeats 4000000 in
set_option maxRecDepth 100000 in
/-- determinantWithout(row, column) -/
theorem c_X3_determinantWithout_9 (l : Launch) (dd : va_G) (cy : Nat → ClassId) (ad : Nat → Nat) (X : va_W) (u : MS) (sz : Nat) (MA : Nat → Nat → Int) (r0 q0 : Nat) (h0 : r0 = 9 ∧ q0 = 9) (hM : ∀ i, i < 9 → ∀ j, j < 9 → u.2.2.1 5 (9 * i + j) = Int64.ofInt (MA i j)) : Met l yX3_determinantWithout wsX3_determinantWithout ({ frames := 0, cells := 0, slots := 0, locals := 0 }) (va_Pc [.ref (ad 0), .int (nI r0), .int (nI q0)] (wrW dd cy (wM cy ad u ++ X) sz)) (va_Ql (fun r u9 => frJ [7] u u9 ∧ r = Int64.ofInt (dW 9 (fun i9 k9 => MA (skp r0 i9) (skp q0 k9)) 9 (fun _ => true))) (wB dd cy (fun u9 : MS => wM cy ad u9 ++ X) (va_A (wM cy ad u ++ X) sz)) (va_A (wM cy ad u ++ X) sz)) 0 0 (va_A (wM cy ad u ++ X) sz) := by
  refine Met.ofW (cc := cX3_determinantWithout) (maxL := 13) (ret := (some .long)) (by decide) rfl ?_
  intro p e s m args below meth c s₁ B hml hv
  obtain ⟨rfl, hsz, hP, hK, hD0⟩ := hv
  have hx := B.exec
  have hb := B.bytes
  have hr := B.returns
  have hts := atoms_spec (ws := wsX3_determinantWithout) B.pre
  have hown : s.vm.findClass RX3 = some m.cls := findClass_of_methodNamed B.named
  have hlocks := B.notSynchronized
  subst hsz
  have hD := hD0.self (sz := s.heap.size)
  generalize hAe : va_A (wM cy ad u ++ X) s.heap.size = A at hD ⊢
  have hA : ∀ q : Nat, s.heap.size ≤ q → A q := fun q h => by rw [← hAe]; exact Or.inr h
  have hS : va_S A s.heap s.heap [] := va_S.rf
  have hl := lv_entry ([.ref (ad 0), .int (nI r0), .int (nI q0)]) (n := 13) (Nat.le_of_ble_eq_true rfl)
  rw [lg_entry_eq]
  generalize (lg_sl ([.ref (ad 0), .int (nI r0), .int (nI q0)]) ++ List.replicate (13 - (lg_sl ([.ref (ad 0), .int (nI r0), .int (nI q0)])).length) Slot.unset).toArray = ls at hl ⊢
  have hl : lv_has ls 13 [(0, .ref (ad 0)), (1, .int (nI r0)), (2, .int (nI q0))] := hl
  refine lv_iload_n hx hb dX3_determinantWithout_0 rfl (lv_at hl 1 rfl) ?_
  refine lv_bipush (v := nI 9) hx hb dX3_determinantWithout_1 (by decide) ?_
  refine wn_icmp_ne (tgt := 11) hx hb dX3_determinantWithout_3 (by decide) (by omega) (by omega) (fun cR => (by first | exact absurd cR (fun q9 => q9 h0.1) | exact absurd (fun q9 => q9 h0.1) cR)) (fun _ => ?_)
  refine lv_bipush (v := nI 9) hx hb dX3_determinantWithout_6 (by decide) ?_
  refine lv_goto (tgt := 13) hx hb dX3_determinantWithout_8 (by decide) ?_
  refine lv_istore_n (lv' := [(3, .int (nI 9)), (0, .ref (ad 0)), (1, .int (nI r0)), (2, .int (nI q0))]) hx hb dX3_determinantWithout_13 rfl hl (by decide) rfl (fun ls hl => ?_)
  refine lv_aload_n hx hb dX3_determinantWithout_14 rfl (lv_at hl 1 rfl) ?_
  refine va_get (D := dd) (ci := 5) (v := .ref (ad 7)) (C := RX3) (T := TX3) (N := 15) hx hb hts (fun _ h9 => List.mem_cons_of_mem _ (List.mem_append_left _ (List.mem_append_right _ h9))) hown hK hP 0 (wM_0 cy ad u X) rfl 8 (by decide) (hts (Cond.fieldLink RX3 30 "HeadGridModel" "minor" "[J") (List.mem_of_getElem? (i := 1) rfl)) (fun _ h9 => h9) rfl dX3_determinantWithout_15 ?_
  refine lv_iconst (v := nI 0) hx hb dX3_determinantWithout_18 (by decide) ?_
  refine lv_lconst (v := 1) hx hb dX3_determinantWithout_19 rfl ?_
  refine wa_last hx hb hK hP hD hS (wM_7 cy ad u X) (t0 := 1) rfl (i := 0) (by omega) (by decide) dX3_determinantWithout_20 (wM_s7 cy ad u X _) (fun H locs hP hD hS => ?_)
  obtain ⟨us1, hus1⟩ : ∃ z9z : MS, z9z = (u.1, u.2.1, va_up u.2.2.1 7 (vp_updL (u.2.2.1 7) 0 1), u.2.2.2) := ⟨_, rfl⟩
  rw [← hus1] at hP hD
  have pus1_s : us1.2.2.1 7 = (vp_updL (u.2.2.1 7) 0 1) := by rw [hus1]; rfl
  have pus1_o : ∀ j9, j9 ≠ 7 → us1.2.2.1 j9 = u.2.2.1 j9 := fun j9 h9 => by rw [hus1]; exact va_up_n h9
  have pus1_1 : us1.1 = u.1 := by rw [hus1]
  have pus1_21 : us1.2.1 = u.2.1 := by rw [hus1]
  have pus1_222 : us1.2.2.2 = u.2.2.2 := by rw [hus1]
  refine lv_iconst (v := nI 1) hx hb dX3_determinantWithout_21 (by decide) ?_
  refine lv_istore (lv' := [(4, .int (nI 1)), (3, .int (nI 9)), (0, .ref (ad 0)), (1, .int (nI r0)), (2, .int (nI q0))]) hx hb dX3_determinantWithout_22 hl (by decide) rfl (fun ls hl => ?_)
  refine wLoop (σ := Nat × MS) (fun k x H locs ls => k = 2 ^ 9 - x.1 ∧ (1 ≤ x.1) ∧ (x.1 ≤ 2 ^ 9) ∧ (frJ [7] u x.2) ∧ (mnI 9 (fun i9 k9 => MA (skp r0 i9) (skp q0 k9)) x.1 (x.2.2.2.1 7)) ∧ va_P dd vwCl (wM cy ad x.2 ++ X) H ∧ va_D A (wM cy ad x.2 ++ X) ∧ va_S A s.heap H locs ∧ lv_has ls 13 [(4, .int (nI x.1)), (3, .int (nI 9)), (2, .int (nI q0)), (1, .int (nI r0)), (0, .ref (ad 0))]) ?_ _ (1, us1) _ _ _ ⟨rfl, (by omega), (by omega), (frJ_set frJ_rf (by decide) hus1), (fun T9 h9 => by rw [pus1_s, show T9 = 0 by omega]; unfold vp_updL; rw [if_pos rfl, show (Nat.testBit 0) = (fun _ => false) from funext Nat.zero_testBit, cb_none, dW]; exact ofI_1.symm), hP, hD, hS, lv_sub hl [0, 1, 4, 3, 2] rfl⟩
  intro ko x H locs ls hI iho
  obtain ⟨S0, u1⟩ := x
  obtain ⟨hko, hS1, hS2, hF, hm, hP, hD, hS, hl⟩ := hI
  have hko : ko = 2 ^ 9 - S0 := hko
  have hS1 : 1 ≤ S0 := hS1
  have hS2 : S0 ≤ 2 ^ 9 := hS2
  have hF : frJ [7] u u1 := hF
  have hm : mnI 9 (fun i9 k9 => MA (skp r0 i9) (skp q0 k9)) S0 (u1.2.2.1 7) := hm
  have hP : va_P dd vwCl (wM cy ad u1 ++ X) H := hP
  have hD : va_D A (wM cy ad u1 ++ X) := hD
  have hl : lv_has ls 13 [(4, .int (nI S0)), (3, .int (nI 9)), (2, .int (nI q0)), (1, .int (nI r0)), (0, .ref (ad 0))] := hl
  refine lv_iload hx hb dX3_determinantWithout_24 (lv_at hl 0 rfl) ?_
  refine lv_iconst (v := nI 1) hx hb dX3_determinantWithout_26 (by decide) ?_
  refine lv_iload_n hx hb dX3_determinantWithout_27 rfl (lv_at hl 1 rfl) ?_
  refine lv_ishl hx hb dX3_determinantWithout_28 ?_
  refine lv_topi (fun y2 ey2 => ?_)
  have ey2 : y2 = (nI (2 ^ 9)) := ey2.trans (shl9 9 (by omega))
  subst ey2
  refine wn_icmp_ge (tgt := 195) hx hb dX3_determinantWithout_29 (by decide) (by omega) (by omega) (fun cW => ?_) (fun cW => ?_)
  · refine lv_aload_n hx hb dX3_determinantWithout_195 rfl (lv_at hl 4 rfl) ?_
    refine va_get (D := dd) (ci := 5) (v := .ref (ad 7)) (C := RX3) (T := TX3) (N := 15) hx hb hts (fun _ h9 => List.mem_cons_of_mem _ (List.mem_append_left _ (List.mem_append_right _ h9))) hown hK hP 0 (wM_0 cy ad u1 X) rfl 8 (by decide) (hts (Cond.fieldLink RX3 30 "HeadGridModel" "minor" "[J") (List.mem_of_getElem? (i := 1) rfl)) (fun _ h9 => h9) rfl dX3_determinantWithout_196 ?_
    refine lv_iconst (v := nI 1) hx hb dX3_determinantWithout_199 (by decide) ?_
    refine lv_iload_n hx hb dX3_determinantWithout_200 rfl (lv_at hl 1 rfl) ?_
    refine lv_ishl hx hb dX3_determinantWithout_201 ?_
    refine lv_topi (fun y3 ey3 => ?_)
    have ey3 : y3 = (nI (2 ^ 9)) := ey3.trans (shl9 9 (by omega))
    subst ey3
    refine lv_iconst (v := nI 1) hx hb dX3_determinantWithout_202 (by decide) ?_
    refine wn_isub hx hb dX3_determinantWithout_203 (by omega) ?_
    refine wa_lald hx hb hK hP (wM_7 cy ad u1 X) (t0 := 1) rfl (i := (2 ^ 9) - 1) (by omega) (by decide) dX3_determinantWithout_204 ?_
    exact W.lret (v := u1.2.2.1 7 ((2 ^ 9) - 1)) hx hb hr (fun t ht hW => ⟨⟨u1.2.2.1 7 ((2 ^ 9) - 1), u1, rfl, ⟨hF, mn_last (by rw [show S0 = 2 ^ 9 by omega] at hm; exact hm)⟩, by rw [ht]; exact hP, va_K.moved hW.alike hK, hD⟩, hS.F ht⟩) hS.2.2 dX3_determinantWithout_205
  · refine lv_iconst (v := -1) hx hb dX3_determinantWithout_32 i32_m1 ?_
    refine lv_istore (lv' := [(5, .int (-1)), (4, .int (nI S0)), (3, .int (nI 9)), (2, .int (nI q0)), (1, .int (nI r0)), (0, .ref (ad 0))]) hx hb dX3_determinantWithout_33 hl (by decide) rfl (fun ls hl => ?_)
    refine lv_iconst (v := nI 0) hx hb dX3_determinantWithout_35 (by decide) ?_
    refine lv_istore (lv' := [(6, .int (nI 0)), (5, .int (-1)), (4, .int (nI S0)), (3, .int (nI 9)), (2, .int (nI q0)), (1, .int (nI r0)), (0, .ref (ad 0))]) hx hb dX3_determinantWithout_36 hl (by decide) rfl (fun ls hl => ?_)
    refine wLoopR (σ := Nat × Int32) (fun k x ls => k = 9 - x.1 ∧ (x.1 ≤ 9) ∧ (x.2 = nI (cb S0.testBit x.1) + (-1)) ∧ lv_has ls 13 [(6, .int (nI x.1)), (5, .int x.2), (4, .int (nI S0)), (3, .int (nI 9)), (2, .int (nI q0)), (1, .int (nI r0)), (0, .ref (ad 0))]) ?_ _ (0, (-1)) _ ⟨rfl, (by omega), (Int32.zero_add (-1)).symm, lv_sub hl [0, 1, 2, 3, 4, 5, 6] rfl⟩
    intro ki x ls hI ihi
    obtain ⟨k0, x⟩ := x
    obtain ⟨hki, hk0, hx5, hl⟩ := hI
    have hki : ki = 9 - k0 := hki
    have hk0 : k0 ≤ 9 := hk0
    have hx5 : x = nI (cb S0.testBit k0) + (-1) := hx5
    have hl : lv_has ls 13 [(6, .int (nI k0)), (5, .int x), (4, .int (nI S0)), (3, .int (nI 9)), (2, .int (nI q0)), (1, .int (nI r0)), (0, .ref (ad 0))] := hl
    refine lv_iload hx hb dX3_determinantWithout_38 (lv_at hl 0 rfl) ?_
    refine lv_iload_n hx hb dX3_determinantWithout_40 rfl (lv_at hl 3 rfl) ?_
    refine wn_icmp_ge (tgt := 62) hx hb dX3_determinantWithout_41 (by decide) (by omega) (by omega) (fun c4 => ?_) (fun c4 => ?_)
    · have hpc := cb_nat hS1 (show S0 < 2 ^ 9 by omega)
      obtain ⟨P0, hP0⟩ : ∃ P0, cb S0.testBit 9 = P0 + 1 := ⟨cb S0.testBit 9 - 1, by omega⟩
      have hPn := cb_le S0.testBit 9
      have hx5 : x = nI P0 := by rw [hx5, show k0 = 9 by omega, hP0, pk_m1]
      subst hx5
      have hl : lv_has ls 13 [(6, .int (nI k0)), (5, .int (nI P0)), (4, .int (nI S0)), (3, .int (nI 9)), (2, .int (nI q0)), (1, .int (nI r0)), (0, .ref (ad 0))] := hl
      refine wCut (pc2 := 82) (fun ls => lv_has ls 13 [(6, .int (nI (9 * skp r0 P0))), (5, .int (nI P0)), (4, .int (nI S0)), (3, .int (nI 9)), (2, .int (nI q0)), (1, .int (nI r0)), (0, .ref (ad 0))]) (fun K5 => ?_) (fun ls hl => ?_)
      · refine lv_bipush (v := nI 9) hx hb dX3_determinantWithout_62 (by decide) ?_
        refine lv_iload hx hb dX3_determinantWithout_64 (lv_at hl 1 rfl) ?_
        refine lv_iload_n hx hb dX3_determinantWithout_66 rfl (lv_at hl 5 rfl) ?_
        refine wn_icmp_ge (tgt := 75) hx hb dX3_determinantWithout_67 (by decide) (by omega) (by omega) (fun cS => ?_) (fun cS => ?_)
        · refine lv_iload hx hb dX3_determinantWithout_75 (lv_at hl 1 rfl) ?_
          refine lv_iconst (v := nI 1) hx hb dX3_determinantWithout_77 (by decide) ?_
          refine wn_iadd hx hb dX3_determinantWithout_78 ?_
          refine wn_imul hx hb dX3_determinantWithout_79 ?_
          refine lv_topi (fun y6 ey6 => ?_)
          have ey6 : y6 = (nI (9 * skp r0 P0)) := ey6.trans (congrArg nI (by rw [skp_hi (by omega)]))
          subst ey6
          refine lv_istore (lv' := [(6, .int (nI (9 * skp r0 P0))), (5, .int (nI P0)), (4, .int (nI S0)), (3, .int (nI 9)), (2, .int (nI q0)), (1, .int (nI r0)), (0, .ref (ad 0))]) hx hb dX3_determinantWithout_80 hl (by decide) rfl (fun ls hl => ?_)
          exact K5 ls (lv_sub hl [0, 1, 2, 3, 4, 5, 6] rfl)
        · refine lv_iload hx hb dX3_determinantWithout_70 (lv_at hl 1 rfl) ?_
          refine lv_goto (tgt := 79) hx hb dX3_determinantWithout_72 (by decide) ?_
          refine wn_imul hx hb dX3_determinantWithout_79 ?_
          refine lv_topi (fun y7 ey7 => ?_)
          have ey7 : y7 = (nI (9 * skp r0 P0)) := ey7.trans (congrArg nI (by rw [skp_lo (by omega)]))
          subst ey7
          refine lv_istore (lv' := [(6, .int (nI (9 * skp r0 P0))), (5, .int (nI P0)), (4, .int (nI S0)), (3, .int (nI 9)), (2, .int (nI q0)), (1, .int (nI r0)), (0, .ref (ad 0))]) hx hb dX3_determinantWithout_80 hl (by decide) rfl (fun ls hl => ?_)
          exact K5 ls (lv_sub hl [0, 1, 2, 3, 4, 5, 6] rfl)
      · have hsr : skp r0 P0 < 9 := skp_lt (n := 9) (by omega) (by omega)
        refine lv_lconst (v := 0) hx hb dX3_determinantWithout_82 rfl ?_
        refine lv_lstore (lv' := [(7, .long 0), (6, .int (nI (9 * skp r0 P0))), (5, .int (nI P0)), (4, .int (nI S0)), (3, .int (nI 9)), (2, .int (nI q0)), (1, .int (nI r0)), (0, .ref (ad 0))]) hx hb dX3_determinantWithout_83 hl (by decide) rfl (fun ls hl => ?_)
        refine lv_iconst (v := nI 0) hx hb dX3_determinantWithout_85 (by decide) ?_
        refine lv_istore (lv' := [(9, .int (nI 0)), (7, .long 0), (6, .int (nI (9 * skp r0 P0))), (5, .int (nI P0)), (4, .int (nI S0)), (3, .int (nI 9)), (2, .int (nI q0)), (1, .int (nI r0)), (0, .ref (ad 0))]) hx hb dX3_determinantWithout_86 hl (by decide) rfl (fun ls hl => ?_)
        refine lv_iconst (v := nI 0) hx hb dX3_determinantWithout_88 (by decide) ?_
        refine lv_istore (lv' := [(10, .int (nI 0)), (9, .int (nI 0)), (7, .long 0), (6, .int (nI (9 * skp r0 P0))), (5, .int (nI P0)), (4, .int (nI S0)), (3, .int (nI 9)), (2, .int (nI q0)), (1, .int (nI r0)), (0, .ref (ad 0))]) hx hb dX3_determinantWithout_89 hl (by decide) rfl (fun ls hl => ?_)
        refine wLoopR (σ := Nat × Int64 × Nat) (fun k x ls => k = 9 - x.1 ∧ (x.1 ≤ 9) ∧ (x.2.1 = Int64.ofInt (sm x.1 (mnF 9 (fun i9 k9 => MA (skp r0 i9) (skp q0 k9)) S0 P0))) ∧ (x.2.2 = cb S0.testBit x.1) ∧ lv_has ls 13 [(10, .int (nI x.1)), (9, .int (nI x.2.2)), (7, .long x.2.1), (6, .int (nI (9 * skp r0 P0))), (5, .int (nI P0)), (4, .int (nI S0)), (3, .int (nI 9)), (2, .int (nI q0)), (1, .int (nI r0)), (0, .ref (ad 0))]) ?_ _ (0, 0, 0) _ ⟨rfl, (by omega), ofI_0.symm, rfl, lv_sub hl [0, 1, 2, 3, 4, 5, 6, 7, 8, 9] rfl⟩
        intro kj x ls hI ihj
        obtain ⟨k0, z, pl⟩ := x
        obtain ⟨hkj, hk0, hz, hpl, hl⟩ := hI
        have hkj : kj = 9 - k0 := hkj
        have hk0 : k0 ≤ 9 := hk0
        have hz : z = Int64.ofInt (sm k0 (mnF 9 (fun i9 k9 => MA (skp r0 i9) (skp q0 k9)) S0 P0)) := hz
        have hpl : pl = cb S0.testBit k0 := hpl
        have hl : lv_has ls 13 [(10, .int (nI k0)), (9, .int (nI pl)), (7, .long z), (6, .int (nI (9 * skp r0 P0))), (5, .int (nI P0)), (4, .int (nI S0)), (3, .int (nI 9)), (2, .int (nI q0)), (1, .int (nI r0)), (0, .ref (ad 0))] := hl
        have hpk := cb_le S0.testBit k0
        refine lv_iload hx hb dX3_determinantWithout_91 (lv_at hl 0 rfl) ?_
        refine lv_iload_n hx hb dX3_determinantWithout_93 rfl (lv_at hl 6 rfl) ?_
        refine wn_icmp_ge (tgt := 180) hx hb dX3_determinantWithout_94 (by decide) (by omega) (by omega) (fun c8 => ?_) (fun c8 => ?_)
        · refine lv_aload_n hx hb dX3_determinantWithout_180 rfl (lv_at hl 9 rfl) ?_
          refine va_get (D := dd) (ci := 5) (v := .ref (ad 7)) (C := RX3) (T := TX3) (N := 15) hx hb hts (fun _ h9 => List.mem_cons_of_mem _ (List.mem_append_left _ (List.mem_append_right _ h9))) hown hK hP 0 (wM_0 cy ad u1 X) rfl 8 (by decide) (hts (Cond.fieldLink RX3 30 "HeadGridModel" "minor" "[J") (List.mem_of_getElem? (i := 1) rfl)) (fun _ h9 => h9) rfl dX3_determinantWithout_181 ?_
          refine lv_iload hx hb dX3_determinantWithout_184 (lv_at hl 5 rfl) ?_
          refine lv_lload hx hb dX3_determinantWithout_186 (lv_at hl 2 rfl) ?_
          refine wa_last hx hb hK hP hD hS (wM_7 cy ad u1 X) (t0 := 1) rfl (i := S0) (by omega) (by decide) dX3_determinantWithout_188 (wM_s7 cy ad u1 X _) (fun H locs hP hD hS => ?_)
          obtain ⟨us9, hus9⟩ : ∃ z9z : MS, z9z = (u1.1, u1.2.1, va_up u1.2.2.1 7 (vp_updL (u1.2.2.1 7) S0 z), u1.2.2.2) := ⟨_, rfl⟩
          rw [← hus9] at hP hD
          have pus9_s : us9.2.2.1 7 = (vp_updL (u1.2.2.1 7) S0 z) := by rw [hus9]; rfl
          have pus9_o : ∀ j9, j9 ≠ 7 → us9.2.2.1 j9 = u1.2.2.1 j9 := fun j9 h9 => by rw [hus9]; exact va_up_n h9
          have pus9_1 : us9.1 = u1.1 := by rw [hus9]
          have pus9_21 : us9.2.1 = u1.2.1 := by rw [hus9]
          have pus9_222 : us9.2.2.2 = u1.2.2.2 := by rw [hus9]
          refine lv_iinc (v := (nI (S0 + 1))) (lv' := [(4, .int (nI (S0 + 1))), (10, .int (nI k0)), (9, .int (nI pl)), (7, .long z), (6, .int (nI (9 * skp r0 P0))), (5, .int (nI P0)), (3, .int (nI 9)), (2, .int (nI q0)), (1, .int (nI r0)), (0, .ref (ad 0))]) hx hb dX3_determinantWithout_189 hl (k := 5) rfl (nI_1 _) (by decide) rfl (fun ls hl => ?_)
          refine lv_goto (tgt := 24) hx hb dX3_determinantWithout_192 (by decide) ?_
          exact iho (2 ^ 9 - (S0 + 1)) (S0 + 1, us9) _ _ ls (by omega) ⟨rfl, (by omega), (by omega), (frJ_set hF (by decide) hus9), (by rw [pus9_s]; exact mnI_next hm hP0 (by rw [hz, show k0 = 9 by omega])), hP, hD, hS, lv_sub hl [0, 6, 7, 8, 9] rfl⟩
        · refine lv_iload hx hb dX3_determinantWithout_97 (lv_at hl 5 rfl) ?_
          refine lv_iload hx hb dX3_determinantWithout_99 (lv_at hl 0 rfl) ?_
          refine lv_ishr hx hb dX3_determinantWithout_101 ?_
          refine lv_iconst (v := nI 1) hx hb dX3_determinantWithout_102 (by decide) ?_
          refine lv_iand hx hb dX3_determinantWithout_103 ?_
          refine lv_iconst (v := nI 1) hx hb dX3_determinantWithout_104 (by decide) ?_
          refine lv_icmp_ne (tgt := 174) hx hb dX3_determinantWithout_105 (by decide) (fun cB => ?_) (fun cB => ?_)
          · refine lv_iinc (v := (nI (k0 + 1))) (lv' := [(10, .int (nI (k0 + 1))), (9, .int (nI pl)), (7, .long z), (6, .int (nI (9 * skp r0 P0))), (5, .int (nI P0)), (4, .int (nI S0)), (3, .int (nI 9)), (2, .int (nI q0)), (1, .int (nI r0)), (0, .ref (ad 0))]) hx hb dX3_determinantWithout_174 hl (k := 0) rfl (nI_1 _) (by decide) rfl (fun ls hl => ?_)
            refine lv_goto (tgt := 91) hx hb dX3_determinantWithout_177 (by decide) ?_
            exact ihj (9 - (k0 + 1)) (k0 + 1, z, pl) ls (by omega) ⟨rfl, (by omega), (by rw [hz, mn_skip (by simpa using fun q => cB ((bit1 (by omega) (by omega)).mpr q))]), (by rw [hpl, cb, show S0.testBit k0 = false by simpa using fun q => cB ((bit1 (by omega) (by omega)).mpr q)]; rfl), lv_sub hl [0, 1, 2, 3, 4, 5, 6, 7, 8, 9] rfl⟩
          · have hbt : S0.testBit k0 = true := (bit1 (by omega) (by omega)).mp cB
            have hsk : skp q0 k0 < 9 := skp_lt (n := 9) (by omega) (by omega)
            refine lv_aload_n hx hb dX3_determinantWithout_108 rfl (lv_at hl 9 rfl) ?_
            refine va_get (D := dd) (ci := 5) (v := .ref (ad 5)) (C := RX3) (T := TX3) (N := 15) hx hb hts (fun _ h9 => List.mem_cons_of_mem _ (List.mem_append_left _ (List.mem_append_right _ h9))) hown hK hP 0 (wM_0 cy ad u1 X) rfl 6 (by decide) (hts (Cond.fieldLink RX3 23 "HeadGridModel" "matrix" "[J") (List.mem_of_getElem? (i := 2) rfl)) (fun _ h9 => h9) rfl dX3_determinantWithout_109 ?_
            refine lv_iload hx hb dX3_determinantWithout_112 (lv_at hl 3 rfl) ?_
            refine lv_iload hx hb dX3_determinantWithout_114 (lv_at hl 0 rfl) ?_
            refine lv_iload_n hx hb dX3_determinantWithout_116 rfl (lv_at hl 7 rfl) ?_
            refine wn_icmp_ge (tgt := 125) hx hb dX3_determinantWithout_117 (by decide) (by omega) (by omega) (fun cC => ?_) (fun cC => ?_)
            · refine lv_iload hx hb dX3_determinantWithout_125 (lv_at hl 0 rfl) ?_
              refine lv_iconst (v := nI 1) hx hb dX3_determinantWithout_127 (by decide) ?_
              refine wn_iadd hx hb dX3_determinantWithout_128 ?_
              refine lv_topi (fun y10 ey10 => ?_)
              have ey10 : y10 = (nI (skp q0 k0)) := ey10.trans (congrArg nI (by rw [skp_hi (by omega)]))
              subst ey10
              refine wn_iadd hx hb dX3_determinantWithout_129 ?_
              refine wa_lald hx hb hK hP (wM_5 cy ad u1 X) (t0 := 1) rfl (i := (9 * skp r0 P0) + (skp q0 k0)) (by omega) (by decide) dX3_determinantWithout_130 ?_
              refine lv_aload_n hx hb dX3_determinantWithout_131 rfl (lv_at hl 9 rfl) ?_
              refine va_get (D := dd) (ci := 5) (v := .ref (ad 7)) (C := RX3) (T := TX3) (N := 15) hx hb hts (fun _ h9 => List.mem_cons_of_mem _ (List.mem_append_left _ (List.mem_append_right _ h9))) hown hK hP 0 (wM_0 cy ad u1 X) rfl 8 (by decide) (hts (Cond.fieldLink RX3 30 "HeadGridModel" "minor" "[J") (List.mem_of_getElem? (i := 1) rfl)) (fun _ h9 => h9) rfl dX3_determinantWithout_132 ?_
              refine lv_iload hx hb dX3_determinantWithout_135 (lv_at hl 5 rfl) ?_
              refine lv_iconst (v := nI 1) hx hb dX3_determinantWithout_137 (by decide) ?_
              refine lv_iload hx hb dX3_determinantWithout_138 (lv_at hl 0 rfl) ?_
              refine lv_ishl hx hb dX3_determinantWithout_140 ?_
              refine lv_iconst (v := -1) hx hb dX3_determinantWithout_141 i32_m1 ?_
              refine lv_ixor hx hb dX3_determinantWithout_142 ?_
              refine lv_iand hx hb dX3_determinantWithout_143 ?_
              refine lv_topi (fun y11 ey11 => ?_)
              have ey11 : y11 = (nI (S0 ^^^ 2 ^ k0)) := ey11.trans (clr9 S0 (by omega) k0 (by omega) hbt).1
              subst ey11
              refine wa_lald hx hb hK hP (wM_7 cy ad u1 X) (t0 := 1) rfl (i := S0 ^^^ 2 ^ k0) (Nat.lt_trans (clr9 S0 (by omega) k0 (by omega) hbt).2 (by omega)) (by decide) dX3_determinantWithout_144 ?_
              refine lv_lmul hx hb dX3_determinantWithout_145 ?_
              refine lv_topl (fun x12 ex12 => ?_)
              refine lv_lstore (lv' := [(11, .long x12), (10, .int (nI k0)), (9, .int (nI pl)), (7, .long z), (6, .int (nI (9 * skp r0 P0))), (5, .int (nI P0)), (4, .int (nI S0)), (3, .int (nI 9)), (2, .int (nI q0)), (1, .int (nI r0)), (0, .ref (ad 0))]) hx hb dX3_determinantWithout_146 hl (by decide) rfl (fun ls hl => ?_)
              have hx11 : x12 = Int64.ofInt (MA (skp r0 P0) (skp q0 k0)) * u1.2.2.1 7 (S0 ^^^ 2 ^ k0) := by rw [ex12, hF.2.2.2 5 (by decide), hM _ hsr _ hsk]
              refine lv_lload hx hb dX3_determinantWithout_148 (lv_at hl 3 rfl) ?_
              refine lv_iload hx hb dX3_determinantWithout_150 (lv_at hl 5 rfl) ?_
              refine lv_iload hx hb dX3_determinantWithout_152 (lv_at hl 2 rfl) ?_
              refine wn_iadd hx hb dX3_determinantWithout_154 ?_
              refine lv_iconst (v := nI 2) hx hb dX3_determinantWithout_155 (by decide) ?_
              refine wn_irem hx hb dX3_determinantWithout_156 (by omega) (by omega) (by omega) ?_
              refine wn_if_ne (tgt := 165) hx hb dX3_determinantWithout_157 (by decide) (by omega) (fun cP => ?_) (fun cP => ?_)
              · refine lv_lload hx hb dX3_determinantWithout_165 (lv_at hl 0 rfl) ?_
                refine lv_lneg hx hb dX3_determinantWithout_167 ?_
                refine lv_ladd hx hb dX3_determinantWithout_168 ?_
                refine lv_topl (fun x13 ex13 => ?_)
                refine lv_lstore (lv' := [(7, .long x13), (11, .long x12), (10, .int (nI k0)), (9, .int (nI pl)), (6, .int (nI (9 * skp r0 P0))), (5, .int (nI P0)), (4, .int (nI S0)), (3, .int (nI 9)), (2, .int (nI q0)), (1, .int (nI r0)), (0, .ref (ad 0))]) hx hb dX3_determinantWithout_169 hl (by decide) rfl (fun ls hl => ?_)
                refine lv_iinc (v := (nI (pl + 1))) (lv' := [(9, .int (nI (pl + 1))), (7, .long x13), (11, .long x12), (10, .int (nI k0)), (6, .int (nI (9 * skp r0 P0))), (5, .int (nI P0)), (4, .int (nI S0)), (3, .int (nI 9)), (2, .int (nI q0)), (1, .int (nI r0)), (0, .ref (ad 0))]) hx hb dX3_determinantWithout_171 hl (k := 3) rfl (nI_1 _) (by decide) rfl (fun ls hl => ?_)
                refine lv_iinc (v := (nI (k0 + 1))) (lv' := [(10, .int (nI (k0 + 1))), (9, .int (nI (pl + 1))), (7, .long x13), (11, .long x12), (6, .int (nI (9 * skp r0 P0))), (5, .int (nI P0)), (4, .int (nI S0)), (3, .int (nI 9)), (2, .int (nI q0)), (1, .int (nI r0)), (0, .ref (ad 0))]) hx hb dX3_determinantWithout_174 hl (k := 3) rfl (nI_1 _) (by decide) rfl (fun ls hl => ?_)
                refine lv_goto (tgt := 91) hx hb dX3_determinantWithout_177 (by decide) ?_
                exact ihj (9 - (k0 + 1)) (k0 + 1, x13, pl + 1) ls (by omega) ⟨rfl, (by omega), (by rw [ex13]; exact (mn_take (by omega) hbt hm hP0 (clr9 S0 (by omega) k0 (by omega) hbt).2 hz hx11).2 (by rw [← hpl]; exact cP)), (by rw [hpl, cb, hbt]; rfl), lv_sub hl [0, 1, 2, 4, 5, 6, 7, 8, 9, 10] rfl⟩
              · refine lv_lload hx hb dX3_determinantWithout_160 (lv_at hl 0 rfl) ?_
                refine lv_goto (tgt := 168) hx hb dX3_determinantWithout_162 (by decide) ?_
                refine lv_ladd hx hb dX3_determinantWithout_168 ?_
                refine lv_topl (fun x14 ex14 => ?_)
                refine lv_lstore (lv' := [(7, .long x14), (11, .long x12), (10, .int (nI k0)), (9, .int (nI pl)), (6, .int (nI (9 * skp r0 P0))), (5, .int (nI P0)), (4, .int (nI S0)), (3, .int (nI 9)), (2, .int (nI q0)), (1, .int (nI r0)), (0, .ref (ad 0))]) hx hb dX3_determinantWithout_169 hl (by decide) rfl (fun ls hl => ?_)
                refine lv_iinc (v := (nI (pl + 1))) (lv' := [(9, .int (nI (pl + 1))), (7, .long x14), (11, .long x12), (10, .int (nI k0)), (6, .int (nI (9 * skp r0 P0))), (5, .int (nI P0)), (4, .int (nI S0)), (3, .int (nI 9)), (2, .int (nI q0)), (1, .int (nI r0)), (0, .ref (ad 0))]) hx hb dX3_determinantWithout_171 hl (k := 3) rfl (nI_1 _) (by decide) rfl (fun ls hl => ?_)
                refine lv_iinc (v := (nI (k0 + 1))) (lv' := [(10, .int (nI (k0 + 1))), (9, .int (nI (pl + 1))), (7, .long x14), (11, .long x12), (6, .int (nI (9 * skp r0 P0))), (5, .int (nI P0)), (4, .int (nI S0)), (3, .int (nI 9)), (2, .int (nI q0)), (1, .int (nI r0)), (0, .ref (ad 0))]) hx hb dX3_determinantWithout_174 hl (k := 3) rfl (nI_1 _) (by decide) rfl (fun ls hl => ?_)
                refine lv_goto (tgt := 91) hx hb dX3_determinantWithout_177 (by decide) ?_
                exact ihj (9 - (k0 + 1)) (k0 + 1, x14, pl + 1) ls (by omega) ⟨rfl, (by omega), (by rw [ex14]; exact (mn_take (by omega) hbt hm hP0 (clr9 S0 (by omega) k0 (by omega) hbt).2 hz hx11).1 (by rw [← hpl]; exact cP)), (by rw [hpl, cb, hbt]; rfl), lv_sub hl [0, 1, 2, 4, 5, 6, 7, 8, 9, 10] rfl⟩
            · refine lv_iload hx hb dX3_determinantWithout_120 (lv_at hl 0 rfl) ?_
              refine lv_goto (tgt := 129) hx hb dX3_determinantWithout_122 (by decide) ?_
              refine lv_topi (fun y15 ey15 => ?_)
              have ey15 : y15 = (nI (skp q0 k0)) := ey15.trans (congrArg nI (by rw [skp_lo (by omega)]))
              subst ey15
              refine wn_iadd hx hb dX3_determinantWithout_129 ?_
              refine wa_lald hx hb hK hP (wM_5 cy ad u1 X) (t0 := 1) rfl (i := (9 * skp r0 P0) + (skp q0 k0)) (by omega) (by decide) dX3_determinantWithout_130 ?_
              refine lv_aload_n hx hb dX3_determinantWithout_131 rfl (lv_at hl 9 rfl) ?_
              refine va_get (D := dd) (ci := 5) (v := .ref (ad 7)) (C := RX3) (T := TX3) (N := 15) hx hb hts (fun _ h9 => List.mem_cons_of_mem _ (List.mem_append_left _ (List.mem_append_right _ h9))) hown hK hP 0 (wM_0 cy ad u1 X) rfl 8 (by decide) (hts (Cond.fieldLink RX3 30 "HeadGridModel" "minor" "[J") (List.mem_of_getElem? (i := 1) rfl)) (fun _ h9 => h9) rfl dX3_determinantWithout_132 ?_
              refine lv_iload hx hb dX3_determinantWithout_135 (lv_at hl 5 rfl) ?_
              refine lv_iconst (v := nI 1) hx hb dX3_determinantWithout_137 (by decide) ?_
              refine lv_iload hx hb dX3_determinantWithout_138 (lv_at hl 0 rfl) ?_
              refine lv_ishl hx hb dX3_determinantWithout_140 ?_
              refine lv_iconst (v := -1) hx hb dX3_determinantWithout_141 i32_m1 ?_
              refine lv_ixor hx hb dX3_determinantWithout_142 ?_
              refine lv_iand hx hb dX3_determinantWithout_143 ?_
              refine lv_topi (fun y16 ey16 => ?_)
              have ey16 : y16 = (nI (S0 ^^^ 2 ^ k0)) := ey16.trans (clr9 S0 (by omega) k0 (by omega) hbt).1
              subst ey16
              refine wa_lald hx hb hK hP (wM_7 cy ad u1 X) (t0 := 1) rfl (i := S0 ^^^ 2 ^ k0) (Nat.lt_trans (clr9 S0 (by omega) k0 (by omega) hbt).2 (by omega)) (by decide) dX3_determinantWithout_144 ?_
              refine lv_lmul hx hb dX3_determinantWithout_145 ?_
              refine lv_topl (fun x17 ex17 => ?_)
              refine lv_lstore (lv' := [(11, .long x17), (10, .int (nI k0)), (9, .int (nI pl)), (7, .long z), (6, .int (nI (9 * skp r0 P0))), (5, .int (nI P0)), (4, .int (nI S0)), (3, .int (nI 9)), (2, .int (nI q0)), (1, .int (nI r0)), (0, .ref (ad 0))]) hx hb dX3_determinantWithout_146 hl (by decide) rfl (fun ls hl => ?_)
              have hx11 : x17 = Int64.ofInt (MA (skp r0 P0) (skp q0 k0)) * u1.2.2.1 7 (S0 ^^^ 2 ^ k0) := by rw [ex17, hF.2.2.2 5 (by decide), hM _ hsr _ hsk]
              refine lv_lload hx hb dX3_determinantWithout_148 (lv_at hl 3 rfl) ?_
              refine lv_iload hx hb dX3_determinantWithout_150 (lv_at hl 5 rfl) ?_
              refine lv_iload hx hb dX3_determinantWithout_152 (lv_at hl 2 rfl) ?_
              refine wn_iadd hx hb dX3_determinantWithout_154 ?_
              refine lv_iconst (v := nI 2) hx hb dX3_determinantWithout_155 (by decide) ?_
              refine wn_irem hx hb dX3_determinantWithout_156 (by omega) (by omega) (by omega) ?_
              refine wn_if_ne (tgt := 165) hx hb dX3_determinantWithout_157 (by decide) (by omega) (fun cP => ?_) (fun cP => ?_)
              · refine lv_lload hx hb dX3_determinantWithout_165 (lv_at hl 0 rfl) ?_
                refine lv_lneg hx hb dX3_determinantWithout_167 ?_
                refine lv_ladd hx hb dX3_determinantWithout_168 ?_
                refine lv_topl (fun x18 ex18 => ?_)
                refine lv_lstore (lv' := [(7, .long x18), (11, .long x17), (10, .int (nI k0)), (9, .int (nI pl)), (6, .int (nI (9 * skp r0 P0))), (5, .int (nI P0)), (4, .int (nI S0)), (3, .int (nI 9)), (2, .int (nI q0)), (1, .int (nI r0)), (0, .ref (ad 0))]) hx hb dX3_determinantWithout_169 hl (by decide) rfl (fun ls hl => ?_)
                refine lv_iinc (v := (nI (pl + 1))) (lv' := [(9, .int (nI (pl + 1))), (7, .long x18), (11, .long x17), (10, .int (nI k0)), (6, .int (nI (9 * skp r0 P0))), (5, .int (nI P0)), (4, .int (nI S0)), (3, .int (nI 9)), (2, .int (nI q0)), (1, .int (nI r0)), (0, .ref (ad 0))]) hx hb dX3_determinantWithout_171 hl (k := 3) rfl (nI_1 _) (by decide) rfl (fun ls hl => ?_)
                refine lv_iinc (v := (nI (k0 + 1))) (lv' := [(10, .int (nI (k0 + 1))), (9, .int (nI (pl + 1))), (7, .long x18), (11, .long x17), (6, .int (nI (9 * skp r0 P0))), (5, .int (nI P0)), (4, .int (nI S0)), (3, .int (nI 9)), (2, .int (nI q0)), (1, .int (nI r0)), (0, .ref (ad 0))]) hx hb dX3_determinantWithout_174 hl (k := 3) rfl (nI_1 _) (by decide) rfl (fun ls hl => ?_)
                refine lv_goto (tgt := 91) hx hb dX3_determinantWithout_177 (by decide) ?_
                exact ihj (9 - (k0 + 1)) (k0 + 1, x18, pl + 1) ls (by omega) ⟨rfl, (by omega), (by rw [ex18]; exact (mn_take (by omega) hbt hm hP0 (clr9 S0 (by omega) k0 (by omega) hbt).2 hz hx11).2 (by rw [← hpl]; exact cP)), (by rw [hpl, cb, hbt]; rfl), lv_sub hl [0, 1, 2, 4, 5, 6, 7, 8, 9, 10] rfl⟩
              · refine lv_lload hx hb dX3_determinantWithout_160 (lv_at hl 0 rfl) ?_
                refine lv_goto (tgt := 168) hx hb dX3_determinantWithout_162 (by decide) ?_
                refine lv_ladd hx hb dX3_determinantWithout_168 ?_
                refine lv_topl (fun x19 ex19 => ?_)
                refine lv_lstore (lv' := [(7, .long x19), (11, .long x17), (10, .int (nI k0)), (9, .int (nI pl)), (6, .int (nI (9 * skp r0 P0))), (5, .int (nI P0)), (4, .int (nI S0)), (3, .int (nI 9)), (2, .int (nI q0)), (1, .int (nI r0)), (0, .ref (ad 0))]) hx hb dX3_determinantWithout_169 hl (by decide) rfl (fun ls hl => ?_)
                refine lv_iinc (v := (nI (pl + 1))) (lv' := [(9, .int (nI (pl + 1))), (7, .long x19), (11, .long x17), (10, .int (nI k0)), (6, .int (nI (9 * skp r0 P0))), (5, .int (nI P0)), (4, .int (nI S0)), (3, .int (nI 9)), (2, .int (nI q0)), (1, .int (nI r0)), (0, .ref (ad 0))]) hx hb dX3_determinantWithout_171 hl (k := 3) rfl (nI_1 _) (by decide) rfl (fun ls hl => ?_)
                refine lv_iinc (v := (nI (k0 + 1))) (lv' := [(10, .int (nI (k0 + 1))), (9, .int (nI (pl + 1))), (7, .long x19), (11, .long x17), (6, .int (nI (9 * skp r0 P0))), (5, .int (nI P0)), (4, .int (nI S0)), (3, .int (nI 9)), (2, .int (nI q0)), (1, .int (nI r0)), (0, .ref (ad 0))]) hx hb dX3_determinantWithout_174 hl (k := 3) rfl (nI_1 _) (by decide) rfl (fun ls hl => ?_)
                refine lv_goto (tgt := 91) hx hb dX3_determinantWithout_177 (by decide) ?_
                exact ihj (9 - (k0 + 1)) (k0 + 1, x19, pl + 1) ls (by omega) ⟨rfl, (by omega), (by rw [ex19]; exact (mn_take (by omega) hbt hm hP0 (clr9 S0 (by omega) k0 (by omega) hbt).2 hz hx11).1 (by rw [← hpl]; exact cP)), (by rw [hpl, cb, hbt]; rfl), lv_sub hl [0, 1, 2, 4, 5, 6, 7, 8, 9, 10] rfl⟩
    · refine lv_iload hx hb dX3_determinantWithout_44 (lv_at hl 1 rfl) ?_
      refine lv_iload hx hb dX3_determinantWithout_46 (lv_at hl 2 rfl) ?_
      refine lv_iload hx hb dX3_determinantWithout_48 (lv_at hl 0 rfl) ?_
      refine lv_ishr hx hb dX3_determinantWithout_50 ?_
      refine lv_iconst (v := nI 1) hx hb dX3_determinantWithout_51 (by decide) ?_
      refine lv_iand hx hb dX3_determinantWithout_52 ?_
      refine lv_iadd hx hb dX3_determinantWithout_53 ?_
      refine lv_topi (fun x20 ex20 => ?_)
      refine lv_istore (lv' := [(5, .int x20), (6, .int (nI k0)), (4, .int (nI S0)), (3, .int (nI 9)), (2, .int (nI q0)), (1, .int (nI r0)), (0, .ref (ad 0))]) hx hb dX3_determinantWithout_54 hl (by decide) rfl (fun ls hl => ?_)
      refine lv_iinc (v := (nI (k0 + 1))) (lv' := [(6, .int (nI (k0 + 1))), (5, .int x20), (4, .int (nI S0)), (3, .int (nI 9)), (2, .int (nI q0)), (1, .int (nI r0)), (0, .ref (ad 0))]) hx hb dX3_determinantWithout_56 hl (k := 1) rfl (nI_1 _) (by decide) rfl (fun ls hl => ?_)
      refine lv_goto (tgt := 38) hx hb dX3_determinantWithout_59 (by decide) ?_
      exact ihi (9 - (k0 + 1)) (k0 + 1, x20) ls (by omega) ⟨rfl, (by omega), (by rw [ex20, bit9 S0 (by omega) k0 (by omega), hx5, nI_m1, cb]), lv_sub hl [0, 1, 2, 3, 4, 5, 6] rfl⟩
set_option maxHeartbeats 4000000 in
set_option maxRecDepth 100000 in
/-- determinantWithout(row, column) -/
theorem c_X3_determinantWithout_8 (l : Launch) (dd : va_G) (cy : Nat → ClassId) (ad : Nat → Nat) (X : va_W) (u : MS) (sz : Nat) (MA : Nat → Nat → Int) (r0 q0 : Nat) (h0 : r0 < 9 ∧ q0 < 9) (hM : ∀ i, i < 9 → ∀ j, j < 9 → u.2.2.1 5 (9 * i + j) = Int64.ofInt (MA i j)) : Met l yX3_determinantWithout wsX3_determinantWithout ({ frames := 0, cells := 0, slots := 0, locals := 0 }) (va_Pc [.ref (ad 0), .int (nI r0), .int (nI q0)] (wrW dd cy (wM cy ad u ++ X) sz)) (va_Ql (fun r u9 => frJ [7] u u9 ∧ r = Int64.ofInt (dW 8 (fun i9 k9 => MA (skp r0 i9) (skp q0 k9)) 8 (fun _ => true))) (wB dd cy (fun u9 : MS => wM cy ad u9 ++ X) (va_A (wM cy ad u ++ X) sz)) (va_A (wM cy ad u ++ X) sz)) 0 0 (va_A (wM cy ad u ++ X) sz) := by
  refine Met.ofW (cc := cX3_determinantWithout) (maxL := 13) (ret := (some .long)) (by decide) rfl ?_
  intro p e s m args below meth c s₁ B hml hv
  obtain ⟨rfl, hsz, hP, hK, hD0⟩ := hv
  have hx := B.exec
  have hb := B.bytes
  have hr := B.returns
  have hts := atoms_spec (ws := wsX3_determinantWithout) B.pre
  have hown : s.vm.findClass RX3 = some m.cls := findClass_of_methodNamed B.named
  have hlocks := B.notSynchronized
  subst hsz
  have hD := hD0.self (sz := s.heap.size)
  generalize hAe : va_A (wM cy ad u ++ X) s.heap.size = A at hD ⊢
  have hA : ∀ q : Nat, s.heap.size ≤ q → A q := fun q h => by rw [← hAe]; exact Or.inr h
  have hS : va_S A s.heap s.heap [] := va_S.rf
  have hl := lv_entry ([.ref (ad 0), .int (nI r0), .int (nI q0)]) (n := 13) (Nat.le_of_ble_eq_true rfl)
  rw [lg_entry_eq]
  generalize (lg_sl ([.ref (ad 0), .int (nI r0), .int (nI q0)]) ++ List.replicate (13 - (lg_sl ([.ref (ad 0), .int (nI r0), .int (nI q0)])).length) Slot.unset).toArray = ls at hl ⊢
  have hl : lv_has ls 13 [(0, .ref (ad 0)), (1, .int (nI r0)), (2, .int (nI q0))] := hl
  refine lv_iload_n hx hb dX3_determinantWithout_0 rfl (lv_at hl 1 rfl) ?_
  refine lv_bipush (v := nI 9) hx hb dX3_determinantWithout_1 (by decide) ?_
  refine wn_icmp_ne (tgt := 11) hx hb dX3_determinantWithout_3 (by decide) (by omega) (by omega) (fun _ => ?_) (fun cR => (by first | exact absurd (show ¬ r0 = 9 from by omega) cR | exact absurd cR (show ¬ r0 = 9 from by omega)))
  refine lv_bipush (v := nI 8) hx hb dX3_determinantWithout_11 (by decide) ?_
  refine lv_istore_n (lv' := [(3, .int (nI 8)), (0, .ref (ad 0)), (1, .int (nI r0)), (2, .int (nI q0))]) hx hb dX3_determinantWithout_13 rfl hl (by decide) rfl (fun ls hl => ?_)
  refine lv_aload_n hx hb dX3_determinantWithout_14 rfl (lv_at hl 1 rfl) ?_
  refine va_get (D := dd) (ci := 5) (v := .ref (ad 7)) (C := RX3) (T := TX3) (N := 15) hx hb hts (fun _ h9 => List.mem_cons_of_mem _ (List.mem_append_left _ (List.mem_append_right _ h9))) hown hK hP 0 (wM_0 cy ad u X) rfl 8 (by decide) (hts (Cond.fieldLink RX3 30 "HeadGridModel" "minor" "[J") (List.mem_of_getElem? (i := 1) rfl)) (fun _ h9 => h9) rfl dX3_determinantWithout_15 ?_
  refine lv_iconst (v := nI 0) hx hb dX3_determinantWithout_18 (by decide) ?_
  refine lv_lconst (v := 1) hx hb dX3_determinantWithout_19 rfl ?_
  refine wa_last hx hb hK hP hD hS (wM_7 cy ad u X) (t0 := 1) rfl (i := 0) (by omega) (by decide) dX3_determinantWithout_20 (wM_s7 cy ad u X _) (fun H locs hP hD hS => ?_)
  obtain ⟨us1, hus1⟩ : ∃ z9z : MS, z9z = (u.1, u.2.1, va_up u.2.2.1 7 (vp_updL (u.2.2.1 7) 0 1), u.2.2.2) := ⟨_, rfl⟩
  rw [← hus1] at hP hD
  have pus1_s : us1.2.2.1 7 = (vp_updL (u.2.2.1 7) 0 1) := by rw [hus1]; rfl
  have pus1_o : ∀ j9, j9 ≠ 7 → us1.2.2.1 j9 = u.2.2.1 j9 := fun j9 h9 => by rw [hus1]; exact va_up_n h9
  have pus1_1 : us1.1 = u.1 := by rw [hus1]
  have pus1_21 : us1.2.1 = u.2.1 := by rw [hus1]
  have pus1_222 : us1.2.2.2 = u.2.2.2 := by rw [hus1]
  refine lv_iconst (v := nI 1) hx hb dX3_determinantWithout_21 (by decide) ?_
  refine lv_istore (lv' := [(4, .int (nI 1)), (3, .int (nI 8)), (0, .ref (ad 0)), (1, .int (nI r0)), (2, .int (nI q0))]) hx hb dX3_determinantWithout_22 hl (by decide) rfl (fun ls hl => ?_)
  refine wLoop (σ := Nat × MS) (fun k x H locs ls => k = 2 ^ 8 - x.1 ∧ (1 ≤ x.1) ∧ (x.1 ≤ 2 ^ 8) ∧ (frJ [7] u x.2) ∧ (mnI 8 (fun i9 k9 => MA (skp r0 i9) (skp q0 k9)) x.1 (x.2.2.2.1 7)) ∧ va_P dd vwCl (wM cy ad x.2 ++ X) H ∧ va_D A (wM cy ad x.2 ++ X) ∧ va_S A s.heap H locs ∧ lv_has ls 13 [(4, .int (nI x.1)), (3, .int (nI 8)), (2, .int (nI q0)), (1, .int (nI r0)), (0, .ref (ad 0))]) ?_ _ (1, us1) _ _ _ ⟨rfl, (by omega), (by omega), (frJ_set frJ_rf (by decide) hus1), (fun T9 h9 => by rw [pus1_s, show T9 = 0 by omega]; unfold vp_updL; rw [if_pos rfl, show (Nat.testBit 0) = (fun _ => false) from funext Nat.zero_testBit, cb_none, dW]; exact ofI_1.symm), hP, hD, hS, lv_sub hl [0, 1, 4, 3, 2] rfl⟩
  intro ko x H locs ls hI iho
  obtain ⟨S0, u1⟩ := x
  obtain ⟨hko, hS1, hS2, hF, hm, hP, hD, hS, hl⟩ := hI
  have hko : ko = 2 ^ 8 - S0 := hko
  have hS1 : 1 ≤ S0 := hS1
  have hS2 : S0 ≤ 2 ^ 8 := hS2
  have hF : frJ [7] u u1 := hF
  have hm : mnI 8 (fun i9 k9 => MA (skp r0 i9) (skp q0 k9)) S0 (u1.2.2.1 7) := hm
  have hP : va_P dd vwCl (wM cy ad u1 ++ X) H := hP
  have hD : va_D A (wM cy ad u1 ++ X) := hD
  have hl : lv_has ls 13 [(4, .int (nI S0)), (3, .int (nI 8)), (2, .int (nI q0)), (1, .int (nI r0)), (0, .ref (ad 0))] := hl
  refine lv_iload hx hb dX3_determinantWithout_24 (lv_at hl 0 rfl) ?_
  refine lv_iconst (v := nI 1) hx hb dX3_determinantWithout_26 (by decide) ?_
  refine lv_iload_n hx hb dX3_determinantWithout_27 rfl (lv_at hl 1 rfl) ?_
  refine lv_ishl hx hb dX3_determinantWithout_28 ?_
  refine lv_topi (fun y2 ey2 => ?_)
  have ey2 : y2 = (nI (2 ^ 8)) := ey2.trans (shl9 8 (by omega))
  subst ey2
  refine wn_icmp_ge (tgt := 195) hx hb dX3_determinantWithout_29 (by decide) (by omega) (by omega) (fun cW => ?_) (fun cW => ?_)
  · refine lv_aload_n hx hb dX3_determinantWithout_195 rfl (lv_at hl 4 rfl) ?_
    refine va_get (D := dd) (ci := 5) (v := .ref (ad 7)) (C := RX3) (T := TX3) (N := 15) hx hb hts (fun _ h9 => List.mem_cons_of_mem _ (List.mem_append_left _ (List.mem_append_right _ h9))) hown hK hP 0 (wM_0 cy ad u1 X) rfl 8 (by decide) (hts (Cond.fieldLink RX3 30 "HeadGridModel" "minor" "[J") (List.mem_of_getElem? (i := 1) rfl)) (fun _ h9 => h9) rfl dX3_determinantWithout_196 ?_
    refine lv_iconst (v := nI 1) hx hb dX3_determinantWithout_199 (by decide) ?_
    refine lv_iload_n hx hb dX3_determinantWithout_200 rfl (lv_at hl 1 rfl) ?_
    refine lv_ishl hx hb dX3_determinantWithout_201 ?_
    refine lv_topi (fun y3 ey3 => ?_)
    have ey3 : y3 = (nI (2 ^ 8)) := ey3.trans (shl9 8 (by omega))
    subst ey3
    refine lv_iconst (v := nI 1) hx hb dX3_determinantWithout_202 (by decide) ?_
    refine wn_isub hx hb dX3_determinantWithout_203 (by omega) ?_
    refine wa_lald hx hb hK hP (wM_7 cy ad u1 X) (t0 := 1) rfl (i := (2 ^ 8) - 1) (by omega) (by decide) dX3_determinantWithout_204 ?_
    exact W.lret (v := u1.2.2.1 7 ((2 ^ 8) - 1)) hx hb hr (fun t ht hW => ⟨⟨u1.2.2.1 7 ((2 ^ 8) - 1), u1, rfl, ⟨hF, mn_last (by rw [show S0 = 2 ^ 8 by omega] at hm; exact hm)⟩, by rw [ht]; exact hP, va_K.moved hW.alike hK, hD⟩, hS.F ht⟩) hS.2.2 dX3_determinantWithout_205
  · refine lv_iconst (v := -1) hx hb dX3_determinantWithout_32 i32_m1 ?_
    refine lv_istore (lv' := [(5, .int (-1)), (4, .int (nI S0)), (3, .int (nI 8)), (2, .int (nI q0)), (1, .int (nI r0)), (0, .ref (ad 0))]) hx hb dX3_determinantWithout_33 hl (by decide) rfl (fun ls hl => ?_)
    refine lv_iconst (v := nI 0) hx hb dX3_determinantWithout_35 (by decide) ?_
    refine lv_istore (lv' := [(6, .int (nI 0)), (5, .int (-1)), (4, .int (nI S0)), (3, .int (nI 8)), (2, .int (nI q0)), (1, .int (nI r0)), (0, .ref (ad 0))]) hx hb dX3_determinantWithout_36 hl (by decide) rfl (fun ls hl => ?_)
    refine wLoopR (σ := Nat × Int32) (fun k x ls => k = 8 - x.1 ∧ (x.1 ≤ 8) ∧ (x.2 = nI (cb S0.testBit x.1) + (-1)) ∧ lv_has ls 13 [(6, .int (nI x.1)), (5, .int x.2), (4, .int (nI S0)), (3, .int (nI 8)), (2, .int (nI q0)), (1, .int (nI r0)), (0, .ref (ad 0))]) ?_ _ (0, (-1)) _ ⟨rfl, (by omega), (Int32.zero_add (-1)).symm, lv_sub hl [0, 1, 2, 3, 4, 5, 6] rfl⟩
    intro ki x ls hI ihi
    obtain ⟨k0, x⟩ := x
    obtain ⟨hki, hk0, hx5, hl⟩ := hI
    have hki : ki = 8 - k0 := hki
    have hk0 : k0 ≤ 8 := hk0
    have hx5 : x = nI (cb S0.testBit k0) + (-1) := hx5
    have hl : lv_has ls 13 [(6, .int (nI k0)), (5, .int x), (4, .int (nI S0)), (3, .int (nI 8)), (2, .int (nI q0)), (1, .int (nI r0)), (0, .ref (ad 0))] := hl
    refine lv_iload hx hb dX3_determinantWithout_38 (lv_at hl 0 rfl) ?_
    refine lv_iload_n hx hb dX3_determinantWithout_40 rfl (lv_at hl 3 rfl) ?_
    refine wn_icmp_ge (tgt := 62) hx hb dX3_determinantWithout_41 (by decide) (by omega) (by omega) (fun c4 => ?_) (fun c4 => ?_)
    · have hpc := cb_nat hS1 (show S0 < 2 ^ 8 by omega)
      obtain ⟨P0, hP0⟩ : ∃ P0, cb S0.testBit 8 = P0 + 1 := ⟨cb S0.testBit 8 - 1, by omega⟩
      have hPn := cb_le S0.testBit 8
      have hx5 : x = nI P0 := by rw [hx5, show k0 = 8 by omega, hP0, pk_m1]
      subst hx5
      have hl : lv_has ls 13 [(6, .int (nI k0)), (5, .int (nI P0)), (4, .int (nI S0)), (3, .int (nI 8)), (2, .int (nI q0)), (1, .int (nI r0)), (0, .ref (ad 0))] := hl
      refine wCut (pc2 := 82) (fun ls => lv_has ls 13 [(6, .int (nI (9 * skp r0 P0))), (5, .int (nI P0)), (4, .int (nI S0)), (3, .int (nI 8)), (2, .int (nI q0)), (1, .int (nI r0)), (0, .ref (ad 0))]) (fun K5 => ?_) (fun ls hl => ?_)
      · refine lv_bipush (v := nI 9) hx hb dX3_determinantWithout_62 (by decide) ?_
        refine lv_iload hx hb dX3_determinantWithout_64 (lv_at hl 1 rfl) ?_
        refine lv_iload_n hx hb dX3_determinantWithout_66 rfl (lv_at hl 5 rfl) ?_
        refine wn_icmp_ge (tgt := 75) hx hb dX3_determinantWithout_67 (by decide) (by omega) (by omega) (fun cS => ?_) (fun cS => ?_)
        · refine lv_iload hx hb dX3_determinantWithout_75 (lv_at hl 1 rfl) ?_
          refine lv_iconst (v := nI 1) hx hb dX3_determinantWithout_77 (by decide) ?_
          refine wn_iadd hx hb dX3_determinantWithout_78 ?_
          refine wn_imul hx hb dX3_determinantWithout_79 ?_
          refine lv_topi (fun y6 ey6 => ?_)
          have ey6 : y6 = (nI (9 * skp r0 P0)) := ey6.trans (congrArg nI (by rw [skp_hi (by omega)]))
          subst ey6
          refine lv_istore (lv' := [(6, .int (nI (9 * skp r0 P0))), (5, .int (nI P0)), (4, .int (nI S0)), (3, .int (nI 8)), (2, .int (nI q0)), (1, .int (nI r0)), (0, .ref (ad 0))]) hx hb dX3_determinantWithout_80 hl (by decide) rfl (fun ls hl => ?_)
          exact K5 ls (lv_sub hl [0, 1, 2, 3, 4, 5, 6] rfl)
        · refine lv_iload hx hb dX3_determinantWithout_70 (lv_at hl 1 rfl) ?_
          refine lv_goto (tgt := 79) hx hb dX3_determinantWithout_72 (by decide) ?_
          refine wn_imul hx hb dX3_determinantWithout_79 ?_
          refine lv_topi (fun y7 ey7 => ?_)
          have ey7 : y7 = (nI (9 * skp r0 P0)) := ey7.trans (congrArg nI (by rw [skp_lo (by omega)]))
          subst ey7
          refine lv_istore (lv' := [(6, .int (nI (9 * skp r0 P0))), (5, .int (nI P0)), (4, .int (nI S0)), (3, .int (nI 8)), (2, .int (nI q0)), (1, .int (nI r0)), (0, .ref (ad 0))]) hx hb dX3_determinantWithout_80 hl (by decide) rfl (fun ls hl => ?_)
          exact K5 ls (lv_sub hl [0, 1, 2, 3, 4, 5, 6] rfl)
      · have hsr : skp r0 P0 < 9 := skp_lt (n := 8) (by omega) (by omega)
        refine lv_lconst (v := 0) hx hb dX3_determinantWithout_82 rfl ?_
        refine lv_lstore (lv' := [(7, .long 0), (6, .int (nI (9 * skp r0 P0))), (5, .int (nI P0)), (4, .int (nI S0)), (3, .int (nI 8)), (2, .int (nI q0)), (1, .int (nI r0)), (0, .ref (ad 0))]) hx hb dX3_determinantWithout_83 hl (by decide) rfl (fun ls hl => ?_)
        refine lv_iconst (v := nI 0) hx hb dX3_determinantWithout_85 (by decide) ?_
        refine lv_istore (lv' := [(9, .int (nI 0)), (7, .long 0), (6, .int (nI (9 * skp r0 P0))), (5, .int (nI P0)), (4, .int (nI S0)), (3, .int (nI 8)), (2, .int (nI q0)), (1, .int (nI r0)), (0, .ref (ad 0))]) hx hb dX3_determinantWithout_86 hl (by decide) rfl (fun ls hl => ?_)
        refine lv_iconst (v := nI 0) hx hb dX3_determinantWithout_88 (by decide) ?_
        refine lv_istore (lv' := [(10, .int (nI 0)), (9, .int (nI 0)), (7, .long 0), (6, .int (nI (9 * skp r0 P0))), (5, .int (nI P0)), (4, .int (nI S0)), (3, .int (nI 8)), (2, .int (nI q0)), (1, .int (nI r0)), (0, .ref (ad 0))]) hx hb dX3_determinantWithout_89 hl (by decide) rfl (fun ls hl => ?_)
        refine wLoopR (σ := Nat × Int64 × Nat) (fun k x ls => k = 8 - x.1 ∧ (x.1 ≤ 8) ∧ (x.2.1 = Int64.ofInt (sm x.1 (mnF 8 (fun i9 k9 => MA (skp r0 i9) (skp q0 k9)) S0 P0))) ∧ (x.2.2 = cb S0.testBit x.1) ∧ lv_has ls 13 [(10, .int (nI x.1)), (9, .int (nI x.2.2)), (7, .long x.2.1), (6, .int (nI (9 * skp r0 P0))), (5, .int (nI P0)), (4, .int (nI S0)), (3, .int (nI 8)), (2, .int (nI q0)), (1, .int (nI r0)), (0, .ref (ad 0))]) ?_ _ (0, 0, 0) _ ⟨rfl, (by omega), ofI_0.symm, rfl, lv_sub hl [0, 1, 2, 3, 4, 5, 6, 7, 8, 9] rfl⟩
        intro kj x ls hI ihj
        obtain ⟨k0, z, pl⟩ := x
        obtain ⟨hkj, hk0, hz, hpl, hl⟩ := hI
        have hkj : kj = 8 - k0 := hkj
        have hk0 : k0 ≤ 8 := hk0
        have hz : z = Int64.ofInt (sm k0 (mnF 8 (fun i9 k9 => MA (skp r0 i9) (skp q0 k9)) S0 P0)) := hz
        have hpl : pl = cb S0.testBit k0 := hpl
        have hl : lv_has ls 13 [(10, .int (nI k0)), (9, .int (nI pl)), (7, .long z), (6, .int (nI (9 * skp r0 P0))), (5, .int (nI P0)), (4, .int (nI S0)), (3, .int (nI 8)), (2, .int (nI q0)), (1, .int (nI r0)), (0, .ref (ad 0))] := hl
        have hpk := cb_le S0.testBit k0
        refine lv_iload hx hb dX3_determinantWithout_91 (lv_at hl 0 rfl) ?_
        refine lv_iload_n hx hb dX3_determinantWithout_93 rfl (lv_at hl 6 rfl) ?_
        refine wn_icmp_ge (tgt := 180) hx hb dX3_determinantWithout_94 (by decide) (by omega) (by omega) (fun c8 => ?_) (fun c8 => ?_)
        · refine lv_aload_n hx hb dX3_determinantWithout_180 rfl (lv_at hl 9 rfl) ?_
          refine va_get (D := dd) (ci := 5) (v := .ref (ad 7)) (C := RX3) (T := TX3) (N := 15) hx hb hts (fun _ h9 => List.mem_cons_of_mem _ (List.mem_append_left _ (List.mem_append_right _ h9))) hown hK hP 0 (wM_0 cy ad u1 X) rfl 8 (by decide) (hts (Cond.fieldLink RX3 30 "HeadGridModel" "minor" "[J") (List.mem_of_getElem? (i := 1) rfl)) (fun _ h9 => h9) rfl dX3_determinantWithout_181 ?_
          refine lv_iload hx hb dX3_determinantWithout_184 (lv_at hl 5 rfl) ?_
          refine lv_lload hx hb dX3_determinantWithout_186 (lv_at hl 2 rfl) ?_
          refine wa_last hx hb hK hP hD hS (wM_7 cy ad u1 X) (t0 := 1) rfl (i := S0) (by omega) (by decide) dX3_determinantWithout_188 (wM_s7 cy ad u1 X _) (fun H locs hP hD hS => ?_)
          obtain ⟨us9, hus9⟩ : ∃ z9z : MS, z9z = (u1.1, u1.2.1, va_up u1.2.2.1 7 (vp_updL (u1.2.2.1 7) S0 z), u1.2.2.2) := ⟨_, rfl⟩
          rw [← hus9] at hP hD
          have pus9_s : us9.2.2.1 7 = (vp_updL (u1.2.2.1 7) S0 z) := by rw [hus9]; rfl
          have pus9_o : ∀ j9, j9 ≠ 7 → us9.2.2.1 j9 = u1.2.2.1 j9 := fun j9 h9 => by rw [hus9]; exact va_up_n h9
          have pus9_1 : us9.1 = u1.1 := by rw [hus9]
          have pus9_21 : us9.2.1 = u1.2.1 := by rw [hus9]
          have pus9_222 : us9.2.2.2 = u1.2.2.2 := by rw [hus9]
          refine lv_iinc (v := (nI (S0 + 1))) (lv' := [(4, .int (nI (S0 + 1))), (10, .int (nI k0)), (9, .int (nI pl)), (7, .long z), (6, .int (nI (9 * skp r0 P0))), (5, .int (nI P0)), (3, .int (nI 8)), (2, .int (nI q0)), (1, .int (nI r0)), (0, .ref (ad 0))]) hx hb dX3_determinantWithout_189 hl (k := 5) rfl (nI_1 _) (by decide) rfl (fun ls hl => ?_)
          refine lv_goto (tgt := 24) hx hb dX3_determinantWithout_192 (by decide) ?_
          exact iho (2 ^ 8 - (S0 + 1)) (S0 + 1, us9) _ _ ls (by omega) ⟨rfl, (by omega), (by omega), (frJ_set hF (by decide) hus9), (by rw [pus9_s]; exact mnI_next hm hP0 (by rw [hz, show k0 = 8 by omega])), hP, hD, hS, lv_sub hl [0, 6, 7, 8, 9] rfl⟩
        · refine lv_iload hx hb dX3_determinantWithout_97 (lv_at hl 5 rfl) ?_
          refine lv_iload hx hb dX3_determinantWithout_99 (lv_at hl 0 rfl) ?_
          refine lv_ishr hx hb dX3_determinantWithout_101 ?_
          refine lv_iconst (v := nI 1) hx hb dX3_determinantWithout_102 (by decide) ?_
          refine lv_iand hx hb dX3_determinantWithout_103 ?_
          refine lv_iconst (v := nI 1) hx hb dX3_determinantWithout_104 (by decide) ?_
          refine lv_icmp_ne (tgt := 174) hx hb dX3_determinantWithout_105 (by decide) (fun cB => ?_) (fun cB => ?_)
          · refine lv_iinc (v := (nI (k0 + 1))) (lv' := [(10, .int (nI (k0 + 1))), (9, .int (nI pl)), (7, .long z), (6, .int (nI (9 * skp r0 P0))), (5, .int (nI P0)), (4, .int (nI S0)), (3, .int (nI 8)), (2, .int (nI q0)), (1, .int (nI r0)), (0, .ref (ad 0))]) hx hb dX3_determinantWithout_174 hl (k := 0) rfl (nI_1 _) (by decide) rfl (fun ls hl => ?_)
            refine lv_goto (tgt := 91) hx hb dX3_determinantWithout_177 (by decide) ?_
            exact ihj (8 - (k0 + 1)) (k0 + 1, z, pl) ls (by omega) ⟨rfl, (by omega), (by rw [hz, mn_skip (by simpa using fun q => cB ((bit1 (by omega) (by omega)).mpr q))]), (by rw [hpl, cb, show S0.testBit k0 = false by simpa using fun q => cB ((bit1 (by omega) (by omega)).mpr q)]; rfl), lv_sub hl [0, 1, 2, 3, 4, 5, 6, 7, 8, 9] rfl⟩
          · have hbt : S0.testBit k0 = true := (bit1 (by omega) (by omega)).mp cB
            have hsk : skp q0 k0 < 9 := skp_lt (n := 8) (by omega) (by omega)
            refine lv_aload_n hx hb dX3_determinantWithout_108 rfl (lv_at hl 9 rfl) ?_
            refine va_get (D := dd) (ci := 5) (v := .ref (ad 5)) (C := RX3) (T := TX3) (N := 15) hx hb hts (fun _ h9 => List.mem_cons_of_mem _ (List.mem_append_left _ (List.mem_append_right _ h9))) hown hK hP 0 (wM_0 cy ad u1 X) rfl 6 (by decide) (hts (Cond.fieldLink RX3 23 "HeadGridModel" "matrix" "[J") (List.mem_of_getElem? (i := 2) rfl)) (fun _ h9 => h9) rfl dX3_determinantWithout_109 ?_
            refine lv_iload hx hb dX3_determinantWithout_112 (lv_at hl 3 rfl) ?_
            refine lv_iload hx hb dX3_determinantWithout_114 (lv_at hl 0 rfl) ?_
            refine lv_iload_n hx hb dX3_determinantWithout_116 rfl (lv_at hl 7 rfl) ?_
            refine wn_icmp_ge (tgt := 125) hx hb dX3_determinantWithout_117 (by decide) (by omega) (by omega) (fun cC => ?_) (fun cC => ?_)
            · refine lv_iload hx hb dX3_determinantWithout_125 (lv_at hl 0 rfl) ?_
              refine lv_iconst (v := nI 1) hx hb dX3_determinantWithout_127 (by decide) ?_
              refine wn_iadd hx hb dX3_determinantWithout_128 ?_
              refine lv_topi (fun y10 ey10 => ?_)
              have ey10 : y10 = (nI (skp q0 k0)) := ey10.trans (congrArg nI (by rw [skp_hi (by omega)]))
              subst ey10
              refine wn_iadd hx hb dX3_determinantWithout_129 ?_
              refine wa_lald hx hb hK hP (wM_5 cy ad u1 X) (t0 := 1) rfl (i := (9 * skp r0 P0) + (skp q0 k0)) (by omega) (by decide) dX3_determinantWithout_130 ?_
              refine lv_aload_n hx hb dX3_determinantWithout_131 rfl (lv_at hl 9 rfl) ?_
              refine va_get (D := dd) (ci := 5) (v := .ref (ad 7)) (C := RX3) (T := TX3) (N := 15) hx hb hts (fun _ h9 => List.mem_cons_of_mem _ (List.mem_append_left _ (List.mem_append_right _ h9))) hown hK hP 0 (wM_0 cy ad u1 X) rfl 8 (by decide) (hts (Cond.fieldLink RX3 30 "HeadGridModel" "minor" "[J") (List.mem_of_getElem? (i := 1) rfl)) (fun _ h9 => h9) rfl dX3_determinantWithout_132 ?_
              refine lv_iload hx hb dX3_determinantWithout_135 (lv_at hl 5 rfl) ?_
              refine lv_iconst (v := nI 1) hx hb dX3_determinantWithout_137 (by decide) ?_
              refine lv_iload hx hb dX3_determinantWithout_138 (lv_at hl 0 rfl) ?_
              refine lv_ishl hx hb dX3_determinantWithout_140 ?_
              refine lv_iconst (v := -1) hx hb dX3_determinantWithout_141 i32_m1 ?_
              refine lv_ixor hx hb dX3_determinantWithout_142 ?_
              refine lv_iand hx hb dX3_determinantWithout_143 ?_
              refine lv_topi (fun y11 ey11 => ?_)
              have ey11 : y11 = (nI (S0 ^^^ 2 ^ k0)) := ey11.trans (clr9 S0 (by omega) k0 (by omega) hbt).1
              subst ey11
              refine wa_lald hx hb hK hP (wM_7 cy ad u1 X) (t0 := 1) rfl (i := S0 ^^^ 2 ^ k0) (Nat.lt_trans (clr9 S0 (by omega) k0 (by omega) hbt).2 (by omega)) (by decide) dX3_determinantWithout_144 ?_
              refine lv_lmul hx hb dX3_determinantWithout_145 ?_
              refine lv_topl (fun x12 ex12 => ?_)
              refine lv_lstore (lv' := [(11, .long x12), (10, .int (nI k0)), (9, .int (nI pl)), (7, .long z), (6, .int (nI (9 * skp r0 P0))), (5, .int (nI P0)), (4, .int (nI S0)), (3, .int (nI 8)), (2, .int (nI q0)), (1, .int (nI r0)), (0, .ref (ad 0))]) hx hb dX3_determinantWithout_146 hl (by decide) rfl (fun ls hl => ?_)
              have hx11 : x12 = Int64.ofInt (MA (skp r0 P0) (skp q0 k0)) * u1.2.2.1 7 (S0 ^^^ 2 ^ k0) := by rw [ex12, hF.2.2.2 5 (by decide), hM _ hsr _ hsk]
              refine lv_lload hx hb dX3_determinantWithout_148 (lv_at hl 3 rfl) ?_
              refine lv_iload hx hb dX3_determinantWithout_150 (lv_at hl 5 rfl) ?_
              refine lv_iload hx hb dX3_determinantWithout_152 (lv_at hl 2 rfl) ?_
              refine wn_iadd hx hb dX3_determinantWithout_154 ?_
              refine lv_iconst (v := nI 2) hx hb dX3_determinantWithout_155 (by decide) ?_
              refine wn_irem hx hb dX3_determinantWithout_156 (by omega) (by omega) (by omega) ?_
              refine wn_if_ne (tgt := 165) hx hb dX3_determinantWithout_157 (by decide) (by omega) (fun cP => ?_) (fun cP => ?_)
              · refine lv_lload hx hb dX3_determinantWithout_165 (lv_at hl 0 rfl) ?_
                refine lv_lneg hx hb dX3_determinantWithout_167 ?_
                refine lv_ladd hx hb dX3_determinantWithout_168 ?_
                refine lv_topl (fun x13 ex13 => ?_)
                refine lv_lstore (lv' := [(7, .long x13), (11, .long x12), (10, .int (nI k0)), (9, .int (nI pl)), (6, .int (nI (9 * skp r0 P0))), (5, .int (nI P0)), (4, .int (nI S0)), (3, .int (nI 8)), (2, .int (nI q0)), (1, .int (nI r0)), (0, .ref (ad 0))]) hx hb dX3_determinantWithout_169 hl (by decide) rfl (fun ls hl => ?_)
                refine lv_iinc (v := (nI (pl + 1))) (lv' := [(9, .int (nI (pl + 1))), (7, .long x13), (11, .long x12), (10, .int (nI k0)), (6, .int (nI (9 * skp r0 P0))), (5, .int (nI P0)), (4, .int (nI S0)), (3, .int (nI 8)), (2, .int (nI q0)), (1, .int (nI r0)), (0, .ref (ad 0))]) hx hb dX3_determinantWithout_171 hl (k := 3) rfl (nI_1 _) (by decide) rfl (fun ls hl => ?_)
                refine lv_iinc (v := (nI (k0 + 1))) (lv' := [(10, .int (nI (k0 + 1))), (9, .int (nI (pl + 1))), (7, .long x13), (11, .long x12), (6, .int (nI (9 * skp r0 P0))), (5, .int (nI P0)), (4, .int (nI S0)), (3, .int (nI 8)), (2, .int (nI q0)), (1, .int (nI r0)), (0, .ref (ad 0))]) hx hb dX3_determinantWithout_174 hl (k := 3) rfl (nI_1 _) (by decide) rfl (fun ls hl => ?_)
                refine lv_goto (tgt := 91) hx hb dX3_determinantWithout_177 (by decide) ?_
                exact ihj (8 - (k0 + 1)) (k0 + 1, x13, pl + 1) ls (by omega) ⟨rfl, (by omega), (by rw [ex13]; exact (mn_take (by omega) hbt hm hP0 (clr9 S0 (by omega) k0 (by omega) hbt).2 hz hx11).2 (by rw [← hpl]; exact cP)), (by rw [hpl, cb, hbt]; rfl), lv_sub hl [0, 1, 2, 4, 5, 6, 7, 8, 9, 10] rfl⟩
              · refine lv_lload hx hb dX3_determinantWithout_160 (lv_at hl 0 rfl) ?_
                refine lv_goto (tgt := 168) hx hb dX3_determinantWithout_162 (by decide) ?_
                refine lv_ladd hx hb dX3_determinantWithout_168 ?_
                refine lv_topl (fun x14 ex14 => ?_)
                refine lv_lstore (lv' := [(7, .long x14), (11, .long x12), (10, .int (nI k0)), (9, .int (nI pl)), (6, .int (nI (9 * skp r0 P0))), (5, .int (nI P0)), (4, .int (nI S0)), (3, .int (nI 8)), (2, .int (nI q0)), (1, .int (nI r0)), (0, .ref (ad 0))]) hx hb dX3_determinantWithout_169 hl (by decide) rfl (fun ls hl => ?_)
                refine lv_iinc (v := (nI (pl + 1))) (lv' := [(9, .int (nI (pl + 1))), (7, .long x14), (11, .long x12), (10, .int (nI k0)), (6, .int (nI (9 * skp r0 P0))), (5, .int (nI P0)), (4, .int (nI S0)), (3, .int (nI 8)), (2, .int (nI q0)), (1, .int (nI r0)), (0, .ref (ad 0))]) hx hb dX3_determinantWithout_171 hl (k := 3) rfl (nI_1 _) (by decide) rfl (fun ls hl => ?_)
                refine lv_iinc (v := (nI (k0 + 1))) (lv' := [(10, .int (nI (k0 + 1))), (9, .int (nI (pl + 1))), (7, .long x14), (11, .long x12), (6, .int (nI (9 * skp r0 P0))), (5, .int (nI P0)), (4, .int (nI S0)), (3, .int (nI 8)), (2, .int (nI q0)), (1, .int (nI r0)), (0, .ref (ad 0))]) hx hb dX3_determinantWithout_174 hl (k := 3) rfl (nI_1 _) (by decide) rfl (fun ls hl => ?_)
                refine lv_goto (tgt := 91) hx hb dX3_determinantWithout_177 (by decide) ?_
                exact ihj (8 - (k0 + 1)) (k0 + 1, x14, pl + 1) ls (by omega) ⟨rfl, (by omega), (by rw [ex14]; exact (mn_take (by omega) hbt hm hP0 (clr9 S0 (by omega) k0 (by omega) hbt).2 hz hx11).1 (by rw [← hpl]; exact cP)), (by rw [hpl, cb, hbt]; rfl), lv_sub hl [0, 1, 2, 4, 5, 6, 7, 8, 9, 10] rfl⟩
            · refine lv_iload hx hb dX3_determinantWithout_120 (lv_at hl 0 rfl) ?_
              refine lv_goto (tgt := 129) hx hb dX3_determinantWithout_122 (by decide) ?_
              refine lv_topi (fun y15 ey15 => ?_)
              have ey15 : y15 = (nI (skp q0 k0)) := ey15.trans (congrArg nI (by rw [skp_lo (by omega)]))
              subst ey15
              refine wn_iadd hx hb dX3_determinantWithout_129 ?_
              refine wa_lald hx hb hK hP (wM_5 cy ad u1 X) (t0 := 1) rfl (i := (9 * skp r0 P0) + (skp q0 k0)) (by omega) (by decide) dX3_determinantWithout_130 ?_
              refine lv_aload_n hx hb dX3_determinantWithout_131 rfl (lv_at hl 9 rfl) ?_
              refine va_get (D := dd) (ci := 5) (v := .ref (ad 7)) (C := RX3) (T := TX3) (N := 15) hx hb hts (fun _ h9 => List.mem_cons_of_mem _ (List.mem_append_left _ (List.mem_append_right _ h9))) hown hK hP 0 (wM_0 cy ad u1 X) rfl 8 (by decide) (hts (Cond.fieldLink RX3 30 "HeadGridModel" "minor" "[J") (List.mem_of_getElem? (i := 1) rfl)) (fun _ h9 => h9) rfl dX3_determinantWithout_132 ?_
              refine lv_iload hx hb dX3_determinantWithout_135 (lv_at hl 5 rfl) ?_
              refine lv_iconst (v := nI 1) hx hb dX3_determinantWithout_137 (by decide) ?_
              refine lv_iload hx hb dX3_determinantWithout_138 (lv_at hl 0 rfl) ?_
              refine lv_ishl hx hb dX3_determinantWithout_140 ?_
              refine lv_iconst (v := -1) hx hb dX3_determinantWithout_141 i32_m1 ?_
              refine lv_ixor hx hb dX3_determinantWithout_142 ?_
              refine lv_iand hx hb dX3_determinantWithout_143 ?_
              refine lv_topi (fun y16 ey16 => ?_)
              have ey16 : y16 = (nI (S0 ^^^ 2 ^ k0)) := ey16.trans (clr9 S0 (by omega) k0 (by omega) hbt).1
              subst ey16
              refine wa_lald hx hb hK hP (wM_7 cy ad u1 X) (t0 := 1) rfl (i := S0 ^^^ 2 ^ k0) (Nat.lt_trans (clr9 S0 (by omega) k0 (by omega) hbt).2 (by omega)) (by decide) dX3_determinantWithout_144 ?_
              refine lv_lmul hx hb dX3_determinantWithout_145 ?_
              refine lv_topl (fun x17 ex17 => ?_)
              refine lv_lstore (lv' := [(11, .long x17), (10, .int (nI k0)), (9, .int (nI pl)), (7, .long z), (6, .int (nI (9 * skp r0 P0))), (5, .int (nI P0)), (4, .int (nI S0)), (3, .int (nI 8)), (2, .int (nI q0)), (1, .int (nI r0)), (0, .ref (ad 0))]) hx hb dX3_determinantWithout_146 hl (by decide) rfl (fun ls hl => ?_)
              have hx11 : x17 = Int64.ofInt (MA (skp r0 P0) (skp q0 k0)) * u1.2.2.1 7 (S0 ^^^ 2 ^ k0) := by rw [ex17, hF.2.2.2 5 (by decide), hM _ hsr _ hsk]
              refine lv_lload hx hb dX3_determinantWithout_148 (lv_at hl 3 rfl) ?_
              refine lv_iload hx hb dX3_determinantWithout_150 (lv_at hl 5 rfl) ?_
              refine lv_iload hx hb dX3_determinantWithout_152 (lv_at hl 2 rfl) ?_
              refine wn_iadd hx hb dX3_determinantWithout_154 ?_
              refine lv_iconst (v := nI 2) hx hb dX3_determinantWithout_155 (by decide) ?_
              refine wn_irem hx hb dX3_determinantWithout_156 (by omega) (by omega) (by omega) ?_
              refine wn_if_ne (tgt := 165) hx hb dX3_determinantWithout_157 (by decide) (by omega) (fun cP => ?_) (fun cP => ?_)
              · refine lv_lload hx hb dX3_determinantWithout_165 (lv_at hl 0 rfl) ?_
                refine lv_lneg hx hb dX3_determinantWithout_167 ?_
                refine lv_ladd hx hb dX3_determinantWithout_168 ?_
                refine lv_topl (fun x18 ex18 => ?_)
                refine lv_lstore (lv' := [(7, .long x18), (11, .long x17), (10, .int (nI k0)), (9, .int (nI pl)), (6, .int (nI (9 * skp r0 P0))), (5, .int (nI P0)), (4, .int (nI S0)), (3, .int (nI 8)), (2, .int (nI q0)), (1, .int (nI r0)), (0, .ref (ad 0))]) hx hb dX3_determinantWithout_169 hl (by decide) rfl (fun ls hl => ?_)
                refine lv_iinc (v := (nI (pl + 1))) (lv' := [(9, .int (nI (pl + 1))), (7, .long x18), (11, .long x17), (10, .int (nI k0)), (6, .int (nI (9 * skp r0 P0))), (5, .int (nI P0)), (4, .int (nI S0)), (3, .int (nI 8)), (2, .int (nI q0)), (1, .int (nI r0)), (0, .ref (ad 0))]) hx hb dX3_determinantWithout_171 hl (k := 3) rfl (nI_1 _) (by decide) rfl (fun ls hl => ?_)
                refine lv_iinc (v := (nI (k0 + 1))) (lv' := [(10, .int (nI (k0 + 1))), (9, .int (nI (pl + 1))), (7, .long x18), (11, .long x17), (6, .int (nI (9 * skp r0 P0))), (5, .int (nI P0)), (4, .int (nI S0)), (3, .int (nI 8)), (2, .int (nI q0)), (1, .int (nI r0)), (0, .ref (ad 0))]) hx hb dX3_determinantWithout_174 hl (k := 3) rfl (nI_1 _) (by decide) rfl (fun ls hl => ?_)
                refine lv_goto (tgt := 91) hx hb dX3_determinantWithout_177 (by decide) ?_
                exact ihj (8 - (k0 + 1)) (k0 + 1, x18, pl + 1) ls (by omega) ⟨rfl, (by omega), (by rw [ex18]; exact (mn_take (by omega) hbt hm hP0 (clr9 S0 (by omega) k0 (by omega) hbt).2 hz hx11).2 (by rw [← hpl]; exact cP)), (by rw [hpl, cb, hbt]; rfl), lv_sub hl [0, 1, 2, 4, 5, 6, 7, 8, 9, 10] rfl⟩
              · refine lv_lload hx hb dX3_determinantWithout_160 (lv_at hl 0 rfl) ?_
                refine lv_goto (tgt := 168) hx hb dX3_determinantWithout_162 (by decide) ?_
                refine lv_ladd hx hb dX3_determinantWithout_168 ?_
                refine lv_topl (fun x19 ex19 => ?_)
                refine lv_lstore (lv' := [(7, .long x19), (11, .long x17), (10, .int (nI k0)), (9, .int (nI pl)), (6, .int (nI (9 * skp r0 P0))), (5, .int (nI P0)), (4, .int (nI S0)), (3, .int (nI 8)), (2, .int (nI q0)), (1, .int (nI r0)), (0, .ref (ad 0))]) hx hb dX3_determinantWithout_169 hl (by decide) rfl (fun ls hl => ?_)
                refine lv_iinc (v := (nI (pl + 1))) (lv' := [(9, .int (nI (pl + 1))), (7, .long x19), (11, .long x17), (10, .int (nI k0)), (6, .int (nI (9 * skp r0 P0))), (5, .int (nI P0)), (4, .int (nI S0)), (3, .int (nI 8)), (2, .int (nI q0)), (1, .int (nI r0)), (0, .ref (ad 0))]) hx hb dX3_determinantWithout_171 hl (k := 3) rfl (nI_1 _) (by decide) rfl (fun ls hl => ?_)
                refine lv_iinc (v := (nI (k0 + 1))) (lv' := [(10, .int (nI (k0 + 1))), (9, .int (nI (pl + 1))), (7, .long x19), (11, .long x17), (6, .int (nI (9 * skp r0 P0))), (5, .int (nI P0)), (4, .int (nI S0)), (3, .int (nI 8)), (2, .int (nI q0)), (1, .int (nI r0)), (0, .ref (ad 0))]) hx hb dX3_determinantWithout_174 hl (k := 3) rfl (nI_1 _) (by decide) rfl (fun ls hl => ?_)
                refine lv_goto (tgt := 91) hx hb dX3_determinantWithout_177 (by decide) ?_
                exact ihj (8 - (k0 + 1)) (k0 + 1, x19, pl + 1) ls (by omega) ⟨rfl, (by omega), (by rw [ex19]; exact (mn_take (by omega) hbt hm hP0 (clr9 S0 (by omega) k0 (by omega) hbt).2 hz hx11).1 (by rw [← hpl]; exact cP)), (by rw [hpl, cb, hbt]; rfl), lv_sub hl [0, 1, 2, 4, 5, 6, 7, 8, 9, 10] rfl⟩
    · refine lv_iload hx hb dX3_determinantWithout_44 (lv_at hl 1 rfl) ?_
      refine lv_iload hx hb dX3_determinantWithout_46 (lv_at hl 2 rfl) ?_
      refine lv_iload hx hb dX3_determinantWithout_48 (lv_at hl 0 rfl) ?_
      refine lv_ishr hx hb dX3_determinantWithout_50 ?_
      refine lv_iconst (v := nI 1) hx hb dX3_determinantWithout_51 (by decide) ?_
      refine lv_iand hx hb dX3_determinantWithout_52 ?_
      refine lv_iadd hx hb dX3_determinantWithout_53 ?_
      refine lv_topi (fun x20 ex20 => ?_)
      refine lv_istore (lv' := [(5, .int x20), (6, .int (nI k0)), (4, .int (nI S0)), (3, .int (nI 8)), (2, .int (nI q0)), (1, .int (nI r0)), (0, .ref (ad 0))]) hx hb dX3_determinantWithout_54 hl (by decide) rfl (fun ls hl => ?_)
      refine lv_iinc (v := (nI (k0 + 1))) (lv' := [(6, .int (nI (k0 + 1))), (5, .int x20), (4, .int (nI S0)), (3, .int (nI 8)), (2, .int (nI q0)), (1, .int (nI r0)), (0, .ref (ad 0))]) hx hb dX3_determinantWithout_56 hl (k := 1) rfl (nI_1 _) (by decide) rfl (fun ls hl => ?_)
      refine lv_goto (tgt := 38) hx hb dX3_determinantWithout_59 (by decide) ?_
      exact ihi (8 - (k0 + 1)) (k0 + 1, x20) ls (by omega) ⟨rfl, (by omega), (by rw [ex20, bit9 S0 (by omega) k0 (by omega), hx5, nI_m1, cb]), lv_sub hl [0, 1, 2, 3, 4, 5, 6] rfl⟩

/-! the class: the searches for rates -/
def frR (u u1 : CS) : Prop := frX u u1 ∧ ∀ k, k ≠ 6 → k ≠ 7 → u1.2.2.1 k = u.2.2.1 k
theorem frR_rf {u : CS} : frR u u := ⟨frX_rf, fun _ _ _ => rfl⟩
theorem frR_t {u u1 u2 : CS} (h : frR u u1) (h1 : frR u1 u2) : frR u u2 := ⟨frX_t h.1 h1.1, fun k a b => (h1.2 k a b).trans (h.2 k a b)⟩
theorem frR_slv {now : Nat → Int32} {u u1 : CS} (h : frR u u1) (hs : slv now u) : slv now u1 :=
  ⟨by rw [h.1.2.2]; exact hs.1, fun ht => ⟨fun a ha b hb => by rw [h.2 _ (by omega) (by omega)]; exact (hs.2 ht).1 a ha b hb, fun a ha => by rw [h.2 5 (by decide) (by decide)]; exact (hs.2 ht).2 a ha⟩⟩
theorem frR_nw {u u1 : CS} (h : frR u u1) : nw u1 = nw u := nw_congr h.1.1
theorem infl_eq {now : Nat → Int32} {u : CS} (hs : slv now u) (ht : nR (gNow now) 9 = 511) {i j : Nat} (hi : i < 9) (hj : j < 9) : u.2.2.1 (8 + i) (9 + j) = (cn now).2.2.1 8 (9 * i + j) := by rw [cn_8 now hj]; exact (hs.2 ht).1 i hi j hj
theorem gpF_congr {f g f2 g2 : Nat → Int64} (h : ∀ k, k < 9 → f k = g k) (h2 : ∀ k, k < 9 → f2 k = g2 k) : gpF f f2 = gpF g g2 := by
  unfold gpF; rw [isF_congr h, gmF_congr (fun k hk => ⟨h k hk, h2 k hk⟩)]
theorem hd_X2_fillSlack : yX2_fillSlack.cls = RX2 ∧ yX2_fillSlack.cls ≠ "java/lang/invoke/MethodHandle" ∧ yX2_fillSlack.cls ≠ "java/lang/invoke/VarHandle" ∧ (parseMethodDescriptor yX2_fillSlack.desc).map (fun d => d.parameters.length) = some 1 := by decide +kernel
set_option maxHeartbeats 4000000 in
set_option maxRecDepth 100000 in
/-- X2_fillSlack -/
theorem c_X2_fillSlack (l : Launch) (dd : va_G) (cy : Nat → ClassId) (ad : Nat → Nat) (X : va_W) (tt : Nat × Nat) (u : CS) (sz : Nat) (S0 : Nat) (hS0 : S0 < 512) (hrg : rgM (nw u)) (htt : nR (gNow (nw u)) 9 = 511) (hsl : slv (nw u) u) : Met l yX2_fillSlack wsX2_fillSlack ({ frames := 1, cells := 0, slots := 0, locals := 22 }) (va_Pc [.ref (ad 0), .int (nI S0)] (wrC dd cy tt (wC cy ad u ++ X) sz)) (va_Qv (fun u9 => frX u u9 ∧ (∀ k, k ≠ 6 → u9.2.2.1 k = u.2.2.1 k) ∧ ∀ i, i < 9 → u9.2.2.1 6 i = abU (cn (nw u)) S0 i) (wB dd cy (fun u9 : CS => wC cy ad u9 ++ X) (va_A (wC cy ad u ++ X) sz)) (va_A (wC cy ad u ++ X) sz)) 0 0 (va_A (wC cy ad u ++ X) sz) := by
  refine Met.ofW (cc := cX2_fillSlack) (maxL := 6) (ret := none) (by decide) rfl ?_
  intro p e s m args below meth c s₁ B hml hv
  obtain ⟨rfl, hsz, hP, hK, hD0, hSt⟩ := hv
  have hx := B.exec
  have hb := B.bytes
  have hr := B.returns
  have hts := atoms_spec (ws := wsX2_fillSlack) B.pre
  have hown : s.vm.findClass RX2 = some m.cls := findClass_of_methodNamed B.named
  have hlocks := B.notSynchronized
  subst hsz
  have hD := hD0.self (sz := s.heap.size)
  generalize hAe : va_A (wC cy ad u ++ X) s.heap.size = A at hD hSt ⊢
  have hA : ∀ q : Nat, s.heap.size ≤ q → A q := fun q h => by rw [← hAe]; exact Or.inr h
  have hS : va_S A s.heap s.heap [] := va_S.rf
  have hl := lv_entry ([.ref (ad 0), .int (nI S0)]) (n := 6) (Nat.le_of_ble_eq_true rfl)
  rw [lg_entry_eq]
  generalize (lg_sl ([.ref (ad 0), .int (nI S0)]) ++ List.replicate (6 - (lg_sl ([.ref (ad 0), .int (nI S0)])).length) Slot.unset).toArray = ls at hl ⊢
  have hl : lv_has ls 6 [(0, .ref (ad 0)), (1, .int (nI S0))] := hl
  refine lv_iconst (v := nI 0) hx hb dX2_fillSlack_0 (by decide) ?_
  refine lv_istore_n (lv' := [(2, .int (nI 0)), (0, .ref (ad 0)), (1, .int (nI S0))]) hx hb dX2_fillSlack_1 rfl hl (by decide) rfl (fun ls hl => ?_)
  refine wLoop (σ := Nat × CS) (fun k x H locs ls => k = 9 - x.1 ∧ (x.1 ≤ 9) ∧ (frX u x.2) ∧ (∀ k9, k9 ≠ 6 → x.2.2.2.1 k9 = u.2.2.1 k9) ∧ (∀ i9, i9 < x.1 → x.2.2.2.1 6 i9 = abU (cn (nw u)) S0 i9) ∧ va_P dd vwCl (wC cy ad x.2 ++ X) H ∧ va_D A (wC cy ad x.2 ++ X) ∧ va_S A s.heap H locs ∧ lv_has ls 6 [(2, .int (nI x.1)), (1, .int (nI S0)), (0, .ref (ad 0))]) ?_ _ (0, u) _ _ _ ⟨rfl, (Nat.zero_le _), frX_rf, (fun _ _ => rfl), (fun i9 h9 => absurd h9 (Nat.not_lt_zero i9)), hP, hD, hS, lv_sub hl [0, 2, 1] rfl⟩
  intro ko x H locs ls hI iho
  obtain ⟨i0, u1⟩ := x
  obtain ⟨hko, hi0, hF, hO, hM, hP, hD, hS, hl⟩ := hI
  have hko : ko = 9 - i0 := hko
  have hi0 : i0 ≤ 9 := hi0
  have hF : frX u u1 := hF
  have hO : ∀ k9, k9 ≠ 6 → u1.2.2.1 k9 = u.2.2.1 k9 := hO
  have hM : ∀ i9, i9 < i0 → u1.2.2.1 6 i9 = abU (cn (nw u)) S0 i9 := hM
  have hP : va_P dd vwCl (wC cy ad u1 ++ X) H := hP
  have hD : va_D A (wC cy ad u1 ++ X) := hD
  have hl : lv_has ls 6 [(2, .int (nI i0)), (1, .int (nI S0)), (0, .ref (ad 0))] := hl
  refine lv_iload_n hx hb dX2_fillSlack_2 rfl (lv_at hl 0 rfl) ?_
  refine lv_bipush (v := nI 9) hx hb dX2_fillSlack_3 (by decide) ?_
  refine wn_icmp_ge (tgt := 100) hx hb dX2_fillSlack_5 (by decide) (by omega) (by omega) (fun c1 => ?_) (fun c1 => ?_)
  · exact W.vret hx hb hr (fun t ht hW => ⟨⟨u1, rfl, ⟨hF, hO, fun i9 hi9 => hM i9 (by omega)⟩, by rw [ht]; exact hP, va_K.moved hW.alike hK, hD⟩, hS.F ht⟩) hS.2.2 dX2_fillSlack_100
  · refine lv_aload_n hx hb dX2_fillSlack_8 rfl (lv_at hl 2 rfl) ?_
    refine va_get (D := dd) (ci := 4) (v := .ref (ad 2)) (C := RX2) (T := TX2) (N := 7) hx hb hts (fun _ h9 => List.mem_cons_of_mem _ (List.mem_append_left _ (List.mem_append_left _ (List.mem_append_left _ (List.mem_append_right _ h9))))) hown hK hP (0) (wC_0 cy ad u1 X) rfl 3 (by decide) (hts (Cond.fieldLink RX2 27 "HeadGrid" "solution" "LHeadGrid$Solution;") (List.mem_of_getElem? (i := 1) rfl)) (fun _ h9 => h9) rfl dX2_fillSlack_9 ?_
    refine va_get (D := dd) (ci := 2) (v := .ref (ad 5)) (C := RX0) (T := TX0) (N := 4) hx hb hts (fun _ h9 => List.mem_cons_of_mem _ (List.mem_append_left _ (List.mem_append_left _ (List.mem_append_right _ h9)))) hown hK hP (2) (wC_2 cy ad u1 X) rfl 2 (by decide) (hts (Cond.fieldLink RX2 92 "HeadGrid$Solution" "scaledHeads" "[J") (List.mem_of_getElem? (i := 2) rfl)) (fun _ h9 => h9) rfl dX2_fillSlack_12 ?_
    refine lv_iload_n hx hb dX2_fillSlack_15 rfl (lv_at hl 0 rfl) ?_
    refine wa_lald hx hb hK hP (wC_5 cy ad u1 X) (t0 := 1) rfl (i := i0) (by omega) (by decide) dX2_fillSlack_16 ?_
    refine lv_aload_n hx hb dX2_fillSlack_17 rfl (lv_at hl 2 rfl) ?_
    refine va_get (D := dd) (ci := 4) (v := .ref (ad 2)) (C := RX2) (T := TX2) (N := 7) hx hb hts (fun _ h9 => List.mem_cons_of_mem _ (List.mem_append_left _ (List.mem_append_left _ (List.mem_append_left _ (List.mem_append_right _ h9))))) hown hK hP (0) (wC_0 cy ad u1 X) rfl 3 (by decide) (hts (Cond.fieldLink RX2 27 "HeadGrid" "solution" "LHeadGrid$Solution;") (List.mem_of_getElem? (i := 1) rfl)) (fun _ h9 => h9) rfl dX2_fillSlack_18 ?_
    refine va_get (D := dd) (ci := 2) (v := .long u1.2.2.2.2.2.1) (C := RX0) (T := TX0) (N := 4) hx hb hts (fun _ h9 => List.mem_cons_of_mem _ (List.mem_append_left _ (List.mem_append_left _ (List.mem_append_right _ h9)))) hown hK hP (2) (wC_2 cy ad u1 X) rfl 3 (by decide) (hts (Cond.fieldLink RX2 212 "HeadGrid$Solution" "denominator" "J") (List.mem_of_getElem? (i := 3) rfl)) (fun _ h9 => h9) rfl dX2_fillSlack_21 ?_
    refine lv_aload_n hx hb dX2_fillSlack_24 rfl (lv_at hl 2 rfl) ?_
    refine va_get (D := dd) (ci := 4) (v := .ref (ad 17)) (C := RX2) (T := TX2) (N := 7) hx hb hts (fun _ h9 => List.mem_cons_of_mem _ (List.mem_append_left _ (List.mem_append_left _ (List.mem_append_left _ (List.mem_append_right _ h9))))) hown hK hP (0) (wC_0 cy ad u1 X) rfl 0 (by decide) (hts (Cond.fieldLink RX2 10 "HeadGrid" "now" "LHeadGrid$State;") (List.mem_of_getElem? (i := 4) rfl)) (fun _ h9 => h9) rfl dX2_fillSlack_25 ?_
    refine va_get (D := dd) (ci := 3) (v := .ref (ad 23)) (C := RX1) (T := TX1) (N := 7) hx hb hts (fun _ h9 => List.mem_cons_of_mem _ (List.mem_append_left _ (List.mem_append_right _ h9))) hown hK hP (17) (wC_now cy ad u1 X) rfl 5 (by decide) (hts (Cond.fieldLink RX2 79 "HeadGrid$State" "limits" "[I") (List.mem_of_getElem? (i := 5) rfl)) (fun _ h9 => h9) rfl dX2_fillSlack_28 ?_
    refine lv_iload_n hx hb dX2_fillSlack_31 rfl (lv_at hl 0 rfl) ?_
    refine wa_iald hx hb hK hP (wC_n5 cy ad u1 X) (t0 := 0) rfl (i := i0) (by omega) (by decide) dX2_fillSlack_32 ?_
    refine lv_i2l hx hb dX2_fillSlack_33 rfl ?_
    refine lv_lmul hx hb dX2_fillSlack_34 ?_
    refine lv_lsub hx hb dX2_fillSlack_35 ?_
    refine lv_topl (fun x2 ex2 => ?_)
    refine lv_lstore_n (lv' := [(3, .long x2), (2, .int (nI i0)), (1, .int (nI S0)), (0, .ref (ad 0))]) hx hb dX2_fillSlack_36 rfl hl (by decide) rfl (fun ls hl => ?_)
    refine lv_iconst (v := nI 0) hx hb dX2_fillSlack_37 (by decide) ?_
    refine lv_istore (lv' := [(5, .int (nI 0)), (3, .long x2), (2, .int (nI i0)), (1, .int (nI S0)), (0, .ref (ad 0))]) hx hb dX2_fillSlack_38 hl (by decide) rfl (fun ls hl => ?_)
    refine wLoopR (σ := Nat × Int64) (fun k x ls => k = 9 - x.1 ∧ (x.1 ≤ 9) ∧ (x.2 = abF ((cn (nw u)).2.2.1 9) ((cn (nw u)).2.2.1 8) (cn (nw u)).2.2.2.2.2.1 (nw u) S0 i0 x.1) ∧ lv_has ls 6 [(5, .int (nI x.1)), (3, .long x.2), (2, .int (nI i0)), (1, .int (nI S0)), (0, .ref (ad 0))]) ?_ _ (0, x2) _ ⟨rfl, (Nat.zero_le _), (by rw [ex2, hO 5 (by decide), hF.2.2, hF.1, (hsl.2 htt).2 i0 (by omega), hsl.1, Int64.mul_comm, ← nw_5 u (by omega)]; rfl), lv_sub hl [0, 1, 2, 3, 4] rfl⟩
    intro ki x ls hI ihi
    obtain ⟨j0, z⟩ := x
    obtain ⟨hki, hj0, hz, hl⟩ := hI
    have hki : ki = 9 - j0 := hki
    have hj0 : j0 ≤ 9 := hj0
    have hz : z = abF ((cn (nw u)).2.2.1 9) ((cn (nw u)).2.2.1 8) (cn (nw u)).2.2.2.2.2.1 (nw u) S0 i0 j0 := hz
    have hl : lv_has ls 6 [(5, .int (nI j0)), (3, .long z), (2, .int (nI i0)), (1, .int (nI S0)), (0, .ref (ad 0))] := hl
    refine lv_iload hx hb dX2_fillSlack_40 (lv_at hl 0 rfl) ?_
    refine lv_bipush (v := nI 9) hx hb dX2_fillSlack_42 (by decide) ?_
    refine wn_icmp_ge (tgt := 87) hx hb dX2_fillSlack_44 (by decide) (by omega) (by omega) (fun c3 => ?_) (fun c3 => ?_)
    · refine lv_aload_n hx hb dX2_fillSlack_87 rfl (lv_at hl 4 rfl) ?_
      refine va_get (D := dd) (ci := 4) (v := .ref (ad 6)) (C := RX2) (T := TX2) (N := 7) hx hb hts (fun _ h9 => List.mem_cons_of_mem _ (List.mem_append_left _ (List.mem_append_left _ (List.mem_append_left _ (List.mem_append_right _ h9))))) hown hK hP (0) (wC_0 cy ad u1 X) rfl 5 (by decide) (hts (Cond.fieldLink RX2 35 "HeadGrid" "slack" "[J") (List.mem_of_getElem? (i := 7) rfl)) (fun _ h9 => h9) rfl dX2_fillSlack_88 ?_
      refine lv_iload_n hx hb dX2_fillSlack_91 rfl (lv_at hl 2 rfl) ?_
      refine lv_lload_n hx hb dX2_fillSlack_92 rfl (lv_at hl 1 rfl) ?_
      refine wa_last hx hb hK hP hD hS (wC_6 cy ad u1 X) (t0 := 1) rfl (i := i0) (by omega) (by decide) dX2_fillSlack_93 (wC_s6 cy ad u1 X _) (fun H locs hP hD hS => ?_)
      obtain ⟨us4, hus4⟩ : ∃ z9z : CS, z9z = (u1.1, u1.2.1, va_up u1.2.2.1 6 (vp_updL (u1.2.2.1 6) i0 z), u1.2.2.2) := ⟨_, rfl⟩
      rw [← hus4] at hP hD
      have pus4_s : us4.2.2.1 (6) = (vp_updL (u1.2.2.1 6) i0 z) := by rw [hus4]; first | exact va_up_s _ _ _ | rfl
      have pus4_o : ∀ j9, j9 ≠ 6 → us4.2.2.1 j9 = u1.2.2.1 j9 := fun j9 h9 => by rw [hus4]; exact va_up_n h9
      have pus4_1 : us4.1 = u1.1 := by rw [hus4]
      have pus4_21 : us4.2.1 = u1.2.1 := by rw [hus4]
      have pus4_222 : us4.2.2.2 = u1.2.2.2 := by rw [hus4]
      refine lv_iinc (v := (nI (i0 + 1))) (lv' := [(2, .int (nI (i0 + 1))), (5, .int (nI j0)), (3, .long z), (1, .int (nI S0)), (0, .ref (ad 0))]) hx hb dX2_fillSlack_94 hl (k := 2) rfl (nI_1 _) (by decide) rfl (fun ls hl => ?_)
      refine lv_goto (tgt := 2) hx hb dX2_fillSlack_97 (by decide) ?_
      exact iho (9 - (i0 + 1)) (i0 + 1, us4) _ _ ls (by omega) ⟨rfl, (by show i0 + 1 ≤ 9; omega), ⟨pus4_1.trans hF.1, pus4_21.trans hF.2.1, pus4_222.trans hF.2.2⟩, (fun k9 h9 => (pus4_o k9 h9).trans (hO k9 h9)), (fun i9 hi9 => by rw [pus4_s]; unfold vp_updL; exact (Classical.em (i9 = i0)).elim (fun e9 => by subst e9; rw [if_pos rfl, hz, show j0 = 9 by omega]; rfl) (fun e9 => by rw [if_neg e9]; exact hM i9 (by have h9 : i9 < i0 + 1 := hi9; omega))), hP, hD, hS, lv_sub hl [0, 3, 4] rfl⟩
    · refine lv_iload_n hx hb dX2_fillSlack_47 rfl (lv_at hl 3 rfl) ?_
      refine lv_iload hx hb dX2_fillSlack_48 (lv_at hl 0 rfl) ?_
      refine lv_ishr hx hb dX2_fillSlack_50 ?_
      refine lv_iconst (v := nI 1) hx hb dX2_fillSlack_51 (by decide) ?_
      refine lv_iand hx hb dX2_fillSlack_52 ?_
      refine lv_topi (fun y5 ey5 => ?_)
      have ey5 : bI (S0.testBit j0) = y5 := (ey5.trans (bit_b hS0 (by omega))).symm
      subst ey5
      refine wb_if_eq (tgt := 81) hx hb dX2_fillSlack_53 (by decide) (fun cB => ?_) (fun cB => ?_)
      · refine lv_iinc (v := (nI (j0 + 1))) (lv' := [(5, .int (nI (j0 + 1))), (3, .long z), (2, .int (nI i0)), (1, .int (nI S0)), (0, .ref (ad 0))]) hx hb dX2_fillSlack_81 hl (k := 0) rfl (nI_1 _) (by decide) rfl (fun ls hl => ?_)
        refine lv_goto (tgt := 40) hx hb dX2_fillSlack_84 (by decide) ?_
        exact ihi (9 - (j0 + 1)) (j0 + 1, z) ls (by omega) ⟨rfl, (by show j0 + 1 ≤ 9; omega), (by show z = abF ((cn (nw u)).2.2.1 9) ((cn (nw u)).2.2.1 8) (cn (nw u)).2.2.2.2.2.1 (nw u) S0 i0 (j0 + 1); rw [abF, if_neg (by rw [cB]; decide)]; exact hz), lv_sub hl [0, 1, 2, 3, 4] rfl⟩
      · refine lv_lload_n hx hb dX2_fillSlack_56 rfl (lv_at hl 1 rfl) ?_
        refine lv_aload_n hx hb dX2_fillSlack_57 rfl (lv_at hl 4 rfl) ?_
        refine va_get (D := dd) (ci := 4) (v := .ref (ad 2)) (C := RX2) (T := TX2) (N := 7) hx hb hts (fun _ h9 => List.mem_cons_of_mem _ (List.mem_append_left _ (List.mem_append_left _ (List.mem_append_left _ (List.mem_append_right _ h9))))) hown hK hP (0) (wC_0 cy ad u1 X) rfl 3 (by decide) (hts (Cond.fieldLink RX2 27 "HeadGrid" "solution" "LHeadGrid$Solution;") (List.mem_of_getElem? (i := 1) rfl)) (fun _ h9 => h9) rfl dX2_fillSlack_58 ?_
        refine lv_iload_n hx hb dX2_fillSlack_61 rfl (lv_at hl 2 rfl) ?_
        refine lv_iload hx hb dX2_fillSlack_62 (lv_at hl 0 rfl) ?_
        refine vp_callSl (va_runV (As := [.int (nI i0), .int (nI j0)]) (rest := [.long z]) ⟨hx, hb, hml, hown, hts⟩ (c_X0_scaledInfluence l dd cy ad X tt u1 i0 j0 (by omega) (by omega)) (cwV 2 hts gX2_fillSlack_X0_scaledInfluence rfl rfl rfl hd_X0_scaledInfluence ⟨Nat.le_of_ble_eq_true rfl, Nat.le_of_ble_eq_true rfl⟩) (rdC_V hP hK hSt hS (wC_2 cy ad u1 X) rfl) rfl rfl hl.1 rfl (lv_room (Nat.le_of_ble_eq_true rfl)) dX2_fillSlack_64 ⟨Nat.le_of_ble_eq_true rfl, Nat.le_of_ble_eq_true rfl⟩).run (fun r6 hr6 => ?_)
        have hr6 : (u1.2.2.1 (8 + i0) (9 + j0)) = r6 := hr6.symm
        subst hr6
        refine lv_aload_n hx hb dX2_fillSlack_67 rfl (lv_at hl 4 rfl) ?_
        refine va_get (D := dd) (ci := 4) (v := .ref (ad 17)) (C := RX2) (T := TX2) (N := 7) hx hb hts (fun _ h9 => List.mem_cons_of_mem _ (List.mem_append_left _ (List.mem_append_left _ (List.mem_append_left _ (List.mem_append_right _ h9))))) hown hK hP (0) (wC_0 cy ad u1 X) rfl 0 (by decide) (hts (Cond.fieldLink RX2 10 "HeadGrid" "now" "LHeadGrid$State;") (List.mem_of_getElem? (i := 4) rfl)) (fun _ h9 => h9) rfl dX2_fillSlack_68 ?_
        refine va_get (D := dd) (ci := 3) (v := .ref (ad 21)) (C := RX1) (T := TX1) (N := 7) hx hb hts (fun _ h9 => List.mem_cons_of_mem _ (List.mem_append_left _ (List.mem_append_right _ h9))) hown hK hP (17) (wC_now cy ad u1 X) rfl 3 (by decide) (hts (Cond.fieldLink RX2 73 "HeadGrid$State" "rates" "[I") (List.mem_of_getElem? (i := 6) rfl)) (fun _ h9 => h9) rfl dX2_fillSlack_71 ?_
        refine lv_iload hx hb dX2_fillSlack_74 (lv_at hl 0 rfl) ?_
        refine wa_iald hx hb hK hP (wC_n3 cy ad u1 X) (t0 := 0) rfl (i := j0) (by omega) (by decide) dX2_fillSlack_76 ?_
        refine lv_i2l hx hb dX2_fillSlack_77 rfl ?_
        refine lv_lmul hx hb dX2_fillSlack_78 ?_
        refine lv_ladd hx hb dX2_fillSlack_79 ?_
        refine lv_topl (fun x7 ex7 => ?_)
        refine lv_lstore_n (lv' := [(3, .long x7), (5, .int (nI j0)), (2, .int (nI i0)), (1, .int (nI S0)), (0, .ref (ad 0))]) hx hb dX2_fillSlack_80 rfl hl (by decide) rfl (fun ls hl => ?_)
        refine lv_iinc (v := (nI (j0 + 1))) (lv' := [(5, .int (nI (j0 + 1))), (3, .long x7), (2, .int (nI i0)), (1, .int (nI S0)), (0, .ref (ad 0))]) hx hb dX2_fillSlack_81 hl (k := 1) rfl (nI_1 _) (by decide) rfl (fun ls hl => ?_)
        refine lv_goto (tgt := 40) hx hb dX2_fillSlack_84 (by decide) ?_
        exact ihi (9 - (j0 + 1)) (j0 + 1, x7) ls (by omega) ⟨rfl, (by show j0 + 1 ≤ 9; omega), (by rw [ex7, hz, hO _ (by omega), infl_eq hsl htt (by omega) (by omega), hF.1, ← nw_3 u (by omega)]; show _ = abF ((cn (nw u)).2.2.1 9) ((cn (nw u)).2.2.1 8) (cn (nw u)).2.2.2.2.2.1 (nw u) S0 i0 (j0 + 1); rw [abF, if_pos cB]), lv_sub hl [0, 1, 2, 3, 4] rfl⟩
theorem hd_X2_fillCost : yX2_fillCost.cls = RX2 ∧ yX2_fillCost.cls ≠ "java/lang/invoke/MethodHandle" ∧ yX2_fillCost.cls ≠ "java/lang/invoke/VarHandle" ∧ (parseMethodDescriptor yX2_fillCost.desc).map (fun d => d.parameters.length) = some 1 := by decide +kernel
set_option maxHeartbeats 4000000 in
set_option maxRecDepth 100000 in
/-- X2_fillCost -/
theorem c_X2_fillCost (l : Launch) (dd : va_G) (cy : Nat → ClassId) (ad : Nat → Nat) (X : va_W) (tt : Nat × Nat) (u : CS) (sz : Nat) (S0 : Nat) (hS0 : S0 < 512) (hrg : rgM (nw u)) (htt : nR (gNow (nw u)) 9 = 511) (hsl : slv (nw u) u) : Met l yX2_fillCost wsX2_fillCost ({ frames := 1, cells := 0, slots := 0, locals := 22 }) (va_Pc [.ref (ad 0), .int (nI S0)] (wrC dd cy tt (wC cy ad u ++ X) sz)) (va_Qv (fun u9 => frX u u9 ∧ (∀ k, k ≠ 7 → u9.2.2.1 k = u.2.2.1 k) ∧ ∀ i, i < 9 → u9.2.2.1 7 i = byU (cn (nw u)) S0 i) (wB dd cy (fun u9 : CS => wC cy ad u9 ++ X) (va_A (wC cy ad u ++ X) sz)) (va_A (wC cy ad u ++ X) sz)) 0 0 (va_A (wC cy ad u ++ X) sz) := by
  refine Met.ofW (cc := cX2_fillCost) (maxL := 6) (ret := none) (by decide) rfl ?_
  intro p e s m args below meth c s₁ B hml hv
  obtain ⟨rfl, hsz, hP, hK, hD0, hSt⟩ := hv
  have hx := B.exec
  have hb := B.bytes
  have hr := B.returns
  have hts := atoms_spec (ws := wsX2_fillCost) B.pre
  have hown : s.vm.findClass RX2 = some m.cls := findClass_of_methodNamed B.named
  have hlocks := B.notSynchronized
  subst hsz
  have hD := hD0.self (sz := s.heap.size)
  generalize hAe : va_A (wC cy ad u ++ X) s.heap.size = A at hD hSt ⊢
  have hA : ∀ q : Nat, s.heap.size ≤ q → A q := fun q h => by rw [← hAe]; exact Or.inr h
  have hS : va_S A s.heap s.heap [] := va_S.rf
  have hl := lv_entry ([.ref (ad 0), .int (nI S0)]) (n := 6) (Nat.le_of_ble_eq_true rfl)
  rw [lg_entry_eq]
  generalize (lg_sl ([.ref (ad 0), .int (nI S0)]) ++ List.replicate (6 - (lg_sl ([.ref (ad 0), .int (nI S0)])).length) Slot.unset).toArray = ls at hl ⊢
  have hl : lv_has ls 6 [(0, .ref (ad 0)), (1, .int (nI S0))] := hl
  refine lv_iconst (v := nI 0) hx hb dX2_fillCost_0 (by decide) ?_
  refine lv_istore_n (lv' := [(2, .int (nI 0)), (0, .ref (ad 0)), (1, .int (nI S0))]) hx hb dX2_fillCost_1 rfl hl (by decide) rfl (fun ls hl => ?_)
  refine wLoop (σ := Nat × CS) (fun k x H locs ls => k = 9 - x.1 ∧ (x.1 ≤ 9) ∧ (frX u x.2) ∧ (∀ k9, k9 ≠ 7 → x.2.2.2.1 k9 = u.2.2.1 k9) ∧ (∀ i9, i9 < x.1 → x.2.2.2.1 7 i9 = byU (cn (nw u)) S0 i9) ∧ va_P dd vwCl (wC cy ad x.2 ++ X) H ∧ va_D A (wC cy ad x.2 ++ X) ∧ va_S A s.heap H locs ∧ lv_has ls 6 [(2, .int (nI x.1)), (1, .int (nI S0)), (0, .ref (ad 0))]) ?_ _ (0, u) _ _ _ ⟨rfl, (Nat.zero_le _), frX_rf, (fun _ _ => rfl), (fun i9 h9 => absurd h9 (Nat.not_lt_zero i9)), hP, hD, hS, lv_sub hl [0, 2, 1] rfl⟩
  intro ko x H locs ls hI iho
  obtain ⟨i0, u1⟩ := x
  obtain ⟨hko, hi0, hF, hO, hM, hP, hD, hS, hl⟩ := hI
  have hko : ko = 9 - i0 := hko
  have hi0 : i0 ≤ 9 := hi0
  have hF : frX u u1 := hF
  have hO : ∀ k9, k9 ≠ 7 → u1.2.2.1 k9 = u.2.2.1 k9 := hO
  have hM : ∀ i9, i9 < i0 → u1.2.2.1 7 i9 = byU (cn (nw u)) S0 i9 := hM
  have hP : va_P dd vwCl (wC cy ad u1 ++ X) H := hP
  have hD : va_D A (wC cy ad u1 ++ X) := hD
  have hl : lv_has ls 6 [(2, .int (nI i0)), (1, .int (nI S0)), (0, .ref (ad 0))] := hl
  refine lv_iload_n hx hb dX2_fillCost_2 rfl (lv_at hl 0 rfl) ?_
  refine lv_bipush (v := nI 9) hx hb dX2_fillCost_3 (by decide) ?_
  refine wn_icmp_ge (tgt := 61) hx hb dX2_fillCost_5 (by decide) (by omega) (by omega) (fun c1 => ?_) (fun c1 => ?_)
  · exact W.vret hx hb hr (fun t ht hW => ⟨⟨u1, rfl, ⟨hF, hO, fun i9 hi9 => hM i9 (by omega)⟩, by rw [ht]; exact hP, va_K.moved hW.alike hK, hD⟩, hS.F ht⟩) hS.2.2 dX2_fillCost_61
  · refine lv_lconst (v := 0) hx hb dX2_fillCost_8 rfl ?_
    refine lv_lstore_n (lv' := [(3, .long 0), (2, .int (nI i0)), (1, .int (nI S0)), (0, .ref (ad 0))]) hx hb dX2_fillCost_9 rfl hl (by decide) rfl (fun ls hl => ?_)
    refine lv_iconst (v := nI 0) hx hb dX2_fillCost_10 (by decide) ?_
    refine lv_istore (lv' := [(5, .int (nI 0)), (3, .long 0), (2, .int (nI i0)), (1, .int (nI S0)), (0, .ref (ad 0))]) hx hb dX2_fillCost_11 hl (by decide) rfl (fun ls hl => ?_)
    refine wLoopR (σ := Nat × Int64) (fun k x ls => k = 9 - x.1 ∧ (x.1 ≤ 9) ∧ (x.2 = byF ((cn (nw u)).2.2.1 8) S0 i0 x.1) ∧ lv_has ls 6 [(5, .int (nI x.1)), (3, .long x.2), (2, .int (nI i0)), (1, .int (nI S0)), (0, .ref (ad 0))]) ?_ _ (0, 0) _ ⟨rfl, (Nat.zero_le _), rfl, lv_sub hl [0, 1, 2, 3, 4] rfl⟩
    intro ki x ls hI ihi
    obtain ⟨j0, z⟩ := x
    obtain ⟨hki, hj0, hz, hl⟩ := hI
    have hki : ki = 9 - j0 := hki
    have hj0 : j0 ≤ 9 := hj0
    have hz : z = byF ((cn (nw u)).2.2.1 8) S0 i0 j0 := hz
    have hl : lv_has ls 6 [(5, .int (nI j0)), (3, .long z), (2, .int (nI i0)), (1, .int (nI S0)), (0, .ref (ad 0))] := hl
    refine lv_iload hx hb dX2_fillCost_13 (lv_at hl 0 rfl) ?_
    refine lv_bipush (v := nI 9) hx hb dX2_fillCost_15 (by decide) ?_
    refine wn_icmp_ge (tgt := 48) hx hb dX2_fillCost_17 (by decide) (by omega) (by omega) (fun c2 => ?_) (fun c2 => ?_)
    · refine lv_aload_n hx hb dX2_fillCost_48 rfl (lv_at hl 4 rfl) ?_
      refine va_get (D := dd) (ci := 4) (v := .ref (ad 7)) (C := RX2) (T := TX2) (N := 7) hx hb hts (fun _ h9 => List.mem_cons_of_mem _ (List.mem_append_left _ (List.mem_append_left _ (List.mem_append_right _ h9)))) hown hK hP (0) (wC_0 cy ad u1 X) rfl 6 (by decide) (hts (Cond.fieldLink RX2 39 "HeadGrid" "cost" "[J") (List.mem_of_getElem? (i := 2) rfl)) (fun _ h9 => h9) rfl dX2_fillCost_49 ?_
      refine lv_iload_n hx hb dX2_fillCost_52 rfl (lv_at hl 2 rfl) ?_
      refine lv_lload_n hx hb dX2_fillCost_53 rfl (lv_at hl 1 rfl) ?_
      refine wa_last hx hb hK hP hD hS (wC_7 cy ad u1 X) (t0 := 1) rfl (i := i0) (by omega) (by decide) dX2_fillCost_54 (wC_s7 cy ad u1 X _) (fun H locs hP hD hS => ?_)
      obtain ⟨us3, hus3⟩ : ∃ z9z : CS, z9z = (u1.1, u1.2.1, va_up u1.2.2.1 7 (vp_updL (u1.2.2.1 7) i0 z), u1.2.2.2) := ⟨_, rfl⟩
      rw [← hus3] at hP hD
      have pus3_s : us3.2.2.1 (7) = (vp_updL (u1.2.2.1 7) i0 z) := by rw [hus3]; first | exact va_up_s _ _ _ | rfl
      have pus3_o : ∀ j9, j9 ≠ 7 → us3.2.2.1 j9 = u1.2.2.1 j9 := fun j9 h9 => by rw [hus3]; exact va_up_n h9
      have pus3_1 : us3.1 = u1.1 := by rw [hus3]
      have pus3_21 : us3.2.1 = u1.2.1 := by rw [hus3]
      have pus3_222 : us3.2.2.2 = u1.2.2.2 := by rw [hus3]
      refine lv_iinc (v := (nI (i0 + 1))) (lv' := [(2, .int (nI (i0 + 1))), (5, .int (nI j0)), (3, .long z), (1, .int (nI S0)), (0, .ref (ad 0))]) hx hb dX2_fillCost_55 hl (k := 2) rfl (nI_1 _) (by decide) rfl (fun ls hl => ?_)
      refine lv_goto (tgt := 2) hx hb dX2_fillCost_58 (by decide) ?_
      exact iho (9 - (i0 + 1)) (i0 + 1, us3) _ _ ls (by omega) ⟨rfl, (by show i0 + 1 ≤ 9; omega), ⟨pus3_1.trans hF.1, pus3_21.trans hF.2.1, pus3_222.trans hF.2.2⟩, (fun k9 h9 => (pus3_o k9 h9).trans (hO k9 h9)), (fun i9 hi9 => by rw [pus3_s]; unfold vp_updL; exact (Classical.em (i9 = i0)).elim (fun e9 => by subst e9; rw [if_pos rfl, hz, show j0 = 9 by omega]; rfl) (fun e9 => by rw [if_neg e9]; exact hM i9 (by have h9 : i9 < i0 + 1 := hi9; omega))), hP, hD, hS, lv_sub hl [0, 3, 4] rfl⟩
    · refine lv_iload_n hx hb dX2_fillCost_20 rfl (lv_at hl 3 rfl) ?_
      refine lv_iload hx hb dX2_fillCost_21 (lv_at hl 0 rfl) ?_
      refine lv_ishr hx hb dX2_fillCost_23 ?_
      refine lv_iconst (v := nI 1) hx hb dX2_fillCost_24 (by decide) ?_
      refine lv_iand hx hb dX2_fillCost_25 ?_
      refine lv_topi (fun y4 ey4 => ?_)
      have ey4 : bI (S0.testBit j0) = y4 := (ey4.trans (bit_b hS0 (by omega))).symm
      subst ey4
      refine wb_if_eq (tgt := 42) hx hb dX2_fillCost_26 (by decide) (fun cB => ?_) (fun cB => ?_)
      · refine lv_iinc (v := (nI (j0 + 1))) (lv' := [(5, .int (nI (j0 + 1))), (3, .long z), (2, .int (nI i0)), (1, .int (nI S0)), (0, .ref (ad 0))]) hx hb dX2_fillCost_42 hl (k := 0) rfl (nI_1 _) (by decide) rfl (fun ls hl => ?_)
        refine lv_goto (tgt := 13) hx hb dX2_fillCost_45 (by decide) ?_
        exact ihi (9 - (j0 + 1)) (j0 + 1, z) ls (by omega) ⟨rfl, (by show j0 + 1 ≤ 9; omega), (by show z = byF ((cn (nw u)).2.2.1 8) S0 i0 (j0 + 1); rw [byF, if_neg (by rw [cB]; decide)]; exact hz), lv_sub hl [0, 1, 2, 3, 4] rfl⟩
      · refine lv_lload_n hx hb dX2_fillCost_29 rfl (lv_at hl 1 rfl) ?_
        refine lv_aload_n hx hb dX2_fillCost_30 rfl (lv_at hl 4 rfl) ?_
        refine va_get (D := dd) (ci := 4) (v := .ref (ad 2)) (C := RX2) (T := TX2) (N := 7) hx hb hts (fun _ h9 => List.mem_cons_of_mem _ (List.mem_append_left _ (List.mem_append_left _ (List.mem_append_right _ h9)))) hown hK hP (0) (wC_0 cy ad u1 X) rfl 3 (by decide) (hts (Cond.fieldLink RX2 27 "HeadGrid" "solution" "LHeadGrid$Solution;") (List.mem_of_getElem? (i := 1) rfl)) (fun _ h9 => h9) rfl dX2_fillCost_31 ?_
        refine lv_iload_n hx hb dX2_fillCost_34 rfl (lv_at hl 2 rfl) ?_
        refine lv_iload hx hb dX2_fillCost_35 (lv_at hl 0 rfl) ?_
        refine vp_callSl (va_runV (As := [.int (nI i0), .int (nI j0)]) (rest := [.long z]) ⟨hx, hb, hml, hown, hts⟩ (c_X0_scaledInfluence l dd cy ad X tt u1 i0 j0 (by omega) (by omega)) (cwV 2 hts gX2_fillCost_X0_scaledInfluence rfl rfl rfl hd_X0_scaledInfluence ⟨Nat.le_of_ble_eq_true rfl, Nat.le_of_ble_eq_true rfl⟩) (rdC_V hP hK hSt hS (wC_2 cy ad u1 X) rfl) rfl rfl hl.1 rfl (lv_room (Nat.le_of_ble_eq_true rfl)) dX2_fillCost_37 ⟨Nat.le_of_ble_eq_true rfl, Nat.le_of_ble_eq_true rfl⟩).run (fun r5 hr5 => ?_)
        have hr5 : (u1.2.2.1 (8 + i0) (9 + j0)) = r5 := hr5.symm
        subst hr5
        refine lv_ladd hx hb dX2_fillCost_40 ?_
        refine lv_topl (fun x6 ex6 => ?_)
        refine lv_lstore_n (lv' := [(3, .long x6), (5, .int (nI j0)), (2, .int (nI i0)), (1, .int (nI S0)), (0, .ref (ad 0))]) hx hb dX2_fillCost_41 rfl hl (by decide) rfl (fun ls hl => ?_)
        refine lv_iinc (v := (nI (j0 + 1))) (lv' := [(5, .int (nI (j0 + 1))), (3, .long x6), (2, .int (nI i0)), (1, .int (nI S0)), (0, .ref (ad 0))]) hx hb dX2_fillCost_42 hl (k := 1) rfl (nI_1 _) (by decide) rfl (fun ls hl => ?_)
        refine lv_goto (tgt := 13) hx hb dX2_fillCost_45 (by decide) ?_
        exact ihi (9 - (j0 + 1)) (j0 + 1, x6) ls (by omega) ⟨rfl, (by show j0 + 1 ≤ 9; omega), (by rw [ex6, hz, hO _ (by omega), infl_eq hsl htt (by omega) (by omega)]; show _ = byF ((cn (nw u)).2.2.1 8) S0 i0 (j0 + 1); rw [byF, if_pos cB]), lv_sub hl [0, 1, 2, 3, 4] rfl⟩
theorem hd_X2_payForOne : yX2_payForOne.cls = RX2 ∧ yX2_payForOne.cls ≠ "java/lang/invoke/MethodHandle" ∧ yX2_payForOne.cls ≠ "java/lang/invoke/VarHandle" ∧ (parseMethodDescriptor yX2_payForOne.desc).map (fun d => d.parameters.length) = some 1 := by decide +kernel
set_option maxHeartbeats 4000000 in
set_option maxRecDepth 100000 in
/-- payForOne(cell) -/
theorem c_X2_payForOne (l : Launch) (dd : va_G) (cy : Nat → ClassId) (ad : Nat → Nat) (X : va_W) (tt : Nat × Nat) (u : CS) (sz : Nat) (a0 : Nat) (ha0 : a0 < 9) : Met l yX2_payForOne wsX2_payForOne ({ frames := 1, cells := 0, slots := 0, locals := 22 }) (va_Pc [.ref (ad 0), .int (nI a0)] (wrC dd cy tt (wC cy ad u ++ X) sz)) (va_Qv (fun u9 => frX u u9 ∧ (∀ k, k ≠ 6 → u9.2.2.1 k = u.2.2.1 k) ∧ ∀ i, i < 9 → u9.2.2.1 6 i = u.2.2.1 6 i - u.2.2.1 (8 + i) (9 + a0)) (wB dd cy (fun u9 : CS => wC cy ad u9 ++ X) (va_A (wC cy ad u ++ X) sz)) (va_A (wC cy ad u ++ X) sz)) 0 0 (va_A (wC cy ad u ++ X) sz) := by
  refine Met.ofW (cc := cX2_payForOne) (maxL := 3) (ret := none) (by decide) rfl ?_
  intro p e s m args below meth c s₁ B hml hv
  obtain ⟨rfl, hsz, hP, hK, hD0, hSt⟩ := hv
  have hx := B.exec
  have hb := B.bytes
  have hr := B.returns
  have hts := atoms_spec (ws := wsX2_payForOne) B.pre
  have hown : s.vm.findClass RX2 = some m.cls := findClass_of_methodNamed B.named
  have hlocks := B.notSynchronized
  subst hsz
  have hD := hD0.self (sz := s.heap.size)
  generalize hAe : va_A (wC cy ad u ++ X) s.heap.size = A at hD hSt ⊢
  have hA : ∀ q : Nat, s.heap.size ≤ q → A q := fun q h => by rw [← hAe]; exact Or.inr h
  have hS : va_S A s.heap s.heap [] := va_S.rf
  have hl := lv_entry ([.ref (ad 0), .int (nI a0)]) (n := 3) (Nat.le_of_ble_eq_true rfl)
  rw [lg_entry_eq]
  generalize (lg_sl ([.ref (ad 0), .int (nI a0)]) ++ List.replicate (3 - (lg_sl ([.ref (ad 0), .int (nI a0)])).length) Slot.unset).toArray = ls at hl ⊢
  have hl : lv_has ls 3 [(0, .ref (ad 0)), (1, .int (nI a0))] := hl
  refine lv_iconst (v := nI 0) hx hb dX2_payForOne_0 (by decide) ?_
  refine lv_istore_n (lv' := [(2, .int (nI 0)), (0, .ref (ad 0)), (1, .int (nI a0))]) hx hb dX2_payForOne_1 rfl hl (by decide) rfl (fun ls hl => ?_)
  refine wLoop (σ := Nat × CS) (fun k x H locs ls => k = 9 - x.1 ∧ (x.1 ≤ 9) ∧ (frX u x.2) ∧ (∀ k9, k9 ≠ 6 → x.2.2.2.1 k9 = u.2.2.1 k9) ∧ (∀ i9, x.2.2.2.1 6 i9 = if i9 < x.1 then u.2.2.1 6 i9 - u.2.2.1 (8 + i9) (9 + a0) else u.2.2.1 6 i9) ∧ va_P dd vwCl (wC cy ad x.2 ++ X) H ∧ va_D A (wC cy ad x.2 ++ X) ∧ va_S A s.heap H locs ∧ lv_has ls 3 [(2, .int (nI x.1)), (1, .int (nI a0)), (0, .ref (ad 0))]) ?_ _ (0, u) _ _ _ ⟨rfl, (Nat.zero_le _), frX_rf, (fun _ _ => rfl), (fun i9 => by rw [if_neg (Nat.not_lt_zero i9)]), hP, hD, hS, lv_sub hl [0, 2, 1] rfl⟩
  intro ko x H locs ls hI iho
  obtain ⟨i0, u1⟩ := x
  obtain ⟨hko, hi0, hF, hO, hM, hP, hD, hS, hl⟩ := hI
  have hko : ko = 9 - i0 := hko
  have hi0 : i0 ≤ 9 := hi0
  have hF : frX u u1 := hF
  have hO : ∀ k9, k9 ≠ 6 → u1.2.2.1 k9 = u.2.2.1 k9 := hO
  have hM : ∀ i9, u1.2.2.1 6 i9 = if i9 < i0 then u.2.2.1 6 i9 - u.2.2.1 (8 + i9) (9 + a0) else u.2.2.1 6 i9 := hM
  have hP : va_P dd vwCl (wC cy ad u1 ++ X) H := hP
  have hD : va_D A (wC cy ad u1 ++ X) := hD
  have hl : lv_has ls 3 [(2, .int (nI i0)), (1, .int (nI a0)), (0, .ref (ad 0))] := hl
  refine lv_iload_n hx hb dX2_payForOne_2 rfl (lv_at hl 0 rfl) ?_
  refine lv_bipush (v := nI 9) hx hb dX2_payForOne_3 (by decide) ?_
  refine wn_icmp_ge (tgt := 32) hx hb dX2_payForOne_5 (by decide) (by omega) (by omega) (fun c1 => ?_) (fun c1 => ?_)
  · exact W.vret hx hb hr (fun t ht hW => ⟨⟨u1, rfl, ⟨hF, hO, fun i9 hi9 => by rw [hM i9, if_pos (by omega)]⟩, by rw [ht]; exact hP, va_K.moved hW.alike hK, hD⟩, hS.F ht⟩) hS.2.2 dX2_payForOne_32
  · refine lv_aload_n hx hb dX2_payForOne_8 rfl (lv_at hl 2 rfl) ?_
    refine va_get (D := dd) (ci := 4) (v := .ref (ad 6)) (C := RX2) (T := TX2) (N := 7) hx hb hts (fun _ h9 => List.mem_cons_of_mem _ (List.mem_append_left _ (List.mem_append_left _ (List.mem_append_right _ h9)))) hown hK hP (0) (wC_0 cy ad u1 X) rfl 5 (by decide) (hts (Cond.fieldLink RX2 35 "HeadGrid" "slack" "[J") (List.mem_of_getElem? (i := 1) rfl)) (fun _ h9 => h9) rfl dX2_payForOne_9 ?_
    refine lv_iload_n hx hb dX2_payForOne_12 rfl (lv_at hl 0 rfl) ?_
    refine lv_dup2_11 hx hb dX2_payForOne_13 rfl rfl ?_
    refine wa_lald hx hb hK hP (wC_6 cy ad u1 X) (t0 := 1) rfl (i := i0) (by omega) (by decide) dX2_payForOne_14 ?_
    refine lv_aload_n hx hb dX2_payForOne_15 rfl (lv_at hl 2 rfl) ?_
    refine va_get (D := dd) (ci := 4) (v := .ref (ad 2)) (C := RX2) (T := TX2) (N := 7) hx hb hts (fun _ h9 => List.mem_cons_of_mem _ (List.mem_append_left _ (List.mem_append_left _ (List.mem_append_right _ h9)))) hown hK hP (0) (wC_0 cy ad u1 X) rfl 3 (by decide) (hts (Cond.fieldLink RX2 27 "HeadGrid" "solution" "LHeadGrid$Solution;") (List.mem_of_getElem? (i := 2) rfl)) (fun _ h9 => h9) rfl dX2_payForOne_16 ?_
    refine lv_iload_n hx hb dX2_payForOne_19 rfl (lv_at hl 0 rfl) ?_
    refine lv_iload_n hx hb dX2_payForOne_20 rfl (lv_at hl 1 rfl) ?_
    refine vp_callSl (va_runV (As := [.int (nI i0), .int (nI a0)]) (rest := [.long (u1.2.2.1 6 i0), .int (nI i0), .ref (ad 6)]) ⟨hx, hb, hml, hown, hts⟩ (c_X0_scaledInfluence l dd cy ad X tt u1 i0 a0 (by omega) (by omega)) (cwV 2 hts gX2_payForOne_X0_scaledInfluence rfl rfl rfl hd_X0_scaledInfluence ⟨Nat.le_of_ble_eq_true rfl, Nat.le_of_ble_eq_true rfl⟩) (rdC_V hP hK hSt hS (wC_2 cy ad u1 X) rfl) rfl rfl hl.1 rfl (lv_room (Nat.le_of_ble_eq_true rfl)) dX2_payForOne_21 ⟨Nat.le_of_ble_eq_true rfl, Nat.le_of_ble_eq_true rfl⟩).run (fun r2 hr2 => ?_)
    have hr2 : (u1.2.2.1 (8 + i0) (9 + a0)) = r2 := hr2.symm
    subst hr2
    refine lv_lsub hx hb dX2_payForOne_24 ?_
    refine lv_topl (fun x3 ex3 => ?_)
    refine wa_last hx hb hK hP hD hS (wC_6 cy ad u1 X) (t0 := 1) rfl (i := i0) (by omega) (by decide) dX2_payForOne_25 (wC_s6 cy ad u1 X _) (fun H locs hP hD hS => ?_)
    obtain ⟨us4, hus4⟩ : ∃ z9z : CS, z9z = (u1.1, u1.2.1, va_up u1.2.2.1 6 (vp_updL (u1.2.2.1 6) i0 x3), u1.2.2.2) := ⟨_, rfl⟩
    rw [← hus4] at hP hD
    have pus4_s : us4.2.2.1 (6) = (vp_updL (u1.2.2.1 6) i0 x3) := by rw [hus4]; first | exact va_up_s _ _ _ | rfl
    have pus4_o : ∀ j9, j9 ≠ 6 → us4.2.2.1 j9 = u1.2.2.1 j9 := fun j9 h9 => by rw [hus4]; exact va_up_n h9
    have pus4_1 : us4.1 = u1.1 := by rw [hus4]
    have pus4_21 : us4.2.1 = u1.2.1 := by rw [hus4]
    have pus4_222 : us4.2.2.2 = u1.2.2.2 := by rw [hus4]
    refine lv_iinc (v := (nI (i0 + 1))) (lv' := [(2, .int (nI (i0 + 1))), (1, .int (nI a0)), (0, .ref (ad 0))]) hx hb dX2_payForOne_26 hl (k := 0) rfl (nI_1 _) (by decide) rfl (fun ls hl => ?_)
    refine lv_goto (tgt := 2) hx hb dX2_payForOne_29 (by decide) ?_
    exact iho (9 - (i0 + 1)) (i0 + 1, us4) _ _ ls (by omega) ⟨rfl, (by show i0 + 1 ≤ 9; omega), ⟨pus4_1.trans hF.1, pus4_21.trans hF.2.1, pus4_222.trans hF.2.2⟩, (fun k9 h9 => (pus4_o k9 h9).trans (hO k9 h9)), (fun i9 => by rw [pus4_s]; unfold vp_updL; exact (Classical.em (i9 = i0)).elim (fun e9 => by subst e9; rw [if_pos rfl, if_pos (Nat.lt_succ_self _), ex3, hM, if_neg (Nat.lt_irrefl _), hO _ (by omega)]) (fun e9 => by rw [if_neg e9, hM i9]; exact (Classical.em (i9 < i0)).elim (fun q9 => by rw [if_pos q9, if_pos (Nat.lt_succ_of_lt q9)]) (fun q9 => by rw [if_neg q9, if_neg (by show ¬ i9 < i0 + 1; omega)]))), hP, hD, hS, lv_sub hl [0, 1, 2] rfl⟩
theorem hd_X2_greatestPaidRate : yX2_greatestPaidRate.cls = RX2 ∧ yX2_greatestPaidRate.cls ≠ "java/lang/invoke/MethodHandle" ∧ yX2_greatestPaidRate.cls ≠ "java/lang/invoke/VarHandle" ∧ (parseMethodDescriptor yX2_greatestPaidRate.desc).map (fun d => d.parameters.length) = some 0 := by decide +kernel
set_option maxHeartbeats 4000000 in
set_option maxRecDepth 100000 in
/-- greatestPaidRate() -/
theorem c_X2_greatestPaidRate (l : Launch) (dd : va_G) (cy : Nat → ClassId) (ad : Nat → Nat) (X : va_W) (tt : Nat × Nat) (u : CS)  : Met l yX2_greatestPaidRate wsX2_greatestPaidRate ({ frames := 1, cells := 0, slots := 0, locals := 31 }) (va_Pc [.ref (ad 0)] (rdC dd cy tt (wC cy ad u ++ X))) (vp_Si (fun r => r = gpF (u.2.2.1 6) (u.2.2.1 7))) 0 0 (fun _ => False) := by
  refine Met.ofW (cc := cX2_greatestPaidRate) (maxL := 4) (ret := (some .int)) (by decide) rfl ?_
  intro p e s m args below meth c s₁ B hml hv
  obtain ⟨rfl, hP, hK, hSt⟩ := hv
  have hx := B.exec
  have hb := B.bytes
  have hr := B.returns
  have hts := atoms_spec (ws := wsX2_greatestPaidRate) B.pre
  have hown : s.vm.findClass RX2 = some m.cls := findClass_of_methodNamed B.named
  have hlocks := B.notSynchronized
  have hS : va_S (fun _ => False) s.heap s.heap [] := va_S.rf
  have hl := lv_entry ([.ref (ad 0)]) (n := 4) (Nat.le_of_ble_eq_true rfl)
  rw [lg_entry_eq]
  generalize (lg_sl ([.ref (ad 0)]) ++ List.replicate (4 - (lg_sl ([.ref (ad 0)])).length) Slot.unset).toArray = ls at hl ⊢
  have hl : lv_has ls 4 [(0, .ref (ad 0))] := hl
  refine lv_ldc2 hx hb hown (hts _ (List.mem_of_getElem? (i := 1) rfl)) dX2_greatestPaidRate_0 ?_
  refine lv_lstore_n (lv' := [(1, .long 1000), (0, .ref (ad 0))]) hx hb dX2_greatestPaidRate_3 rfl hl (by decide) rfl (fun ls hl => ?_)
  refine lv_iconst (v := nI 0) hx hb dX2_greatestPaidRate_4 (by decide) ?_
  refine lv_istore_n (lv' := [(3, .int (nI 0)), (1, .long 1000), (0, .ref (ad 0))]) hx hb dX2_greatestPaidRate_5 rfl hl (by decide) rfl (fun ls hl => ?_)
  refine wLoopR (σ := Nat × Int64) (fun k x ls => k = 9 - x.1 ∧ (x.1 ≤ 9) ∧ (x.2 = gmF (u.2.2.1 6) (u.2.2.1 7) x.1) ∧ (isF (u.2.2.1 6) x.1 = true) ∧ lv_has ls 4 [(3, .int (nI x.1)), (1, .long x.2), (0, .ref (ad 0))]) ?_ _ (0, 1000) _ ⟨rfl, (Nat.zero_le _), rfl, rfl, lv_sub hl [0, 1, 2] rfl⟩
  intro ka x ls hI iha
  obtain ⟨i0, z⟩ := x
  obtain ⟨hka, hi0, hz, hI, hl⟩ := hI
  have hka : ka = 9 - i0 := hka
  have hi0 : i0 ≤ 9 := hi0
  have hz : z = gmF (u.2.2.1 6) (u.2.2.1 7) i0 := hz
  have hI : isF (u.2.2.1 6) i0 = true := hI
  have hl : lv_has ls 4 [(3, .int (nI i0)), (1, .long z), (0, .ref (ad 0))] := hl
  refine lv_iload_n hx hb dX2_greatestPaidRate_6 rfl (lv_at hl 0 rfl) ?_
  refine lv_bipush (v := nI 9) hx hb dX2_greatestPaidRate_7 (by decide) ?_
  refine wn_icmp_ge (tgt := 60) hx hb dX2_greatestPaidRate_9 (by decide) (by omega) (by omega) (fun cH => ?_) (fun cH => ?_)
  · refine lv_lload_n hx hb dX2_greatestPaidRate_60 rfl (lv_at hl 1 rfl) ?_
    refine lv_l2i hx hb dX2_greatestPaidRate_61 rfl ?_
    exact W.iret (v := z.toInt32) hx hb hr (fun t ht hW => ⟨z.toInt32, rfl, (by unfold gpF; rw [← show i0 = 9 by omega, if_pos hI, hz]), ht⟩) (fun q hq => absurd hq List.not_mem_nil) dX2_greatestPaidRate_62
  · refine lv_aload_n hx hb dX2_greatestPaidRate_12 rfl (lv_at hl 2 rfl) ?_
    refine va_get (D := dd) (ci := 4) (v := .ref (ad 6)) (C := RX2) (T := TX2) (N := 7) hx hb hts (fun _ h9 => List.mem_cons_of_mem _ (List.mem_append_left _ (List.mem_append_left _ (List.mem_append_right _ h9)))) hown hK hP (0) (wC_0 cy ad u X) rfl 5 (by decide) (hts (Cond.fieldLink RX2 35 "HeadGrid" "slack" "[J") (List.mem_of_getElem? (i := 2) rfl)) (fun _ h9 => h9) rfl dX2_greatestPaidRate_13 ?_
    refine lv_iload_n hx hb dX2_greatestPaidRate_16 rfl (lv_at hl 0 rfl) ?_
    refine wa_lald hx hb hK hP (wC_6 cy ad u X) (t0 := 1) rfl (i := i0) (by omega) (by decide) dX2_greatestPaidRate_17 ?_
    refine lv_lconst (v := 0) hx hb dX2_greatestPaidRate_18 rfl ?_
    refine wl_ge (tgt := 25) hx hb dX2_greatestPaidRate_19 dX2_greatestPaidRate_20 (by decide) (fun cS => ?_) (fun cS => ?_)
    · refine lv_aload_n hx hb dX2_greatestPaidRate_25 rfl (lv_at hl 2 rfl) ?_
      refine va_get (D := dd) (ci := 4) (v := .ref (ad 7)) (C := RX2) (T := TX2) (N := 7) hx hb hts (fun _ h9 => List.mem_cons_of_mem _ (List.mem_append_left _ (List.mem_append_left _ (List.mem_append_right _ h9)))) hown hK hP (0) (wC_0 cy ad u X) rfl 6 (by decide) (hts (Cond.fieldLink RX2 39 "HeadGrid" "cost" "[J") (List.mem_of_getElem? (i := 3) rfl)) (fun _ h9 => h9) rfl dX2_greatestPaidRate_26 ?_
      refine lv_iload_n hx hb dX2_greatestPaidRate_29 rfl (lv_at hl 0 rfl) ?_
      refine wa_lald hx hb hK hP (wC_7 cy ad u X) (t0 := 1) rfl (i := i0) (by omega) (by decide) dX2_greatestPaidRate_30 ?_
      refine lv_lconst (v := 0) hx hb dX2_greatestPaidRate_31 rfl ?_
      refine wl_le (tgt := 54) hx hb dX2_greatestPaidRate_32 dX2_greatestPaidRate_33 (by decide) (fun cC => ?_) (fun cC => ?_)
      · refine lv_iinc (v := (nI (i0 + 1))) (lv' := [(3, .int (nI (i0 + 1))), (1, .long z), (0, .ref (ad 0))]) hx hb dX2_greatestPaidRate_54 hl (k := 0) rfl (nI_1 _) (by decide) rfl (fun ls hl => ?_)
        refine lv_goto (tgt := 6) hx hb dX2_greatestPaidRate_57 (by decide) ?_
        exact iha (9 - (i0 + 1)) (i0 + 1, z) ls (by omega) ⟨rfl, (by show i0 + 1 ≤ 9; omega), (by show z = gmF _ _ (i0 + 1); rw [gmF, if_neg (fun q9 => absurd q9.1 (by rw [Int64.not_lt]; exact cC)), ← hz]), (by show isF _ (i0 + 1) = true; rw [isF, hI, Bool.true_and, decide_eq_true_eq]; exact cS), lv_sub hl [0, 1, 2] rfl⟩
      · refine lv_lload_n hx hb dX2_greatestPaidRate_36 rfl (lv_at hl 1 rfl) ?_
        refine lv_aload_n hx hb dX2_greatestPaidRate_37 rfl (lv_at hl 2 rfl) ?_
        refine va_get (D := dd) (ci := 4) (v := .ref (ad 6)) (C := RX2) (T := TX2) (N := 7) hx hb hts (fun _ h9 => List.mem_cons_of_mem _ (List.mem_append_left _ (List.mem_append_left _ (List.mem_append_right _ h9)))) hown hK hP (0) (wC_0 cy ad u X) rfl 5 (by decide) (hts (Cond.fieldLink RX2 35 "HeadGrid" "slack" "[J") (List.mem_of_getElem? (i := 2) rfl)) (fun _ h9 => h9) rfl dX2_greatestPaidRate_38 ?_
        refine lv_iload_n hx hb dX2_greatestPaidRate_41 rfl (lv_at hl 0 rfl) ?_
        refine wa_lald hx hb hK hP (wC_6 cy ad u X) (t0 := 1) rfl (i := i0) (by omega) (by decide) dX2_greatestPaidRate_42 ?_
        refine lv_aload_n hx hb dX2_greatestPaidRate_43 rfl (lv_at hl 2 rfl) ?_
        refine va_get (D := dd) (ci := 4) (v := .ref (ad 7)) (C := RX2) (T := TX2) (N := 7) hx hb hts (fun _ h9 => List.mem_cons_of_mem _ (List.mem_append_left _ (List.mem_append_left _ (List.mem_append_right _ h9)))) hown hK hP (0) (wC_0 cy ad u X) rfl 6 (by decide) (hts (Cond.fieldLink RX2 39 "HeadGrid" "cost" "[J") (List.mem_of_getElem? (i := 3) rfl)) (fun _ h9 => h9) rfl dX2_greatestPaidRate_44 ?_
        refine lv_iload_n hx hb dX2_greatestPaidRate_47 rfl (lv_at hl 0 rfl) ?_
        refine wa_lald hx hb hK hP (wC_7 cy ad u X) (t0 := 1) rfl (i := i0) (by omega) (by decide) dX2_greatestPaidRate_48 ?_
        refine lv_ldiv hx hb dX2_greatestPaidRate_49 (fun h9 => cC (by rw [h9]; exact Int64.le_refl 0)) ?_
        refine va_mmin_long hx hb (hml.trans hl.1.symm) hown (hts (Cond.methodLink RX2 238 Lib.MathLoose.min_long.x) (List.mem_of_getElem? (i := 4) rfl)) (hts (Cond.static Lib.MathLoose.min_long.x) (List.mem_of_getElem? (i := 5) rfl)) (hts (Cond.initialized "java/lang/Math") (List.mem_of_getElem? (i := 6) rfl)) (hts (Cond.code Lib.MathLoose.min_long.x Lib.MathLoose.min_long.code 4 (some .long)) (List.mem_of_getElem? (i := 7) rfl)) (Nat.le_of_ble_eq_true rfl) (Nat.le_of_ble_eq_true rfl) (Nat.le_of_ble_eq_true rfl) (Nat.le_of_ble_eq_true rfl) dX2_greatestPaidRate_50 ?_
        refine lv_topl (fun x1 ex1 => ?_)
        refine lv_lstore_n (lv' := [(1, .long x1), (3, .int (nI i0)), (0, .ref (ad 0))]) hx hb dX2_greatestPaidRate_53 rfl hl (by decide) rfl (fun ls hl => ?_)
        refine lv_iinc (v := (nI (i0 + 1))) (lv' := [(3, .int (nI (i0 + 1))), (1, .long x1), (0, .ref (ad 0))]) hx hb dX2_greatestPaidRate_54 hl (k := 1) rfl (nI_1 _) (by decide) rfl (fun ls hl => ?_)
        refine lv_goto (tgt := 6) hx hb dX2_greatestPaidRate_57 (by decide) ?_
        exact iha (9 - (i0 + 1)) (i0 + 1, x1) ls (by omega) ⟨rfl, (by show i0 + 1 ≤ 9; omega), (by rw [ex1]; show _ = gmF _ _ (i0 + 1); rw [gmF, ← hz]; exact (Classical.em (u.2.2.1 6 i0 / u.2.2.1 7 i0 < z)).elim (fun q9 => by rw [if_pos q9, if_pos ⟨by rw [← Int64.not_le]; exact cC, q9⟩]) (fun q9 => by rw [if_neg q9, if_neg (fun t9 => q9 t9.2)])), (by show isF _ (i0 + 1) = true; rw [isF, hI, Bool.true_and, decide_eq_true_eq]; exact cS), lv_sub hl [0, 1, 2] rfl⟩
    · refine lv_iconst (v := -1) hx hb dX2_greatestPaidRate_23 i32_m1 ?_
      exact W.iret (v := (-1)) hx hb hr (fun t ht hW => ⟨(-1), rfl, (by unfold gpF; rw [isF_ng (i := i0) (by omega) cS]; rfl), ht⟩) (fun q hq => absurd hq List.not_mem_nil) dX2_greatestPaidRate_24
theorem hd_X2_greatestCommonRate : yX2_greatestCommonRate.cls = RX2 ∧ yX2_greatestCommonRate.cls ≠ "java/lang/invoke/MethodHandle" ∧ yX2_greatestCommonRate.cls ≠ "java/lang/invoke/VarHandle" ∧ (parseMethodDescriptor yX2_greatestCommonRate.desc).map (fun d => d.parameters.length) = some 1 := by decide +kernel
set_option maxHeartbeats 4000000 in
set_option maxRecDepth 100000 in
/-- greatestCommonRate(cells) -/
theorem c_X2_greatestCommonRate (l : Launch) (dd : va_G) (cy : Nat → ClassId) (ad : Nat → Nat) (X : va_W) (tt : Nat × Nat) (u : CS) (sz : Nat) (S0 : Nat) (hS0 : S0 < 512) (hrg : rgM (nw u)) (htt : nR (gNow (nw u)) 9 = 511) (hsl : slv (nw u) u) : Met l yX2_greatestCommonRate wsX2_greatestCommonRate ({ frames := 2, cells := 0, slots := 0, locals := 54 }) (va_Pc [.ref (ad 0), .int (nI S0)] (wrC dd cy tt (wC cy ad u ++ X) sz)) (va_Qi (fun r u9 => r = grU (cn (nw u)) S0 ∧ frR u u9) (wB dd cy (fun u9 : CS => wC cy ad u9 ++ X) (va_A (wC cy ad u ++ X) sz)) (va_A (wC cy ad u ++ X) sz)) 0 0 (va_A (wC cy ad u ++ X) sz) := by
  refine Met.ofW (cc := cX2_greatestCommonRate) (maxL := 2) (ret := (some .int)) (by decide) rfl ?_
  intro p e s m args below meth c s₁ B hml hv
  obtain ⟨rfl, hsz, hP, hK, hD0, hSt⟩ := hv
  have hx := B.exec
  have hb := B.bytes
  have hr := B.returns
  have hts := atoms_spec (ws := wsX2_greatestCommonRate) B.pre
  have hown : s.vm.findClass RX2 = some m.cls := findClass_of_methodNamed B.named
  have hlocks := B.notSynchronized
  subst hsz
  have hD := hD0.self (sz := s.heap.size)
  generalize hAe : va_A (wC cy ad u ++ X) s.heap.size = A at hD hSt ⊢
  have hA : ∀ q : Nat, s.heap.size ≤ q → A q := fun q h => by rw [← hAe]; exact Or.inr h
  have hS : va_S A s.heap s.heap [] := va_S.rf
  have hl := lv_entry ([.ref (ad 0), .int (nI S0)]) (n := 2) (Nat.le_of_ble_eq_true rfl)
  rw [lg_entry_eq]
  generalize (lg_sl ([.ref (ad 0), .int (nI S0)]) ++ List.replicate (2 - (lg_sl ([.ref (ad 0), .int (nI S0)])).length) Slot.unset).toArray = ls at hl ⊢
  have hl : lv_has ls 2 [(0, .ref (ad 0)), (1, .int (nI S0))] := hl
  refine lv_aload_n hx hb dX2_greatestCommonRate_0 rfl (lv_at hl 0 rfl) ?_
  refine lv_iload_n hx hb dX2_greatestCommonRate_1 rfl (lv_at hl 1 rfl) ?_
  refine wc_callv (va_runV (As := [.int (nI S0)]) (rest := []) ⟨hx, hb, hml, hown, hts⟩ (c_X2_fillSlack l dd cy ad X tt u _ S0 hS0 hrg htt hsl) (cwV 1 hts gX2_greatestCommonRate_X2_fillSlack rfl rfl rfl hd_X2_fillSlack ⟨Nat.le_of_ble_eq_true rfl, Nat.le_of_ble_eq_true rfl⟩) (wrC_V hP hK hD hSt hS hA (wC_0 cy ad u X) rfl) rfl rfl hl.1 rfl (lv_room (Nat.le_of_ble_eq_true rfl)) dX2_greatestCommonRate_2 ⟨Nat.le_of_ble_eq_true rfl, Nat.le_of_ble_eq_true rfl⟩) hD hS hA (fun us2 H locs w3 hP hD hS => ?_)
  obtain ⟨sF, sO, sM⟩ := w3
  have sR : frR u us2 := ⟨sF, fun k9 a9 b9 => sO k9 a9⟩
  have sn : nw us2 = nw u := frR_nw sR
  refine lv_aload_n hx hb dX2_greatestCommonRate_5 rfl (lv_at hl 0 rfl) ?_
  refine lv_iload_n hx hb dX2_greatestCommonRate_6 rfl (lv_at hl 1 rfl) ?_
  refine wc_callv (va_runV (As := [.int (nI S0)]) (rest := []) ⟨hx, hb, hml, hown, hts⟩ (c_X2_fillCost l dd cy ad X tt us2 _ S0 hS0 (by rw [sn]; exact hrg) (by rw [sn]; exact htt) (by rw [sn]; exact frR_slv sR hsl)) (cwV 1 hts gX2_greatestCommonRate_X2_fillCost rfl rfl rfl hd_X2_fillCost ⟨Nat.le_of_ble_eq_true rfl, Nat.le_of_ble_eq_true rfl⟩) (wrC_V hP hK hD hSt hS hA (wC_0 cy ad us2 X) rfl) rfl rfl hl.1 rfl (lv_room (Nat.le_of_ble_eq_true rfl)) dX2_greatestCommonRate_7 ⟨Nat.le_of_ble_eq_true rfl, Nat.le_of_ble_eq_true rfl⟩) hD hS hA (fun us5 H locs w6 hP hD hS => ?_)
  obtain ⟨kF, kO, kM⟩ := w6
  rw [sn] at kM
  have kR : frR us2 us5 := ⟨kF, fun k9 a9 b9 => kO k9 b9⟩
  refine lv_aload_n hx hb dX2_greatestCommonRate_10 rfl (lv_at hl 0 rfl) ?_
  refine vp_callSi (va_runV (As := []) (rest := []) ⟨hx, hb, hml, hown, hts⟩ (c_X2_greatestPaidRate l dd cy ad X tt us5 ) (cwV 0 hts gX2_greatestCommonRate_X2_greatestPaidRate rfl rfl rfl hd_X2_greatestPaidRate ⟨Nat.le_of_ble_eq_true rfl, Nat.le_of_ble_eq_true rfl⟩) (rdC_V hP hK hSt hS (wC_0 cy ad us5 X) rfl) rfl rfl hl.1 rfl (lv_room (Nat.le_of_ble_eq_true rfl)) dX2_greatestCommonRate_11 ⟨Nat.le_of_ble_eq_true rfl, Nat.le_of_ble_eq_true rfl⟩).run (fun r7 hr7 => ?_)
  exact W.iret (v := r7) hx hb hr (fun t ht hW => ⟨⟨r7, us5, rfl, ⟨by rw [hr7]; exact gpF_congr (fun k9 hk9 => by rw [kO 6 (by decide), sM k9 hk9]) (fun k9 hk9 => kM k9 hk9), frR_t sR kR⟩, by rw [ht]; exact hP, va_K.moved hW.alike hK, hD⟩, hS.F ht⟩) hS.2.2 dX2_greatestCommonRate_14
theorem hd_X2_bestRates : yX2_bestRates.cls = RX2 ∧ yX2_bestRates.cls ≠ "java/lang/invoke/MethodHandle" ∧ yX2_bestRates.cls ≠ "java/lang/invoke/VarHandle" ∧ (parseMethodDescriptor yX2_bestRates.desc).map (fun d => d.parameters.length) = some 2 := by decide +kernel
set_option maxHeartbeats 4000000 in
set_option maxRecDepth 100000 in
/-- bestRates(a, b) -/
theorem c_X2_bestRates (l : Launch) (dd : va_G) (cy : Nat → ClassId) (ad : Nat → Nat) (X : va_W) (tt : Nat × Nat) (u : CS) (sz : Nat) (a0 b0 : Nat) (ha0 : a0 < 9) (hb0 : b0 < 9) (hrg : rgM (nw u)) (htt : nR (gNow (nw u)) 9 = 511) (hsl : slv (nw u) u) : Met l yX2_bestRates wsX2_bestRates ({ frames := 2, cells := 0, slots := 0, locals := 54 }) (va_Pc [.ref (ad 0), .int (nI a0), .int (nI b0)] (wrC dd cy tt (wC cy ad u ++ X) sz)) (va_Qi (fun r u9 => r = boU (cn (nw u)) a0 b0 ∧ frR u u9) (wB dd cy (fun u9 : CS => wC cy ad u9 ++ X) (va_A (wC cy ad u ++ X) sz)) (va_A (wC cy ad u ++ X) sz)) 0 0 (va_A (wC cy ad u ++ X) sz) := by
  refine Met.ofW (cc := cX2_bestRates) (maxL := 7) (ret := (some .int)) (by decide) rfl ?_
  intro p e s m args below meth c s₁ B hml hv
  obtain ⟨rfl, hsz, hP, hK, hD0, hSt⟩ := hv
  have hx := B.exec
  have hb := B.bytes
  have hr := B.returns
  have hts := atoms_spec (ws := wsX2_bestRates) B.pre
  have hown : s.vm.findClass RX2 = some m.cls := findClass_of_methodNamed B.named
  have hlocks := B.notSynchronized
  subst hsz
  have hD := hD0.self (sz := s.heap.size)
  generalize hAe : va_A (wC cy ad u ++ X) s.heap.size = A at hD hSt ⊢
  have hA : ∀ q : Nat, s.heap.size ≤ q → A q := fun q h => by rw [← hAe]; exact Or.inr h
  have hS : va_S A s.heap s.heap [] := va_S.rf
  have hl := lv_entry ([.ref (ad 0), .int (nI a0), .int (nI b0)]) (n := 7) (Nat.le_of_ble_eq_true rfl)
  rw [lg_entry_eq]
  generalize (lg_sl ([.ref (ad 0), .int (nI a0), .int (nI b0)]) ++ List.replicate (7 - (lg_sl ([.ref (ad 0), .int (nI a0), .int (nI b0)])).length) Slot.unset).toArray = ls at hl ⊢
  have hl : lv_has ls 7 [(0, .ref (ad 0)), (1, .int (nI a0)), (2, .int (nI b0))] := hl
  refine lv_aload_n hx hb dX2_bestRates_0 rfl (lv_at hl 0 rfl) ?_
  refine lv_iconst (v := nI 1) hx hb dX2_bestRates_1 (by decide) ?_
  refine lv_iload_n hx hb dX2_bestRates_2 rfl (lv_at hl 1 rfl) ?_
  refine lv_ishl hx hb dX2_bestRates_3 ?_
  have hp9 : 2 ^ a0 < 512 := by have := Nat.pow_le_pow_right (show 0 < 2 by decide) (show a0 ≤ 8 by omega); omega
  have hp8 : 2 ^ b0 < 512 := by have := Nat.pow_le_pow_right (show 0 < 2 by decide) (show b0 ≤ 8 by omega); omega
  refine lv_topi (fun y1 ey1 => ?_)
  have ey1 : (nI (2 ^ a0)) = y1 := (ey1.trans (shl9 a0 (by omega))).symm
  subst ey1
  refine lv_iconst (v := nI 1) hx hb dX2_bestRates_4 (by decide) ?_
  refine lv_iload_n hx hb dX2_bestRates_5 rfl (lv_at hl 2 rfl) ?_
  refine lv_ishl hx hb dX2_bestRates_6 ?_
  refine lv_ior hx hb dX2_bestRates_7 ?_
  refine lv_topi (fun y2 ey2 => ?_)
  have ey2 : (nI (2 ^ a0 ||| 2 ^ b0)) = y2 := (ey2.trans (or9 _ hp9 b0 (by omega)).1).symm
  subst ey2
  refine wc_callv (va_runV (As := [.int (nI (2 ^ a0 ||| 2 ^ b0))]) (rest := []) ⟨hx, hb, hml, hown, hts⟩ (c_X2_fillSlack l dd cy ad X tt u _ (2 ^ a0 ||| 2 ^ b0) (or9 _ hp9 b0 (by omega)).2 hrg htt hsl) (cwV 1 hts gX2_bestRates_X2_fillSlack rfl rfl rfl hd_X2_fillSlack ⟨Nat.le_of_ble_eq_true rfl, Nat.le_of_ble_eq_true rfl⟩) (wrC_V hP hK hD hSt hS hA (wC_0 cy ad u X) rfl) rfl rfl hl.1 rfl (lv_room (Nat.le_of_ble_eq_true rfl)) dX2_bestRates_8 ⟨Nat.le_of_ble_eq_true rfl, Nat.le_of_ble_eq_true rfl⟩) hD hS hA (fun us4 H locs w5 hP hD hS => ?_)
  obtain ⟨sF, sO, sM⟩ := w5
  have sR : frR u us4 := ⟨sF, fun k9 a9 b9 => sO k9 a9⟩
  have sn : nw us4 = nw u := frR_nw sR
  refine lv_aload_n hx hb dX2_bestRates_11 rfl (lv_at hl 0 rfl) ?_
  refine lv_iconst (v := nI 1) hx hb dX2_bestRates_12 (by decide) ?_
  refine lv_iload_n hx hb dX2_bestRates_13 rfl (lv_at hl 2 rfl) ?_
  refine lv_ishl hx hb dX2_bestRates_14 ?_
  refine lv_topi (fun y6 ey6 => ?_)
  have ey6 : (nI (2 ^ b0)) = y6 := (ey6.trans (shl9 b0 (by omega))).symm
  subst ey6
  refine wc_callv (va_runV (As := [.int (nI (2 ^ b0))]) (rest := []) ⟨hx, hb, hml, hown, hts⟩ (c_X2_fillCost l dd cy ad X tt us4 _ (2 ^ b0) hp8 (by rw [sn]; exact hrg) (by rw [sn]; exact htt) (by rw [sn]; exact frR_slv sR hsl)) (cwV 1 hts gX2_bestRates_X2_fillCost rfl rfl rfl hd_X2_fillCost ⟨Nat.le_of_ble_eq_true rfl, Nat.le_of_ble_eq_true rfl⟩) (wrC_V hP hK hD hSt hS hA (wC_0 cy ad us4 X) rfl) rfl rfl hl.1 rfl (lv_room (Nat.le_of_ble_eq_true rfl)) dX2_bestRates_15 ⟨Nat.le_of_ble_eq_true rfl, Nat.le_of_ble_eq_true rfl⟩) hD hS hA (fun us8 H locs w9 hP hD hS => ?_)
  obtain ⟨kF, kO, kM⟩ := w9
  rw [sn] at kM
  have kR : frR us4 us8 := ⟨kF, fun k9 a9 b9 => kO k9 b9⟩
  refine lv_iconst (v := -1) hx hb dX2_bestRates_18 i32_m1 ?_
  refine lv_istore_n (lv' := [(3, .int (-1)), (0, .ref (ad 0)), (1, .int (nI a0)), (2, .int (nI b0))]) hx hb dX2_bestRates_19 rfl hl (by decide) rfl (fun ls hl => ?_)
  refine lv_iconst (v := -1) hx hb dX2_bestRates_20 i32_m1 ?_
  refine lv_istore (lv' := [(4, .int (-1)), (3, .int (-1)), (0, .ref (ad 0)), (1, .int (nI a0)), (2, .int (nI b0))]) hx hb dX2_bestRates_21 hl (by decide) rfl (fun ls hl => ?_)
  refine lv_iconst (v := nI 0) hx hb dX2_bestRates_23 (by decide) ?_
  refine lv_istore (lv' := [(5, .int (nI 0)), (4, .int (-1)), (3, .int (-1)), (0, .ref (ad 0)), (1, .int (nI a0)), (2, .int (nI b0))]) hx hb dX2_bestRates_24 hl (by decide) rfl (fun ls hl => ?_)
  refine wLoop (σ := Nat × Int32 × Int32 × CS) (fun k x H locs ls => k = 1001 - x.1 ∧ (x.1 ≤ 1001) ∧ (frR u x.2.2.2) ∧ (∀ i9, i9 < 9 → x.2.2.2.2.2.1 6 i9 = (LT (nw u) (2 ^ a0 ||| 2 ^ b0) a0 x.1) i9) ∧ (∀ i9, i9 < 9 → x.2.2.2.2.2.1 7 i9 = own8 (nw u) b0 i9) ∧ (x.2.1.toInt = (boF (rfV (nw u) (2 ^ a0 ||| 2 ^ b0) a0 b0) x.1).1.toInt) ∧ ((x.1 = 0 ∧ x.2.2.1 = -1) ∨ (1 ≤ x.1 ∧ isF (LT (nw u) (2 ^ a0 ||| 2 ^ b0) a0 0) 9 = true ∧ x.2.2.1 = (boF (rfV (nw u) (2 ^ a0 ||| 2 ^ b0) a0 b0) x.1).2)) ∧ va_P dd vwCl (wC cy ad x.2.2.2 ++ X) H ∧ va_D A (wC cy ad x.2.2.2 ++ X) ∧ va_S A s.heap H locs ∧ lv_has ls 7 [(5, .int (nI x.1)), (4, .int x.2.1), (3, .int x.2.2.1), (2, .int (nI b0)), (1, .int (nI a0)), (0, .ref (ad 0))]) ?_ _ (0, (-1), (-1), us8) _ _ _ ⟨rfl, (Nat.zero_le _), (frR_t sR kR), (fun i9 hi9 => by show _ = (LT (nw u) (2 ^ a0 ||| 2 ^ b0) a0 0) i9; rw [LT_0, kO 6 (by decide)]; exact sM i9 hi9), (fun i9 hi9 => by rw [kM i9 hi9]; unfold byU own8; rw [by_one, if_pos (by omega)]), (by show (-1 : Int32).toInt = (-1 : Int64).toInt; decide), (Or.inl ⟨rfl, rfl⟩), hP, hD, hS, lv_sub hl [0, 1, 2, 5, 4, 3] rfl⟩
  intro kb x H locs ls hI ihb
  obtain ⟨t0, x0, y0, u1⟩ := x
  obtain ⟨hkb, ht0, hR, hL, hC, hX, hY, hP, hD, hS, hl⟩ := hI
  have hkb : kb = 1001 - t0 := hkb
  have ht0 : t0 ≤ 1001 := ht0
  have hR : frR u u1 := hR
  have hL : ∀ i9, i9 < 9 → u1.2.2.1 6 i9 = (LT (nw u) (2 ^ a0 ||| 2 ^ b0) a0 t0) i9 := hL
  have hC : ∀ i9, i9 < 9 → u1.2.2.1 7 i9 = own8 (nw u) b0 i9 := hC
  have hX : x0.toInt = (boF (rfV (nw u) (2 ^ a0 ||| 2 ^ b0) a0 b0) t0).1.toInt := hX
  have hY : (t0 = 0 ∧ y0 = -1) ∨ (1 ≤ t0 ∧ isF (LT (nw u) (2 ^ a0 ||| 2 ^ b0) a0 0) 9 = true ∧ y0 = (boF (rfV (nw u) (2 ^ a0 ||| 2 ^ b0) a0 b0) t0).2) := hY
  have hP : va_P dd vwCl (wC cy ad u1 ++ X) H := hP
  have hD : va_D A (wC cy ad u1 ++ X) := hD
  have hl : lv_has ls 7 [(5, .int (nI t0)), (4, .int x0), (3, .int y0), (2, .int (nI b0)), (1, .int (nI a0)), (0, .ref (ad 0))] := hl
  refine lv_iload hx hb dX2_bestRates_26 (lv_at hl 0 rfl) ?_
  refine lv_sipush (v := nI 1000) hx hb dX2_bestRates_28 (by decide) ?_
  refine wn_icmp_gt (tgt := 87) hx hb dX2_bestRates_31 (by decide) (by omega) (by omega) (fun cH => ?_) (fun cH => ?_)
  · refine lv_iload_n hx hb dX2_bestRates_87 rfl (lv_at hl 2 rfl) ?_
    exact W.iret (v := y0) hx hb hr (fun t ht hW => ⟨⟨y0, u1, rfl, ⟨by rw [show boU (cn (nw u)) a0 b0 = if isF (abU (cn (nw u)) (2 ^ a0 ||| 2 ^ b0)) 9 = true then (boF (rfV (nw u) (2 ^ a0 ||| 2 ^ b0) a0 b0) 1001).2 else -1 from rfl, isF_congr (g := (LT (nw u) (2 ^ a0 ||| 2 ^ b0) a0 0)) (fun k9 _ => (LT_0 k9).symm)]; rcases hY with q9 | q9; (exact absurd q9.1 (by omega)); (rw [if_pos q9.2.1, q9.2.2, show t0 = 1001 by omega]), hR⟩, by rw [ht]; exact hP, va_K.moved hW.alike hK, hD⟩, hS.F ht⟩) hS.2.2 dX2_bestRates_88
  · refine lv_aload_n hx hb dX2_bestRates_34 rfl (lv_at hl 5 rfl) ?_
    refine vp_callSi (va_runV (As := []) (rest := []) ⟨hx, hb, hml, hown, hts⟩ (c_X2_greatestPaidRate l dd cy ad X tt u1 ) (cwV 0 hts gX2_bestRates_X2_greatestPaidRate rfl rfl rfl hd_X2_greatestPaidRate ⟨Nat.le_of_ble_eq_true rfl, Nat.le_of_ble_eq_true rfl⟩) (rdC_V hP hK hSt hS (wC_0 cy ad u1 X) rfl) rfl rfl hl.1 rfl (lv_room (Nat.le_of_ble_eq_true rfl)) dX2_bestRates_35 ⟨Nat.le_of_ble_eq_true rfl, Nat.le_of_ble_eq_true rfl⟩).run (fun r10 hr10 => ?_)
    refine lv_istore (lv' := [(6, .int r10), (5, .int (nI t0)), (4, .int x0), (3, .int y0), (2, .int (nI b0)), (1, .int (nI a0)), (0, .ref (ad 0))]) hx hb dX2_bestRates_38 hl (by decide) rfl (fun ls hl => ?_)
    have h6 : r10 = ((rfV (nw u) (2 ^ a0 ||| 2 ^ b0) a0 b0) t0).toInt32 := by rw [hr10, ← gp_rf]; exact gpF_congr hL hC
    refine lv_iload hx hb dX2_bestRates_40 (lv_at hl 0 rfl) ?_
    refine lv_iconst (v := -1) hx hb dX2_bestRates_42 i32_m1 ?_
    refine lv_icmp_ne (tgt := 49) hx hb dX2_bestRates_43 (by decide) (fun cN => ?_) (fun cN => ?_)
    · have hI9 : isF (LT (nw u) (2 ^ a0 ||| 2 ^ b0) a0 t0) 9 = true := by cases q9 : isF (LT (nw u) (2 ^ a0 ||| 2 ^ b0) a0 t0) 9; (exact absurd ((rf_m1 h6).mpr q9) cN); (rfl)
      have hst := bo_step (show t0 ≤ 1000 by omega) (rf_pos hI9) hX h6
      have hI0 : isF (LT (nw u) (2 ^ a0 ||| 2 ^ b0) a0 0) 9 = true := by rcases hY with q9 | q9; (rw [q9.1] at hI9; exact hI9); (exact q9.2.1)
      refine lv_iload hx hb dX2_bestRates_49 (lv_at hl 1 rfl) ?_
      refine lv_iload hx hb dX2_bestRates_51 (lv_at hl 0 rfl) ?_
      refine lv_iadd hx hb dX2_bestRates_53 ?_
      refine lv_iload hx hb dX2_bestRates_54 (lv_at hl 2 rfl) ?_
      refine lv_icmp_le (tgt := 76) hx hb dX2_bestRates_56 (by decide) (fun cG => ?_) (fun cG => ?_)
      · refine lv_aload_n hx hb dX2_bestRates_76 rfl (lv_at hl 6 rfl) ?_
        refine lv_iload_n hx hb dX2_bestRates_77 rfl (lv_at hl 5 rfl) ?_
        refine wc_callv (va_runV (As := [.int (nI a0)]) (rest := []) ⟨hx, hb, hml, hown, hts⟩ (c_X2_payForOne l dd cy ad X tt u1 _ a0 (by omega)) (cwV 1 hts gX2_bestRates_X2_payForOne rfl rfl rfl hd_X2_payForOne ⟨Nat.le_of_ble_eq_true rfl, Nat.le_of_ble_eq_true rfl⟩) (wrC_V hP hK hD hSt hS hA (wC_0 cy ad u1 X) rfl) rfl rfl hl.1 rfl (lv_room (Nat.le_of_ble_eq_true rfl)) dX2_bestRates_78 ⟨Nat.le_of_ble_eq_true rfl, Nat.le_of_ble_eq_true rfl⟩) hD hS hA (fun us12 H locs w13 hP hD hS => ?_)
        obtain ⟨oF, oO, oM⟩ := w13
        refine lv_iinc (v := (nI (t0 + 1))) (lv' := [(5, .int (nI (t0 + 1))), (6, .int r10), (4, .int x0), (3, .int y0), (2, .int (nI b0)), (1, .int (nI a0)), (0, .ref (ad 0))]) hx hb dX2_bestRates_81 hl (k := 1) rfl (nI_1 _) (by decide) rfl (fun ls hl => ?_)
        refine lv_goto (tgt := 26) hx hb dX2_bestRates_84 (by decide) ?_
        exact ihb (1001 - (t0 + 1)) (t0 + 1, x0, y0, us12) _ _ ls (by omega) ⟨rfl, (by show t0 + 1 ≤ 1001; omega), (frR_t hR ⟨oF, fun k9 a9 b9 => oO k9 a9⟩), (fun i9 hi9 => by rw [oM i9 hi9, hL i9 hi9, hR.2 _ (by omega) (by omega), infl_eq hsl htt hi9 (by omega)]; exact LT_next hrg htt (by omega) hi9 (by omega)), (fun i9 hi9 => by rw [oO 7 (by decide)]; exact hC i9 hi9), (by show x0.toInt = (boF (rfV (nw u) (2 ^ a0 ||| 2 ^ b0) a0 b0) (t0 + 1)).1.toInt; rw [hst.1 cG]; exact hX), (Or.inr ⟨by show 1 ≤ t0 + 1; omega, hI0, by show y0 = (boF (rfV (nw u) (2 ^ a0 ||| 2 ^ b0) a0 b0) (t0 + 1)).2; rw [hst.1 cG]; rcases hY with q9 | q9; (exact absurd cG (by rw [i32_le', hX, q9.1]; have h8 := rf_pos (b := b0) hI0; rw [q9.1] at h6; rw [show (nI 0 + r10).toInt = ((rfV (nw u) (2 ^ a0 ||| 2 ^ b0) a0 b0) 0).toInt by rw [h6, nI_0, Int32.zero_add]; exact FP.Core.int64_toInt32 (by omega) (by omega), show (boF (rfV (nw u) (2 ^ a0 ||| 2 ^ b0) a0 b0) 0).1.toInt = -1 from rfl]; omega)); (exact q9.2.2)⟩), hP, hD, hS, lv_sub hl [0, 2, 3, 4, 5, 6] rfl⟩
      · refine lv_iload hx hb dX2_bestRates_59 (lv_at hl 1 rfl) ?_
        refine lv_iload hx hb dX2_bestRates_61 (lv_at hl 0 rfl) ?_
        refine lv_iadd hx hb dX2_bestRates_63 ?_
        refine lv_topi (fun x14 ex14 => ?_)
        refine lv_istore (lv' := [(4, .int x14), (6, .int r10), (5, .int (nI t0)), (3, .int y0), (2, .int (nI b0)), (1, .int (nI a0)), (0, .ref (ad 0))]) hx hb dX2_bestRates_64 hl (by decide) rfl (fun ls hl => ?_)
        refine lv_sipush (v := nI 10000) hx hb dX2_bestRates_66 (by decide) ?_
        refine lv_iload hx hb dX2_bestRates_69 (lv_at hl 2 rfl) ?_
        refine wn_imul hx hb dX2_bestRates_71 ?_
        refine lv_iload hx hb dX2_bestRates_72 (lv_at hl 1 rfl) ?_
        refine lv_iadd hx hb dX2_bestRates_74 ?_
        refine lv_topi (fun x15 ex15 => ?_)
        refine lv_istore_n (lv' := [(3, .int x15), (4, .int x14), (6, .int r10), (5, .int (nI t0)), (2, .int (nI b0)), (1, .int (nI a0)), (0, .ref (ad 0))]) hx hb dX2_bestRates_75 rfl hl (by decide) rfl (fun ls hl => ?_)
        refine lv_aload_n hx hb dX2_bestRates_76 rfl (lv_at hl 6 rfl) ?_
        refine lv_iload_n hx hb dX2_bestRates_77 rfl (lv_at hl 5 rfl) ?_
        refine wc_callv (va_runV (As := [.int (nI a0)]) (rest := []) ⟨hx, hb, hml, hown, hts⟩ (c_X2_payForOne l dd cy ad X tt u1 _ a0 (by omega)) (cwV 1 hts gX2_bestRates_X2_payForOne rfl rfl rfl hd_X2_payForOne ⟨Nat.le_of_ble_eq_true rfl, Nat.le_of_ble_eq_true rfl⟩) (wrC_V hP hK hD hSt hS hA (wC_0 cy ad u1 X) rfl) rfl rfl hl.1 rfl (lv_room (Nat.le_of_ble_eq_true rfl)) dX2_bestRates_78 ⟨Nat.le_of_ble_eq_true rfl, Nat.le_of_ble_eq_true rfl⟩) hD hS hA (fun us17 H locs w18 hP hD hS => ?_)
        obtain ⟨oF, oO, oM⟩ := w18
        refine lv_iinc (v := (nI (t0 + 1))) (lv' := [(5, .int (nI (t0 + 1))), (3, .int x15), (4, .int x14), (6, .int r10), (2, .int (nI b0)), (1, .int (nI a0)), (0, .ref (ad 0))]) hx hb dX2_bestRates_81 hl (k := 3) rfl (nI_1 _) (by decide) rfl (fun ls hl => ?_)
        refine lv_goto (tgt := 26) hx hb dX2_bestRates_84 (by decide) ?_
        exact ihb (1001 - (t0 + 1)) (t0 + 1, x14, x15, us17) _ _ ls (by omega) ⟨rfl, (by show t0 + 1 ≤ 1001; omega), (frR_t hR ⟨oF, fun k9 a9 b9 => oO k9 a9⟩), (fun i9 hi9 => by rw [oM i9 hi9, hL i9 hi9, hR.2 _ (by omega) (by omega), infl_eq hsl htt hi9 (by omega)]; exact LT_next hrg htt (by omega) hi9 (by omega)), (fun i9 hi9 => by rw [oO 7 (by decide)]; exact hC i9 hi9), (by show x14.toInt = (boF (rfV (nw u) (2 ^ a0 ||| 2 ^ b0) a0 b0) (t0 + 1)).1.toInt; rw [ex14, (hst.2 cG).1, (hst.2 cG).2]), (Or.inr ⟨by show 1 ≤ t0 + 1; omega, hI0, by show x15 = (boF (rfV (nw u) (2 ^ a0 ||| 2 ^ b0) a0 b0) (t0 + 1)).2; rw [ex15, (hst.2 cG).1]⟩), hP, hD, hS, lv_sub hl [0, 2, 1, 4, 5, 6] rfl⟩
    · refine lv_goto (tgt := 87) hx hb dX2_bestRates_46 (by decide) ?_
      refine lv_iload_n hx hb dX2_bestRates_87 rfl (lv_at hl 3 rfl) ?_
      exact W.iret (v := y0) hx hb hr (fun t ht hW => ⟨⟨y0, u1, rfl, ⟨by rw [show boU (cn (nw u)) a0 b0 = if isF (abU (cn (nw u)) (2 ^ a0 ||| 2 ^ b0)) 9 = true then (boF (rfV (nw u) (2 ^ a0 ||| 2 ^ b0) a0 b0) 1001).2 else -1 from rfl, isF_congr (g := (LT (nw u) (2 ^ a0 ||| 2 ^ b0) a0 0)) (fun k9 _ => (LT_0 k9).symm)]; have hf9 := (rf_m1 h6).mp cN; rcases hY with q9 | q9; (rw [q9.1] at hf9; rw [if_neg (by rw [hf9]; decide), q9.2]); (rw [if_pos q9.2.1, q9.2.2]; exact (congrArg Prod.snd (bo_stop (rf := (rfV (nw u) (2 ^ a0 ||| 2 ^ b0) a0 b0)) (t0 := t0) (by omega) (fun t9 h1 h2 => rf_neg (LT_stop hrg htt (by omega) hf9 h1 (by omega))))).symm), hR⟩, by rw [ht]; exact hP, va_K.moved hW.alike hK, hD⟩, hS.F ht⟩) hS.2.2 dX2_bestRates_88

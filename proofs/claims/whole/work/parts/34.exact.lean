/-! the class: exact values, sweeps, rates -/
theorem den_l {now : Nat → Int32} {u : CS} (hr : rgM now) (htt : nR (gNow now) 9 = 511) (hs : slv now u) : lN (det 9 (AM now)).toNat = u.2.2.2.2.2.1 ∧ 0 < (det 9 (AM now)).toNat ∧ (det 9 (AM now)).toNat < 2 ^ 28 := by
  have h := tight_det hr htt
  exact ⟨by rw [hs.1]; exact (ofI_nat (Int.le_of_lt h.1)).symm, by omega, by omega⟩
theorem fl_ends : ∀ k, k < 24 → (k % 4 < 3 → fe k = ot (flC k) (flS k) ∧ se k = flC k) ∧ (¬ k % 4 < 3 → fe k = flC k ∧ se k = ot (flC k) (flS k)) := by decide
theorem if_links : ∀ d, d < 4 → ∀ k, k < 3 → (lk (ifC d k) d = (if d = 0 ∨ d = 2 then 12 else 0) + (if d = 1 ∨ d = 2 then 3 else 0) + 4 * k) ∧ (¬ (d = 1 ∨ d = 2) → fe (lk (ifC d k) d) = ot (ifC d k) d ∧ se (lk (ifC d k) d) = ifC d k) ∧ ((d = 1 ∨ d = 2) → se (lk (ifC d k) d) = ot (ifC d k) d ∧ fe (lk (ifC d k) d) = ifC d k) := by decide
theorem smL_neg {f g : Nat → Int64} : ∀ {n : Nat}, (∀ k, k < n → - f k = g k) → - smL n f = smL n g
  | 0, _ => by rw [smL, smL, Int64.neg_zero]
  | n + 1, h => by rw [smL, smL, Int64.neg_add, smL_neg (fun k hk => h k (by omega)), Int64.sub_eq_add_neg, h n (by omega)]
theorem neg_flow (c x y : Int64) : -(c * (x - y)) = c * (y - x) := by rw [← Int64.mul_neg, Int64.neg_sub]
/-- the flow of a link, as the class says it -/
def flK (now : Nat → Int32) (k : Nat) : Int64 := (now k).toInt64 * (hdM (cn now) (fe k) - hdM (cn now) (se k))
theorem flK_M {now : Nat → Int32} {k : Nat} (hk : k < 24) : flK now k = flM (cn now) k := by
  unfold flK flM
  show (now k).toInt64 * _ = (now k).toInt64 * _
  by_cases h : k % 4 < 3
  · rw [if_pos h, ((fl_ends k hk).1 h).1, ((fl_ends k hk).1 h).2]
  · rw [if_neg h, ((fl_ends k hk).2 h).1, ((fl_ends k hk).2 h).2]
def ifL (d k : Nat) : Nat := (if d = 0 ∨ d = 2 then 12 else 0) + (if d = 1 ∨ d = 2 then 3 else 0) + 4 * k
theorem ifL_lt : ∀ d, d < 4 → ∀ k, k < 3 → ifL d k < 24 := by decide
theorem hd_cell {now : Nat → Int32} {c : Nat} (hc : c < 9) : hdM (cn now) c = (cn now).2.2.1 9 c := by unfold hdM; rw [if_pos hc]
theorem if_in {now : Nat → Int32} {d : Nat} (hd : d < 4) (h : ¬ (d = 1 ∨ d = 2)) : smL 3 (fun k => flK now (ifL d k)) = ifM (cn now) d := by
  unfold ifM
  refine smL_congr (fun k hk => ?_)
  have e := if_links d hd k hk
  have hc := ifC_lt hd hk
  show flK now (ifL d k) = (now (lk (ifC d k) d)).toInt64 * (hdM (cn now) (ot (ifC d k) d) - (cn now).2.2.1 9 (ifC d k))
  rw [show ifL d k = lk (ifC d k) d from e.1.symm]
  unfold flK
  rw [(e.2.1 h).1, (e.2.1 h).2, hd_cell hc]
theorem if_out {now : Nat → Int32} {d : Nat} (hd : d < 4) (h : d = 1 ∨ d = 2) : - smL 3 (fun k => flK now (ifL d k)) = ifM (cn now) d := by
  unfold ifM
  refine smL_neg (fun k hk => ?_)
  have e := if_links d hd k hk
  have hc := ifC_lt hd hk
  show - flK now (ifL d k) = (now (lk (ifC d k) d)).toInt64 * (hdM (cn now) (ot (ifC d k) d) - (cn now).2.2.1 9 (ifC d k))
  rw [show ifL d k = lk (ifC d k) d from e.1.symm]
  unfold flK
  rw [(e.2.2 h).1, (e.2.2 h).2, hd_cell hc, neg_flow]
theorem isF_lt {ab : Nat → Int64} : ∀ {n i : Nat}, i < n → isF ab n = true → 0 ≤ ab i
  | 0, i, h, _ => absurd h (Nat.not_lt_zero i)
  | n + 1, i, h, q => by
    rw [isF, Bool.and_eq_true, decide_eq_true_eq] at q
    by_cases e : i = n
    · rw [e]; exact q.2
    · exact isF_lt (by omega) q.1
theorem isF_ng {ab : Nat → Int64} {i n : Nat} (h : i < n) (hn : ¬ 0 ≤ ab i) : isF ab n = false := by
  cases q : isF ab n
  · rfl
  · exact absurd (isF_lt h q) hn
def gpF (ab cs : Nat → Int64) : Int32 := if isF ab 9 = true then (gmF ab cs 9).toInt32 else -1
theorem hd_X2_scaledHeadOfEnd : yX2_scaledHeadOfEnd.cls = RX2 ∧ yX2_scaledHeadOfEnd.cls ≠ "java/lang/invoke/MethodHandle" ∧ yX2_scaledHeadOfEnd.cls ≠ "java/lang/invoke/VarHandle" ∧ (parseMethodDescriptor yX2_scaledHeadOfEnd.desc).map (fun d => d.parameters.length) = some 1 := by decide +kernel
set_option maxHeartbeats 4000000 in
set_option maxRecDepth 100000 in
/-- scaledHeadOfEnd(end) -/
theorem c_X2_scaledHeadOfEnd (l : Launch) (dd : va_G) (cy : Nat → ClassId) (ad : Nat → Nat) (X : va_W) (tt : Nat × Nat) (u : CS) (q0 : Nat) (hq0 : q0 < 21) (hrg : rgM (nw u)) (htt : nR (gNow (nw u)) 9 = 511) (hsl : slv (nw u) u) : Met l yX2_scaledHeadOfEnd wsX2_scaledHeadOfEnd ({ frames := 0, cells := 0, slots := 0, locals := 0 }) (va_Pc [.ref (ad 0), .int (nI q0)] (rdC dd cy tt (wC cy ad u ++ X))) (vp_Sl (fun r => r = hdM (cn (nw u)) q0)) 0 0 (fun _ => False) := by
  refine Met.ofW (cc := cX2_scaledHeadOfEnd) (maxL := 2) (ret := (some .long)) (by decide) rfl ?_
  intro p e s m args below meth c s₁ B hml hv
  obtain ⟨rfl, hP, hK, hSt⟩ := hv
  have hx := B.exec
  have hb := B.bytes
  have hr := B.returns
  have hts := atoms_spec (ws := wsX2_scaledHeadOfEnd) B.pre
  have hown : s.vm.findClass RX2 = some m.cls := findClass_of_methodNamed B.named
  have hlocks := B.notSynchronized
  have hS : va_S (fun _ => False) s.heap s.heap [] := va_S.rf
  have hl := lv_entry ([.ref (ad 0), .int (nI q0)]) (n := 2) (Nat.le_of_ble_eq_true rfl)
  rw [lg_entry_eq]
  generalize (lg_sl ([.ref (ad 0), .int (nI q0)]) ++ List.replicate (2 - (lg_sl ([.ref (ad 0), .int (nI q0)])).length) Slot.unset).toArray = ls at hl ⊢
  have hl : lv_has ls 2 [(0, .ref (ad 0)), (1, .int (nI q0))] := hl
  refine lv_iload_n hx hb dX2_scaledHeadOfEnd_0 rfl (lv_at hl 1 rfl) ?_
  refine lv_bipush (v := nI 9) hx hb dX2_scaledHeadOfEnd_1 (by decide) ?_
  refine wn_icmp_ge (tgt := 16) hx hb dX2_scaledHeadOfEnd_3 (by decide) (by omega) (by omega) (fun cQ => ?_) (fun cQ => ?_)
  · refine lv_aload_n hx hb dX2_scaledHeadOfEnd_16 rfl (lv_at hl 0 rfl) ?_
    refine va_get (D := dd) (ci := 4) (v := .ref (ad 2)) (C := RX2) (T := TX2) (N := 7) hx hb hts (fun _ h9 => List.mem_cons_of_mem _ (List.mem_append_left _ (List.mem_append_left _ (List.mem_append_left _ (List.mem_append_right _ h9))))) hown hK hP (0) (wC_0 cy ad u X) rfl 3 (by decide) (hts (Cond.fieldLink RX2 27 "HeadGrid" "solution" "LHeadGrid$Solution;") (List.mem_of_getElem? (i := 1) rfl)) (fun _ h9 => h9) rfl dX2_scaledHeadOfEnd_17 ?_
    refine va_get (D := dd) (ci := 2) (v := .long u.2.2.2.2.2.1) (C := RX0) (T := TX0) (N := 4) hx hb hts (fun _ h9 => List.mem_cons_of_mem _ (List.mem_append_left _ (List.mem_append_left _ (List.mem_append_right _ h9)))) hown hK hP (2) (wC_2 cy ad u X) rfl 3 (by decide) (hts (Cond.fieldLink RX2 212 "HeadGrid$Solution" "denominator" "J") (List.mem_of_getElem? (i := 3) rfl)) (fun _ h9 => h9) rfl dX2_scaledHeadOfEnd_20 ?_
    refine lv_aload_n hx hb dX2_scaledHeadOfEnd_23 rfl (lv_at hl 0 rfl) ?_
    refine va_get (D := dd) (ci := 4) (v := .ref (ad 17)) (C := RX2) (T := TX2) (N := 7) hx hb hts (fun _ h9 => List.mem_cons_of_mem _ (List.mem_append_left _ (List.mem_append_left _ (List.mem_append_left _ (List.mem_append_right _ h9))))) hown hK hP (0) (wC_0 cy ad u X) rfl 0 (by decide) (hts (Cond.fieldLink RX2 10 "HeadGrid" "now" "LHeadGrid$State;") (List.mem_of_getElem? (i := 4) rfl)) (fun _ h9 => h9) rfl dX2_scaledHeadOfEnd_24 ?_
    refine va_get (D := dd) (ci := 3) (v := .ref (ad 19)) (C := RX1) (T := TX1) (N := 7) hx hb hts (fun _ h9 => List.mem_cons_of_mem _ (List.mem_append_left _ (List.mem_append_right _ h9))) hown hK hP (17) (wC_now cy ad u X) rfl 1 (by decide) (hts (Cond.fieldLink RX2 64 "HeadGrid$State" "edgeHeads" "[I") (List.mem_of_getElem? (i := 5) rfl)) (fun _ h9 => h9) rfl dX2_scaledHeadOfEnd_27 ?_
    refine lv_iload_n hx hb dX2_scaledHeadOfEnd_30 rfl (lv_at hl 1 rfl) ?_
    refine lv_bipush (v := nI 9) hx hb dX2_scaledHeadOfEnd_31 (by decide) ?_
    refine wn_isub hx hb dX2_scaledHeadOfEnd_33 (by omega) ?_
    refine wa_iald hx hb hK hP (wC_n1 cy ad u X) (t0 := 0) rfl (i := q0 - 9) (by omega) (by decide) dX2_scaledHeadOfEnd_34 ?_
    refine lv_i2l hx hb dX2_scaledHeadOfEnd_35 rfl ?_
    refine lv_lmul hx hb dX2_scaledHeadOfEnd_36 ?_
    exact W.lret (v := (u.2.2.2.2.2.1 * (u.1 19 (q0 - 9)).toInt64)) hx hb hr (fun t ht hW => ⟨(u.2.2.2.2.2.1 * (u.1 19 (q0 - 9)).toInt64), rfl, (by rw [hsl.1]; unfold hdM; rw [if_neg (by omega)]; show Int64.ofInt (det 9 (AM (nw u))) * _ = (nw u (24 + q0 - 9)).toInt64 * Int64.ofInt (det 9 (AM (nw u))); rw [show 24 + q0 - 9 = 24 + (q0 - 9) by omega, nw_1 u (by omega)]; exact Int64.mul_comm _ _), ht⟩) (fun q hq => absurd hq List.not_mem_nil) dX2_scaledHeadOfEnd_37
  · refine lv_aload_n hx hb dX2_scaledHeadOfEnd_6 rfl (lv_at hl 0 rfl) ?_
    refine va_get (D := dd) (ci := 4) (v := .ref (ad 2)) (C := RX2) (T := TX2) (N := 7) hx hb hts (fun _ h9 => List.mem_cons_of_mem _ (List.mem_append_left _ (List.mem_append_left _ (List.mem_append_left _ (List.mem_append_right _ h9))))) hown hK hP (0) (wC_0 cy ad u X) rfl 3 (by decide) (hts (Cond.fieldLink RX2 27 "HeadGrid" "solution" "LHeadGrid$Solution;") (List.mem_of_getElem? (i := 1) rfl)) (fun _ h9 => h9) rfl dX2_scaledHeadOfEnd_7 ?_
    refine va_get (D := dd) (ci := 2) (v := .ref (ad 5)) (C := RX0) (T := TX0) (N := 4) hx hb hts (fun _ h9 => List.mem_cons_of_mem _ (List.mem_append_left _ (List.mem_append_left _ (List.mem_append_right _ h9)))) hown hK hP (2) (wC_2 cy ad u X) rfl 2 (by decide) (hts (Cond.fieldLink RX2 92 "HeadGrid$Solution" "scaledHeads" "[J") (List.mem_of_getElem? (i := 2) rfl)) (fun _ h9 => h9) rfl dX2_scaledHeadOfEnd_10 ?_
    refine lv_iload_n hx hb dX2_scaledHeadOfEnd_13 rfl (lv_at hl 1 rfl) ?_
    refine wa_lald hx hb hK hP (wC_5 cy ad u X) (t0 := 1) rfl (i := q0) (by omega) (by decide) dX2_scaledHeadOfEnd_14 ?_
    exact W.lret (v := u.2.2.1 5 q0) hx hb hr (fun t ht hW => ⟨u.2.2.1 5 q0, rfl, (by unfold hdM; rw [if_pos (by omega), (hsl.2 htt).2 q0 (by omega)]), ht⟩) (fun q hq => absurd hq List.not_mem_nil) dX2_scaledHeadOfEnd_15
theorem hd_X2_scaledFlow : yX2_scaledFlow.cls = RX2 ∧ yX2_scaledFlow.cls ≠ "java/lang/invoke/MethodHandle" ∧ yX2_scaledFlow.cls ≠ "java/lang/invoke/VarHandle" ∧ (parseMethodDescriptor yX2_scaledFlow.desc).map (fun d => d.parameters.length) = some 1 := by decide +kernel
set_option maxHeartbeats 4000000 in
set_option maxRecDepth 100000 in
/-- scaledFlow(link) -/
theorem c_X2_scaledFlow (l : Launch) (dd : va_G) (cy : Nat → ClassId) (ad : Nat → Nat) (X : va_W) (tt : Nat × Nat) (u : CS) (k0 : Nat) (hk0 : k0 < 24) (hrg : rgM (nw u)) (htt : nR (gNow (nw u)) 9 = 511) (hsl : slv (nw u) u) : Met l yX2_scaledFlow wsX2_scaledFlow ({ frames := 1, cells := 0, slots := 0, locals := 21 }) (va_Pc [.ref (ad 0), .int (nI k0)] (rdC dd cy tt (wC cy ad u ++ X))) (vp_Sl (fun r => r = flK (nw u) k0)) 0 0 (fun _ => False) := by
  refine Met.ofW (cc := cX2_scaledFlow) (maxL := 4) (ret := (some .long)) (by decide) rfl ?_
  intro p e s m args below meth c s₁ B hml hv
  obtain ⟨rfl, hP, hK, hSt⟩ := hv
  have hx := B.exec
  have hb := B.bytes
  have hr := B.returns
  have hts := atoms_spec (ws := wsX2_scaledFlow) B.pre
  have hown : s.vm.findClass RX2 = some m.cls := findClass_of_methodNamed B.named
  have hlocks := B.notSynchronized
  have hS : va_S (fun _ => False) s.heap s.heap [] := va_S.rf
  have hl := lv_entry ([.ref (ad 0), .int (nI k0)]) (n := 4) (Nat.le_of_ble_eq_true rfl)
  rw [lg_entry_eq]
  generalize (lg_sl ([.ref (ad 0), .int (nI k0)]) ++ List.replicate (4 - (lg_sl ([.ref (ad 0), .int (nI k0)])).length) Slot.unset).toArray = ls at hl ⊢
  have hl : lv_has ls 4 [(0, .ref (ad 0)), (1, .int (nI k0))] := hl
  refine lv_aload_n hx hb dX2_scaledFlow_0 rfl (lv_at hl 0 rfl) ?_
  refine va_gets hx hb hSt.1.1 hS hown (hts (Cond.fieldLink RX2 216 "HeadGrid" "FIRST_ENDS" "[I") (List.mem_of_getElem? (i := 1) rfl)) (fun _ h9 => h9) dX2_scaledFlow_1 ?_
  refine lv_iload_n hx hb dX2_scaledFlow_4 rfl (lv_at hl 1 rfl) ?_
  refine wa_ti hx hb hSt.1.2 hS (f := fun j9 => nI (fe j9)) (i := k0) (by omega) (by decide) dX2_scaledFlow_5 ?_
  refine vp_callSl (va_runV (As := [.int (nI (fe k0))]) (rest := []) ⟨hx, hb, hml, hown, hts⟩ (c_X2_scaledHeadOfEnd l dd cy ad X tt u (fe k0) (fe_lt _ (by omega)) hrg htt hsl) (cwV 1 hts gX2_scaledFlow_X2_scaledHeadOfEnd rfl rfl rfl hd_X2_scaledHeadOfEnd ⟨Nat.le_of_ble_eq_true rfl, Nat.le_of_ble_eq_true rfl⟩) (rdC_V hP hK hSt hS (wC_0 cy ad u X) rfl) rfl rfl hl.1 rfl (lv_room (Nat.le_of_ble_eq_true rfl)) dX2_scaledFlow_6 ⟨Nat.le_of_ble_eq_true rfl, Nat.le_of_ble_eq_true rfl⟩).run (fun r1 hr1 => ?_)
  have hr1 : (hdM (cn (nw u)) (fe k0)) = r1 := hr1.symm
  subst hr1
  refine lv_aload_n hx hb dX2_scaledFlow_9 rfl (lv_at hl 0 rfl) ?_
  refine va_gets hx hb hSt.2.1.1 hS hown (hts (Cond.fieldLink RX2 222 "HeadGrid" "SECOND_ENDS" "[I") (List.mem_of_getElem? (i := 2) rfl)) (fun _ h9 => h9) dX2_scaledFlow_10 ?_
  refine lv_iload_n hx hb dX2_scaledFlow_13 rfl (lv_at hl 1 rfl) ?_
  refine wa_ti hx hb hSt.2.1.2 hS (f := fun j9 => nI (se j9)) (i := k0) (by omega) (by decide) dX2_scaledFlow_14 ?_
  refine vp_callSl (va_runV (As := [.int (nI (se k0))]) (rest := [.long (hdM (cn (nw u)) (fe k0))]) ⟨hx, hb, hml, hown, hts⟩ (c_X2_scaledHeadOfEnd l dd cy ad X tt u (se k0) (se_lt _ (by omega)) hrg htt hsl) (cwV 1 hts gX2_scaledFlow_X2_scaledHeadOfEnd rfl rfl rfl hd_X2_scaledHeadOfEnd ⟨Nat.le_of_ble_eq_true rfl, Nat.le_of_ble_eq_true rfl⟩) (rdC_V hP hK hSt hS (wC_0 cy ad u X) rfl) rfl rfl hl.1 rfl (lv_room (Nat.le_of_ble_eq_true rfl)) dX2_scaledFlow_15 ⟨Nat.le_of_ble_eq_true rfl, Nat.le_of_ble_eq_true rfl⟩).run (fun r2 hr2 => ?_)
  have hr2 : (hdM (cn (nw u)) (se k0)) = r2 := hr2.symm
  subst hr2
  refine lv_lsub hx hb dX2_scaledFlow_18 ?_
  refine lv_topl (fun x3 ex3 => ?_)
  refine lv_lstore_n (lv' := [(2, .long x3), (0, .ref (ad 0)), (1, .int (nI k0))]) hx hb dX2_scaledFlow_19 rfl hl (by decide) rfl (fun ls hl => ?_)
  refine lv_aload_n hx hb dX2_scaledFlow_20 rfl (lv_at hl 1 rfl) ?_
  refine va_get (D := dd) (ci := 4) (v := .ref (ad 17)) (C := RX2) (T := TX2) (N := 7) hx hb hts (fun _ h9 => List.mem_cons_of_mem _ (List.mem_append_left _ (List.mem_append_left _ (List.mem_append_left _ (List.mem_append_right _ h9))))) hown hK hP (0) (wC_0 cy ad u X) rfl 0 (by decide) (hts (Cond.fieldLink RX2 10 "HeadGrid" "now" "LHeadGrid$State;") (List.mem_of_getElem? (i := 3) rfl)) (fun _ h9 => h9) rfl dX2_scaledFlow_21 ?_
  refine va_get (D := dd) (ci := 3) (v := .ref (ad 18)) (C := RX1) (T := TX1) (N := 7) hx hb hts (fun _ h9 => List.mem_cons_of_mem _ (List.mem_append_left _ (List.mem_append_left _ (List.mem_append_right _ h9)))) hown hK hP (17) (wC_now cy ad u X) rfl 0 (by decide) (hts (Cond.fieldLink RX2 53 "HeadGrid$State" "conductances" "[I") (List.mem_of_getElem? (i := 4) rfl)) (fun _ h9 => h9) rfl dX2_scaledFlow_24 ?_
  refine lv_iload_n hx hb dX2_scaledFlow_27 rfl (lv_at hl 2 rfl) ?_
  refine wa_iald hx hb hK hP (wC_n0 cy ad u X) (t0 := 0) rfl (i := k0) (by omega) (by decide) dX2_scaledFlow_28 ?_
  refine lv_i2l hx hb dX2_scaledFlow_29 rfl ?_
  refine lv_lload_n hx hb dX2_scaledFlow_30 rfl (lv_at hl 0 rfl) ?_
  refine lv_lmul hx hb dX2_scaledFlow_31 ?_
  exact W.lret (v := ((u.1 18 k0).toInt64 * x3)) hx hb hr (fun t ht hW => ⟨((u.1 18 k0).toInt64 * x3), rfl, (by rw [ex3]; unfold flK; rw [nw_0 u (by omega)]), ht⟩) (fun q hq => absurd hq List.not_mem_nil) dX2_scaledFlow_32
theorem hd_X2_scaledInflow : yX2_scaledInflow.cls = RX2 ∧ yX2_scaledInflow.cls ≠ "java/lang/invoke/MethodHandle" ∧ yX2_scaledInflow.cls ≠ "java/lang/invoke/VarHandle" ∧ (parseMethodDescriptor yX2_scaledInflow.desc).map (fun d => d.parameters.length) = some 1 := by decide +kernel
set_option maxHeartbeats 4000000 in
set_option maxRecDepth 100000 in
/-- scaledInflow(side) -/
theorem c_X2_scaledInflow (l : Launch) (dd : va_G) (cy : Nat → ClassId) (ad : Nat → Nat) (X : va_W) (tt : Nat × Nat) (u : CS) (d0 : Nat) (hd0 : d0 < 4) (hrg : rgM (nw u)) (htt : nR (gNow (nw u)) 9 = 511) (hsl : slv (nw u) u) : Met l yX2_scaledInflow wsX2_scaledInflow ({ frames := 2, cells := 0, slots := 0, locals := 44 }) (va_Pc [.ref (ad 0), .int (nI d0)] (rdC dd cy tt (wC cy ad u ++ X))) (vp_Sl (fun r => r = ifM (cn (nw u)) d0)) 0 0 (fun _ => False) := by
  refine Met.ofW (cc := cX2_scaledInflow) (maxL := 8) (ret := (some .long)) (by decide) rfl ?_
  intro p e s m args below meth c s₁ B hml hv
  obtain ⟨rfl, hP, hK, hSt⟩ := hv
  have hx := B.exec
  have hb := B.bytes
  have hr := B.returns
  have hts := atoms_spec (ws := wsX2_scaledInflow) B.pre
  have hown : s.vm.findClass RX2 = some m.cls := findClass_of_methodNamed B.named
  have hlocks := B.notSynchronized
  have hS : va_S (fun _ => False) s.heap s.heap [] := va_S.rf
  have hl := lv_entry ([.ref (ad 0), .int (nI d0)]) (n := 8) (Nat.le_of_ble_eq_true rfl)
  rw [lg_entry_eq]
  generalize (lg_sl ([.ref (ad 0), .int (nI d0)]) ++ List.replicate (8 - (lg_sl ([.ref (ad 0), .int (nI d0)])).length) Slot.unset).toArray = ls at hl ⊢
  have hl : lv_has ls 8 [(0, .ref (ad 0)), (1, .int (nI d0))] := hl
  rcases (show d0 = 0 ∨ d0 = 1 ∨ d0 = 2 ∨ d0 = 3 by omega) with h9 | h9 | h9 | h9
  · subst h9
    refine lv_iload_n hx hb dX2_scaledInflow_0 rfl (lv_at hl 1 rfl) ?_
    refine wn_if_eq (tgt := 9) hx hb dX2_scaledInflow_1 (by decide) (by omega) (fun _ => ?_) (fun c1 => (by first | exact absurd (by decide) c1 | exact absurd c1 (by decide)))
    refine lv_iconst (v := nI 1) hx hb dX2_scaledInflow_9 (by decide) ?_
    refine lv_goto (tgt := 14) hx hb dX2_scaledInflow_10 (by decide) ?_
    refine lv_istore_n (lv' := [(2, .int (nI 1)), (0, .ref (ad 0)), (1, .int (nI 0))]) hx hb dX2_scaledInflow_14 rfl hl (by decide) rfl (fun ls hl => ?_)
    refine lv_iload_n hx hb dX2_scaledInflow_15 rfl (lv_at hl 2 rfl) ?_
    refine lv_iconst (v := nI 1) hx hb dX2_scaledInflow_16 (by decide) ?_
    refine wn_icmp_eq (tgt := 25) hx hb dX2_scaledInflow_17 (by decide) (by omega) (by omega) (fun c2 => (by first | exact absurd c2 (by decide) | exact absurd (by decide) c2)) (fun _ => ?_)
    refine lv_iload_n hx hb dX2_scaledInflow_20 rfl (lv_at hl 2 rfl) ?_
    refine lv_iconst (v := nI 2) hx hb dX2_scaledInflow_21 (by decide) ?_
    refine wn_icmp_ne (tgt := 29) hx hb dX2_scaledInflow_22 (by decide) (by omega) (by omega) (fun _ => ?_) (fun c3 => (by first | exact absurd (by decide) c3 | exact absurd c3 (by decide)))
    refine lv_iconst (v := nI 0) hx hb dX2_scaledInflow_29 (by decide) ?_
    refine lv_istore_n (lv' := [(3, .int (nI 0)), (2, .int (nI 1)), (0, .ref (ad 0)), (1, .int (nI 0))]) hx hb dX2_scaledInflow_30 rfl hl (by decide) rfl (fun ls hl => ?_)
    refine lv_iload_n hx hb dX2_scaledInflow_31 rfl (lv_at hl 1 rfl) ?_
    refine wn_if_eq (tgt := 40) hx hb dX2_scaledInflow_32 (by decide) (by omega) (fun c4 => (by first | exact absurd c4 (by decide) | exact absurd (by decide) c4)) (fun _ => ?_)
    refine lv_bipush (v := nI 12) hx hb dX2_scaledInflow_35 (by decide) ?_
    refine lv_goto (tgt := 41) hx hb dX2_scaledInflow_37 (by decide) ?_
    refine lv_iload_n hx hb dX2_scaledInflow_41 rfl (lv_at hl 0 rfl) ?_
    refine wn_if_eq (tgt := 49) hx hb dX2_scaledInflow_42 (by decide) (by omega) (fun _ => ?_) (fun c5 => (by first | exact absurd (by decide) c5 | exact absurd c5 (by decide)))
    refine lv_iconst (v := nI 0) hx hb dX2_scaledInflow_49 (by decide) ?_
    refine wn_iadd hx hb dX2_scaledInflow_50 ?_
    refine lv_istore (lv' := [(4, .int (nI (12 + 0))), (3, .int (nI 0)), (2, .int (nI 1)), (0, .ref (ad 0)), (1, .int (nI 0))]) hx hb dX2_scaledInflow_51 hl (by decide) rfl (fun ls hl => ?_)
    refine lv_lconst (v := 0) hx hb dX2_scaledInflow_53 rfl ?_
    refine lv_lstore (lv' := [(5, .long 0), (4, .int (nI (12 + 0))), (3, .int (nI 0)), (2, .int (nI 1)), (0, .ref (ad 0)), (1, .int (nI 0))]) hx hb dX2_scaledInflow_54 hl (by decide) rfl (fun ls hl => ?_)
    refine lv_iconst (v := nI 0) hx hb dX2_scaledInflow_56 (by decide) ?_
    refine lv_istore (lv' := [(7, .int (nI 0)), (5, .long 0), (4, .int (nI (12 + 0))), (3, .int (nI 0)), (2, .int (nI 1)), (0, .ref (ad 0)), (1, .int (nI 0))]) hx hb dX2_scaledInflow_57 hl (by decide) rfl (fun ls hl => ?_)
    refine wLoopR (σ := Nat × Int64) (fun k x ls => k = 3 - x.1 ∧ (x.1 ≤ 3) ∧ (x.2 = smL x.1 (fun k => flK (nw u) (ifL 0 k))) ∧ lv_has ls 8 [(7, .int (nI x.1)), (5, .long x.2), (4, .int (nI (12 + 0))), (3, .int (nI 0)), (0, .ref (ad 0))]) ?_ _ (0, 0) _ ⟨rfl, (Nat.zero_le _), rfl, lv_sub hl [0, 1, 2, 3, 5] rfl⟩
    intro ka x ls hI iha
    obtain ⟨j0, z⟩ := x
    obtain ⟨hka, hj0, hz, hl⟩ := hI
    have hka : ka = 3 - j0 := hka
    have hj0 : j0 ≤ 3 := hj0
    have hz : z = smL j0 (fun k => flK (nw u) (ifL 0 k)) := hz
    have hl : lv_has ls 8 [(7, .int (nI j0)), (5, .long z), (4, .int (nI (12 + 0))), (3, .int (nI 0)), (0, .ref (ad 0))] := hl
    refine lv_iload hx hb dX2_scaledInflow_59 (lv_at hl 0 rfl) ?_
    refine lv_iconst (v := nI 3) hx hb dX2_scaledInflow_61 (by decide) ?_
    refine wn_icmp_ge (tgt := 87) hx hb dX2_scaledInflow_62 (by decide) (by omega) (by omega) (fun c6 => ?_) (fun c6 => ?_)
    · refine lv_iload_n hx hb dX2_scaledInflow_87 rfl (lv_at hl 3 rfl) ?_
      refine wn_if_eq (tgt := 97) hx hb dX2_scaledInflow_88 (by decide) (by omega) (fun _ => ?_) (fun c7 => (by first | exact absurd (by decide) c7 | exact absurd c7 (by decide)))
      refine lv_lload hx hb dX2_scaledInflow_97 (lv_at hl 1 rfl) ?_
      exact W.lret (v := z) hx hb hr (fun t ht hW => ⟨z, rfl, (by rw [hz, show j0 = 3 by omega, ← if_in (by decide) (by decide)]), ht⟩) (fun q hq => absurd hq List.not_mem_nil) dX2_scaledInflow_99
    · refine lv_lload hx hb dX2_scaledInflow_65 (lv_at hl 1 rfl) ?_
      refine lv_aload_n hx hb dX2_scaledInflow_67 rfl (lv_at hl 4 rfl) ?_
      refine lv_iload hx hb dX2_scaledInflow_68 (lv_at hl 2 rfl) ?_
      refine lv_iconst (v := nI 4) hx hb dX2_scaledInflow_70 (by decide) ?_
      refine lv_iload hx hb dX2_scaledInflow_71 (lv_at hl 0 rfl) ?_
      refine wn_imul hx hb dX2_scaledInflow_73 ?_
      refine wn_iadd hx hb dX2_scaledInflow_74 ?_
      refine vp_callSl (va_runV (As := [.int (nI ((12 + 0) + (4 * j0)))]) (rest := [.long z]) ⟨hx, hb, hml, hown, hts⟩ (c_X2_scaledFlow l dd cy ad X tt u ((12 + 0) + (4 * j0)) (by omega) hrg htt hsl) (cwV 1 hts gX2_scaledInflow_X2_scaledFlow rfl rfl rfl hd_X2_scaledFlow ⟨Nat.le_of_ble_eq_true rfl, Nat.le_of_ble_eq_true rfl⟩) (rdC_V hP hK hSt hS (wC_0 cy ad u X) rfl) rfl rfl hl.1 rfl (lv_room (Nat.le_of_ble_eq_true rfl)) dX2_scaledInflow_75 ⟨Nat.le_of_ble_eq_true rfl, Nat.le_of_ble_eq_true rfl⟩).run (fun r8 hr8 => ?_)
      have hr8 : (flK (nw u) ((12 + 0) + (4 * j0))) = r8 := hr8.symm
      subst hr8
      refine lv_ladd hx hb dX2_scaledInflow_78 ?_
      refine lv_topl (fun x9 ex9 => ?_)
      refine lv_lstore (lv' := [(5, .long x9), (7, .int (nI j0)), (4, .int (nI (12 + 0))), (3, .int (nI 0)), (0, .ref (ad 0))]) hx hb dX2_scaledInflow_79 hl (by decide) rfl (fun ls hl => ?_)
      refine lv_iinc (v := (nI (j0 + 1))) (lv' := [(7, .int (nI (j0 + 1))), (5, .long x9), (4, .int (nI (12 + 0))), (3, .int (nI 0)), (0, .ref (ad 0))]) hx hb dX2_scaledInflow_81 hl (k := 1) rfl (nI_1 _) (by decide) rfl (fun ls hl => ?_)
      refine lv_goto (tgt := 59) hx hb dX2_scaledInflow_84 (by decide) ?_
      exact iha (3 - (j0 + 1)) (j0 + 1, x9) ls (by omega) ⟨rfl, (by show j0 + 1 ≤ 3; omega), (by rw [ex9, hz]; rfl), lv_sub hl [0, 1, 2, 3, 4] rfl⟩
  · subst h9
    refine lv_iload_n hx hb dX2_scaledInflow_0 rfl (lv_at hl 1 rfl) ?_
    refine wn_if_eq (tgt := 9) hx hb dX2_scaledInflow_1 (by decide) (by omega) (fun c10 => (by first | exact absurd c10 (by decide) | exact absurd (by decide) c10)) (fun _ => ?_)
    refine lv_iload_n hx hb dX2_scaledInflow_4 rfl (lv_at hl 1 rfl) ?_
    refine lv_iconst (v := nI 2) hx hb dX2_scaledInflow_5 (by decide) ?_
    refine wn_icmp_ne (tgt := 13) hx hb dX2_scaledInflow_6 (by decide) (by omega) (by omega) (fun _ => ?_) (fun c11 => (by first | exact absurd (by decide) c11 | exact absurd c11 (by decide)))
    refine lv_iconst (v := nI 0) hx hb dX2_scaledInflow_13 (by decide) ?_
    refine lv_istore_n (lv' := [(2, .int (nI 0)), (0, .ref (ad 0)), (1, .int (nI 1))]) hx hb dX2_scaledInflow_14 rfl hl (by decide) rfl (fun ls hl => ?_)
    refine lv_iload_n hx hb dX2_scaledInflow_15 rfl (lv_at hl 2 rfl) ?_
    refine lv_iconst (v := nI 1) hx hb dX2_scaledInflow_16 (by decide) ?_
    refine wn_icmp_eq (tgt := 25) hx hb dX2_scaledInflow_17 (by decide) (by omega) (by omega) (fun _ => ?_) (fun c12 => (by first | exact absurd (by decide) c12 | exact absurd c12 (by decide)))
    refine lv_iconst (v := nI 1) hx hb dX2_scaledInflow_25 (by decide) ?_
    refine lv_goto (tgt := 30) hx hb dX2_scaledInflow_26 (by decide) ?_
    refine lv_istore_n (lv' := [(3, .int (nI 1)), (2, .int (nI 0)), (0, .ref (ad 0)), (1, .int (nI 1))]) hx hb dX2_scaledInflow_30 rfl hl (by decide) rfl (fun ls hl => ?_)
    refine lv_iload_n hx hb dX2_scaledInflow_31 rfl (lv_at hl 1 rfl) ?_
    refine wn_if_eq (tgt := 40) hx hb dX2_scaledInflow_32 (by decide) (by omega) (fun _ => ?_) (fun c13 => (by first | exact absurd (by decide) c13 | exact absurd c13 (by decide)))
    refine lv_iconst (v := nI 0) hx hb dX2_scaledInflow_40 (by decide) ?_
    refine lv_iload_n hx hb dX2_scaledInflow_41 rfl (lv_at hl 0 rfl) ?_
    refine wn_if_eq (tgt := 49) hx hb dX2_scaledInflow_42 (by decide) (by omega) (fun c14 => (by first | exact absurd c14 (by decide) | exact absurd (by decide) c14)) (fun _ => ?_)
    refine lv_iconst (v := nI 3) hx hb dX2_scaledInflow_45 (by decide) ?_
    refine lv_goto (tgt := 50) hx hb dX2_scaledInflow_46 (by decide) ?_
    refine wn_iadd hx hb dX2_scaledInflow_50 ?_
    refine lv_istore (lv' := [(4, .int (nI (0 + 3))), (3, .int (nI 1)), (2, .int (nI 0)), (0, .ref (ad 0)), (1, .int (nI 1))]) hx hb dX2_scaledInflow_51 hl (by decide) rfl (fun ls hl => ?_)
    refine lv_lconst (v := 0) hx hb dX2_scaledInflow_53 rfl ?_
    refine lv_lstore (lv' := [(5, .long 0), (4, .int (nI (0 + 3))), (3, .int (nI 1)), (2, .int (nI 0)), (0, .ref (ad 0)), (1, .int (nI 1))]) hx hb dX2_scaledInflow_54 hl (by decide) rfl (fun ls hl => ?_)
    refine lv_iconst (v := nI 0) hx hb dX2_scaledInflow_56 (by decide) ?_
    refine lv_istore (lv' := [(7, .int (nI 0)), (5, .long 0), (4, .int (nI (0 + 3))), (3, .int (nI 1)), (2, .int (nI 0)), (0, .ref (ad 0)), (1, .int (nI 1))]) hx hb dX2_scaledInflow_57 hl (by decide) rfl (fun ls hl => ?_)
    refine wLoopR (σ := Nat × Int64) (fun k x ls => k = 3 - x.1 ∧ (x.1 ≤ 3) ∧ (x.2 = smL x.1 (fun k => flK (nw u) (ifL 1 k))) ∧ lv_has ls 8 [(7, .int (nI x.1)), (5, .long x.2), (4, .int (nI (0 + 3))), (3, .int (nI 1)), (0, .ref (ad 0))]) ?_ _ (0, 0) _ ⟨rfl, (Nat.zero_le _), rfl, lv_sub hl [0, 1, 2, 3, 5] rfl⟩
    intro ka x ls hI iha
    obtain ⟨j0, z⟩ := x
    obtain ⟨hka, hj0, hz, hl⟩ := hI
    have hka : ka = 3 - j0 := hka
    have hj0 : j0 ≤ 3 := hj0
    have hz : z = smL j0 (fun k => flK (nw u) (ifL 1 k)) := hz
    have hl : lv_has ls 8 [(7, .int (nI j0)), (5, .long z), (4, .int (nI (0 + 3))), (3, .int (nI 1)), (0, .ref (ad 0))] := hl
    refine lv_iload hx hb dX2_scaledInflow_59 (lv_at hl 0 rfl) ?_
    refine lv_iconst (v := nI 3) hx hb dX2_scaledInflow_61 (by decide) ?_
    refine wn_icmp_ge (tgt := 87) hx hb dX2_scaledInflow_62 (by decide) (by omega) (by omega) (fun c15 => ?_) (fun c15 => ?_)
    · refine lv_iload_n hx hb dX2_scaledInflow_87 rfl (lv_at hl 3 rfl) ?_
      refine wn_if_eq (tgt := 97) hx hb dX2_scaledInflow_88 (by decide) (by omega) (fun c16 => (by first | exact absurd c16 (by decide) | exact absurd (by decide) c16)) (fun _ => ?_)
      refine lv_lload hx hb dX2_scaledInflow_91 (lv_at hl 1 rfl) ?_
      refine lv_lneg hx hb dX2_scaledInflow_93 ?_
      refine lv_goto (tgt := 99) hx hb dX2_scaledInflow_94 (by decide) ?_
      exact W.lret (v := (-z)) hx hb hr (fun t ht hW => ⟨(-z), rfl, (by rw [hz, show j0 = 3 by omega, ← if_out (by decide) (by decide)]), ht⟩) (fun q hq => absurd hq List.not_mem_nil) dX2_scaledInflow_99
    · refine lv_lload hx hb dX2_scaledInflow_65 (lv_at hl 1 rfl) ?_
      refine lv_aload_n hx hb dX2_scaledInflow_67 rfl (lv_at hl 4 rfl) ?_
      refine lv_iload hx hb dX2_scaledInflow_68 (lv_at hl 2 rfl) ?_
      refine lv_iconst (v := nI 4) hx hb dX2_scaledInflow_70 (by decide) ?_
      refine lv_iload hx hb dX2_scaledInflow_71 (lv_at hl 0 rfl) ?_
      refine wn_imul hx hb dX2_scaledInflow_73 ?_
      refine wn_iadd hx hb dX2_scaledInflow_74 ?_
      refine vp_callSl (va_runV (As := [.int (nI ((0 + 3) + (4 * j0)))]) (rest := [.long z]) ⟨hx, hb, hml, hown, hts⟩ (c_X2_scaledFlow l dd cy ad X tt u ((0 + 3) + (4 * j0)) (by omega) hrg htt hsl) (cwV 1 hts gX2_scaledInflow_X2_scaledFlow rfl rfl rfl hd_X2_scaledFlow ⟨Nat.le_of_ble_eq_true rfl, Nat.le_of_ble_eq_true rfl⟩) (rdC_V hP hK hSt hS (wC_0 cy ad u X) rfl) rfl rfl hl.1 rfl (lv_room (Nat.le_of_ble_eq_true rfl)) dX2_scaledInflow_75 ⟨Nat.le_of_ble_eq_true rfl, Nat.le_of_ble_eq_true rfl⟩).run (fun r17 hr17 => ?_)
      have hr17 : (flK (nw u) ((0 + 3) + (4 * j0))) = r17 := hr17.symm
      subst hr17
      refine lv_ladd hx hb dX2_scaledInflow_78 ?_
      refine lv_topl (fun x18 ex18 => ?_)
      refine lv_lstore (lv' := [(5, .long x18), (7, .int (nI j0)), (4, .int (nI (0 + 3))), (3, .int (nI 1)), (0, .ref (ad 0))]) hx hb dX2_scaledInflow_79 hl (by decide) rfl (fun ls hl => ?_)
      refine lv_iinc (v := (nI (j0 + 1))) (lv' := [(7, .int (nI (j0 + 1))), (5, .long x18), (4, .int (nI (0 + 3))), (3, .int (nI 1)), (0, .ref (ad 0))]) hx hb dX2_scaledInflow_81 hl (k := 1) rfl (nI_1 _) (by decide) rfl (fun ls hl => ?_)
      refine lv_goto (tgt := 59) hx hb dX2_scaledInflow_84 (by decide) ?_
      exact iha (3 - (j0 + 1)) (j0 + 1, x18) ls (by omega) ⟨rfl, (by show j0 + 1 ≤ 3; omega), (by rw [ex18, hz]; rfl), lv_sub hl [0, 1, 2, 3, 4] rfl⟩
  · subst h9
    refine lv_iload_n hx hb dX2_scaledInflow_0 rfl (lv_at hl 1 rfl) ?_
    refine wn_if_eq (tgt := 9) hx hb dX2_scaledInflow_1 (by decide) (by omega) (fun c19 => (by first | exact absurd c19 (by decide) | exact absurd (by decide) c19)) (fun _ => ?_)
    refine lv_iload_n hx hb dX2_scaledInflow_4 rfl (lv_at hl 1 rfl) ?_
    refine lv_iconst (v := nI 2) hx hb dX2_scaledInflow_5 (by decide) ?_
    refine wn_icmp_ne (tgt := 13) hx hb dX2_scaledInflow_6 (by decide) (by omega) (by omega) (fun c20 => (by first | exact absurd c20 (by decide) | exact absurd (by decide) c20)) (fun _ => ?_)
    refine lv_iconst (v := nI 1) hx hb dX2_scaledInflow_9 (by decide) ?_
    refine lv_goto (tgt := 14) hx hb dX2_scaledInflow_10 (by decide) ?_
    refine lv_istore_n (lv' := [(2, .int (nI 1)), (0, .ref (ad 0)), (1, .int (nI 2))]) hx hb dX2_scaledInflow_14 rfl hl (by decide) rfl (fun ls hl => ?_)
    refine lv_iload_n hx hb dX2_scaledInflow_15 rfl (lv_at hl 2 rfl) ?_
    refine lv_iconst (v := nI 1) hx hb dX2_scaledInflow_16 (by decide) ?_
    refine wn_icmp_eq (tgt := 25) hx hb dX2_scaledInflow_17 (by decide) (by omega) (by omega) (fun c21 => (by first | exact absurd c21 (by decide) | exact absurd (by decide) c21)) (fun _ => ?_)
    refine lv_iload_n hx hb dX2_scaledInflow_20 rfl (lv_at hl 2 rfl) ?_
    refine lv_iconst (v := nI 2) hx hb dX2_scaledInflow_21 (by decide) ?_
    refine wn_icmp_ne (tgt := 29) hx hb dX2_scaledInflow_22 (by decide) (by omega) (by omega) (fun c22 => (by first | exact absurd c22 (by decide) | exact absurd (by decide) c22)) (fun _ => ?_)
    refine lv_iconst (v := nI 1) hx hb dX2_scaledInflow_25 (by decide) ?_
    refine lv_goto (tgt := 30) hx hb dX2_scaledInflow_26 (by decide) ?_
    refine lv_istore_n (lv' := [(3, .int (nI 1)), (2, .int (nI 1)), (0, .ref (ad 0)), (1, .int (nI 2))]) hx hb dX2_scaledInflow_30 rfl hl (by decide) rfl (fun ls hl => ?_)
    refine lv_iload_n hx hb dX2_scaledInflow_31 rfl (lv_at hl 1 rfl) ?_
    refine wn_if_eq (tgt := 40) hx hb dX2_scaledInflow_32 (by decide) (by omega) (fun c23 => (by first | exact absurd c23 (by decide) | exact absurd (by decide) c23)) (fun _ => ?_)
    refine lv_bipush (v := nI 12) hx hb dX2_scaledInflow_35 (by decide) ?_
    refine lv_goto (tgt := 41) hx hb dX2_scaledInflow_37 (by decide) ?_
    refine lv_iload_n hx hb dX2_scaledInflow_41 rfl (lv_at hl 0 rfl) ?_
    refine wn_if_eq (tgt := 49) hx hb dX2_scaledInflow_42 (by decide) (by omega) (fun c24 => (by first | exact absurd c24 (by decide) | exact absurd (by decide) c24)) (fun _ => ?_)
    refine lv_iconst (v := nI 3) hx hb dX2_scaledInflow_45 (by decide) ?_
    refine lv_goto (tgt := 50) hx hb dX2_scaledInflow_46 (by decide) ?_
    refine wn_iadd hx hb dX2_scaledInflow_50 ?_
    refine lv_istore (lv' := [(4, .int (nI (12 + 3))), (3, .int (nI 1)), (2, .int (nI 1)), (0, .ref (ad 0)), (1, .int (nI 2))]) hx hb dX2_scaledInflow_51 hl (by decide) rfl (fun ls hl => ?_)
    refine lv_lconst (v := 0) hx hb dX2_scaledInflow_53 rfl ?_
    refine lv_lstore (lv' := [(5, .long 0), (4, .int (nI (12 + 3))), (3, .int (nI 1)), (2, .int (nI 1)), (0, .ref (ad 0)), (1, .int (nI 2))]) hx hb dX2_scaledInflow_54 hl (by decide) rfl (fun ls hl => ?_)
    refine lv_iconst (v := nI 0) hx hb dX2_scaledInflow_56 (by decide) ?_
    refine lv_istore (lv' := [(7, .int (nI 0)), (5, .long 0), (4, .int (nI (12 + 3))), (3, .int (nI 1)), (2, .int (nI 1)), (0, .ref (ad 0)), (1, .int (nI 2))]) hx hb dX2_scaledInflow_57 hl (by decide) rfl (fun ls hl => ?_)
    refine wLoopR (σ := Nat × Int64) (fun k x ls => k = 3 - x.1 ∧ (x.1 ≤ 3) ∧ (x.2 = smL x.1 (fun k => flK (nw u) (ifL 2 k))) ∧ lv_has ls 8 [(7, .int (nI x.1)), (5, .long x.2), (4, .int (nI (12 + 3))), (3, .int (nI 1)), (0, .ref (ad 0))]) ?_ _ (0, 0) _ ⟨rfl, (Nat.zero_le _), rfl, lv_sub hl [0, 1, 2, 3, 5] rfl⟩
    intro ka x ls hI iha
    obtain ⟨j0, z⟩ := x
    obtain ⟨hka, hj0, hz, hl⟩ := hI
    have hka : ka = 3 - j0 := hka
    have hj0 : j0 ≤ 3 := hj0
    have hz : z = smL j0 (fun k => flK (nw u) (ifL 2 k)) := hz
    have hl : lv_has ls 8 [(7, .int (nI j0)), (5, .long z), (4, .int (nI (12 + 3))), (3, .int (nI 1)), (0, .ref (ad 0))] := hl
    refine lv_iload hx hb dX2_scaledInflow_59 (lv_at hl 0 rfl) ?_
    refine lv_iconst (v := nI 3) hx hb dX2_scaledInflow_61 (by decide) ?_
    refine wn_icmp_ge (tgt := 87) hx hb dX2_scaledInflow_62 (by decide) (by omega) (by omega) (fun c25 => ?_) (fun c25 => ?_)
    · refine lv_iload_n hx hb dX2_scaledInflow_87 rfl (lv_at hl 3 rfl) ?_
      refine wn_if_eq (tgt := 97) hx hb dX2_scaledInflow_88 (by decide) (by omega) (fun c26 => (by first | exact absurd c26 (by decide) | exact absurd (by decide) c26)) (fun _ => ?_)
      refine lv_lload hx hb dX2_scaledInflow_91 (lv_at hl 1 rfl) ?_
      refine lv_lneg hx hb dX2_scaledInflow_93 ?_
      refine lv_goto (tgt := 99) hx hb dX2_scaledInflow_94 (by decide) ?_
      exact W.lret (v := (-z)) hx hb hr (fun t ht hW => ⟨(-z), rfl, (by rw [hz, show j0 = 3 by omega, ← if_out (by decide) (by decide)]), ht⟩) (fun q hq => absurd hq List.not_mem_nil) dX2_scaledInflow_99
    · refine lv_lload hx hb dX2_scaledInflow_65 (lv_at hl 1 rfl) ?_
      refine lv_aload_n hx hb dX2_scaledInflow_67 rfl (lv_at hl 4 rfl) ?_
      refine lv_iload hx hb dX2_scaledInflow_68 (lv_at hl 2 rfl) ?_
      refine lv_iconst (v := nI 4) hx hb dX2_scaledInflow_70 (by decide) ?_
      refine lv_iload hx hb dX2_scaledInflow_71 (lv_at hl 0 rfl) ?_
      refine wn_imul hx hb dX2_scaledInflow_73 ?_
      refine wn_iadd hx hb dX2_scaledInflow_74 ?_
      refine vp_callSl (va_runV (As := [.int (nI ((12 + 3) + (4 * j0)))]) (rest := [.long z]) ⟨hx, hb, hml, hown, hts⟩ (c_X2_scaledFlow l dd cy ad X tt u ((12 + 3) + (4 * j0)) (by omega) hrg htt hsl) (cwV 1 hts gX2_scaledInflow_X2_scaledFlow rfl rfl rfl hd_X2_scaledFlow ⟨Nat.le_of_ble_eq_true rfl, Nat.le_of_ble_eq_true rfl⟩) (rdC_V hP hK hSt hS (wC_0 cy ad u X) rfl) rfl rfl hl.1 rfl (lv_room (Nat.le_of_ble_eq_true rfl)) dX2_scaledInflow_75 ⟨Nat.le_of_ble_eq_true rfl, Nat.le_of_ble_eq_true rfl⟩).run (fun r27 hr27 => ?_)
      have hr27 : (flK (nw u) ((12 + 3) + (4 * j0))) = r27 := hr27.symm
      subst hr27
      refine lv_ladd hx hb dX2_scaledInflow_78 ?_
      refine lv_topl (fun x28 ex28 => ?_)
      refine lv_lstore (lv' := [(5, .long x28), (7, .int (nI j0)), (4, .int (nI (12 + 3))), (3, .int (nI 1)), (0, .ref (ad 0))]) hx hb dX2_scaledInflow_79 hl (by decide) rfl (fun ls hl => ?_)
      refine lv_iinc (v := (nI (j0 + 1))) (lv' := [(7, .int (nI (j0 + 1))), (5, .long x28), (4, .int (nI (12 + 3))), (3, .int (nI 1)), (0, .ref (ad 0))]) hx hb dX2_scaledInflow_81 hl (k := 1) rfl (nI_1 _) (by decide) rfl (fun ls hl => ?_)
      refine lv_goto (tgt := 59) hx hb dX2_scaledInflow_84 (by decide) ?_
      exact iha (3 - (j0 + 1)) (j0 + 1, x28) ls (by omega) ⟨rfl, (by show j0 + 1 ≤ 3; omega), (by rw [ex28, hz]; rfl), lv_sub hl [0, 1, 2, 3, 4] rfl⟩
  · subst h9
    refine lv_iload_n hx hb dX2_scaledInflow_0 rfl (lv_at hl 1 rfl) ?_
    refine wn_if_eq (tgt := 9) hx hb dX2_scaledInflow_1 (by decide) (by omega) (fun c29 => (by first | exact absurd c29 (by decide) | exact absurd (by decide) c29)) (fun _ => ?_)
    refine lv_iload_n hx hb dX2_scaledInflow_4 rfl (lv_at hl 1 rfl) ?_
    refine lv_iconst (v := nI 2) hx hb dX2_scaledInflow_5 (by decide) ?_
    refine wn_icmp_ne (tgt := 13) hx hb dX2_scaledInflow_6 (by decide) (by omega) (by omega) (fun _ => ?_) (fun c30 => (by first | exact absurd (by decide) c30 | exact absurd c30 (by decide)))
    refine lv_iconst (v := nI 0) hx hb dX2_scaledInflow_13 (by decide) ?_
    refine lv_istore_n (lv' := [(2, .int (nI 0)), (0, .ref (ad 0)), (1, .int (nI 3))]) hx hb dX2_scaledInflow_14 rfl hl (by decide) rfl (fun ls hl => ?_)
    refine lv_iload_n hx hb dX2_scaledInflow_15 rfl (lv_at hl 2 rfl) ?_
    refine lv_iconst (v := nI 1) hx hb dX2_scaledInflow_16 (by decide) ?_
    refine wn_icmp_eq (tgt := 25) hx hb dX2_scaledInflow_17 (by decide) (by omega) (by omega) (fun c31 => (by first | exact absurd c31 (by decide) | exact absurd (by decide) c31)) (fun _ => ?_)
    refine lv_iload_n hx hb dX2_scaledInflow_20 rfl (lv_at hl 2 rfl) ?_
    refine lv_iconst (v := nI 2) hx hb dX2_scaledInflow_21 (by decide) ?_
    refine wn_icmp_ne (tgt := 29) hx hb dX2_scaledInflow_22 (by decide) (by omega) (by omega) (fun _ => ?_) (fun c32 => (by first | exact absurd (by decide) c32 | exact absurd c32 (by decide)))
    refine lv_iconst (v := nI 0) hx hb dX2_scaledInflow_29 (by decide) ?_
    refine lv_istore_n (lv' := [(3, .int (nI 0)), (2, .int (nI 0)), (0, .ref (ad 0)), (1, .int (nI 3))]) hx hb dX2_scaledInflow_30 rfl hl (by decide) rfl (fun ls hl => ?_)
    refine lv_iload_n hx hb dX2_scaledInflow_31 rfl (lv_at hl 1 rfl) ?_
    refine wn_if_eq (tgt := 40) hx hb dX2_scaledInflow_32 (by decide) (by omega) (fun _ => ?_) (fun c33 => (by first | exact absurd (by decide) c33 | exact absurd c33 (by decide)))
    refine lv_iconst (v := nI 0) hx hb dX2_scaledInflow_40 (by decide) ?_
    refine lv_iload_n hx hb dX2_scaledInflow_41 rfl (lv_at hl 0 rfl) ?_
    refine wn_if_eq (tgt := 49) hx hb dX2_scaledInflow_42 (by decide) (by omega) (fun _ => ?_) (fun c34 => (by first | exact absurd (by decide) c34 | exact absurd c34 (by decide)))
    refine lv_iconst (v := nI 0) hx hb dX2_scaledInflow_49 (by decide) ?_
    refine wn_iadd hx hb dX2_scaledInflow_50 ?_
    refine lv_istore (lv' := [(4, .int (nI (0 + 0))), (3, .int (nI 0)), (2, .int (nI 0)), (0, .ref (ad 0)), (1, .int (nI 3))]) hx hb dX2_scaledInflow_51 hl (by decide) rfl (fun ls hl => ?_)
    refine lv_lconst (v := 0) hx hb dX2_scaledInflow_53 rfl ?_
    refine lv_lstore (lv' := [(5, .long 0), (4, .int (nI (0 + 0))), (3, .int (nI 0)), (2, .int (nI 0)), (0, .ref (ad 0)), (1, .int (nI 3))]) hx hb dX2_scaledInflow_54 hl (by decide) rfl (fun ls hl => ?_)
    refine lv_iconst (v := nI 0) hx hb dX2_scaledInflow_56 (by decide) ?_
    refine lv_istore (lv' := [(7, .int (nI 0)), (5, .long 0), (4, .int (nI (0 + 0))), (3, .int (nI 0)), (2, .int (nI 0)), (0, .ref (ad 0)), (1, .int (nI 3))]) hx hb dX2_scaledInflow_57 hl (by decide) rfl (fun ls hl => ?_)
    refine wLoopR (σ := Nat × Int64) (fun k x ls => k = 3 - x.1 ∧ (x.1 ≤ 3) ∧ (x.2 = smL x.1 (fun k => flK (nw u) (ifL 3 k))) ∧ lv_has ls 8 [(7, .int (nI x.1)), (5, .long x.2), (4, .int (nI (0 + 0))), (3, .int (nI 0)), (0, .ref (ad 0))]) ?_ _ (0, 0) _ ⟨rfl, (Nat.zero_le _), rfl, lv_sub hl [0, 1, 2, 3, 5] rfl⟩
    intro ka x ls hI iha
    obtain ⟨j0, z⟩ := x
    obtain ⟨hka, hj0, hz, hl⟩ := hI
    have hka : ka = 3 - j0 := hka
    have hj0 : j0 ≤ 3 := hj0
    have hz : z = smL j0 (fun k => flK (nw u) (ifL 3 k)) := hz
    have hl : lv_has ls 8 [(7, .int (nI j0)), (5, .long z), (4, .int (nI (0 + 0))), (3, .int (nI 0)), (0, .ref (ad 0))] := hl
    refine lv_iload hx hb dX2_scaledInflow_59 (lv_at hl 0 rfl) ?_
    refine lv_iconst (v := nI 3) hx hb dX2_scaledInflow_61 (by decide) ?_
    refine wn_icmp_ge (tgt := 87) hx hb dX2_scaledInflow_62 (by decide) (by omega) (by omega) (fun c35 => ?_) (fun c35 => ?_)
    · refine lv_iload_n hx hb dX2_scaledInflow_87 rfl (lv_at hl 3 rfl) ?_
      refine wn_if_eq (tgt := 97) hx hb dX2_scaledInflow_88 (by decide) (by omega) (fun _ => ?_) (fun c36 => (by first | exact absurd (by decide) c36 | exact absurd c36 (by decide)))
      refine lv_lload hx hb dX2_scaledInflow_97 (lv_at hl 1 rfl) ?_
      exact W.lret (v := z) hx hb hr (fun t ht hW => ⟨z, rfl, (by rw [hz, show j0 = 3 by omega, ← if_in (by decide) (by decide)]), ht⟩) (fun q hq => absurd hq List.not_mem_nil) dX2_scaledInflow_99
    · refine lv_lload hx hb dX2_scaledInflow_65 (lv_at hl 1 rfl) ?_
      refine lv_aload_n hx hb dX2_scaledInflow_67 rfl (lv_at hl 4 rfl) ?_
      refine lv_iload hx hb dX2_scaledInflow_68 (lv_at hl 2 rfl) ?_
      refine lv_iconst (v := nI 4) hx hb dX2_scaledInflow_70 (by decide) ?_
      refine lv_iload hx hb dX2_scaledInflow_71 (lv_at hl 0 rfl) ?_
      refine wn_imul hx hb dX2_scaledInflow_73 ?_
      refine wn_iadd hx hb dX2_scaledInflow_74 ?_
      refine vp_callSl (va_runV (As := [.int (nI ((0 + 0) + (4 * j0)))]) (rest := [.long z]) ⟨hx, hb, hml, hown, hts⟩ (c_X2_scaledFlow l dd cy ad X tt u ((0 + 0) + (4 * j0)) (by omega) hrg htt hsl) (cwV 1 hts gX2_scaledInflow_X2_scaledFlow rfl rfl rfl hd_X2_scaledFlow ⟨Nat.le_of_ble_eq_true rfl, Nat.le_of_ble_eq_true rfl⟩) (rdC_V hP hK hSt hS (wC_0 cy ad u X) rfl) rfl rfl hl.1 rfl (lv_room (Nat.le_of_ble_eq_true rfl)) dX2_scaledInflow_75 ⟨Nat.le_of_ble_eq_true rfl, Nat.le_of_ble_eq_true rfl⟩).run (fun r37 hr37 => ?_)
      have hr37 : (flK (nw u) ((0 + 0) + (4 * j0))) = r37 := hr37.symm
      subst hr37
      refine lv_ladd hx hb dX2_scaledInflow_78 ?_
      refine lv_topl (fun x38 ex38 => ?_)
      refine lv_lstore (lv' := [(5, .long x38), (7, .int (nI j0)), (4, .int (nI (0 + 0))), (3, .int (nI 0)), (0, .ref (ad 0))]) hx hb dX2_scaledInflow_79 hl (by decide) rfl (fun ls hl => ?_)
      refine lv_iinc (v := (nI (j0 + 1))) (lv' := [(7, .int (nI (j0 + 1))), (5, .long x38), (4, .int (nI (0 + 0))), (3, .int (nI 0)), (0, .ref (ad 0))]) hx hb dX2_scaledInflow_81 hl (k := 1) rfl (nI_1 _) (by decide) rfl (fun ls hl => ?_)
      refine lv_goto (tgt := 59) hx hb dX2_scaledInflow_84 (by decide) ?_
      exact iha (3 - (j0 + 1)) (j0 + 1, x38) ls (by omega) ⟨rfl, (by show j0 + 1 ≤ 3; omega), (by rw [ex38, hz]; rfl), lv_sub hl [0, 1, 2, 3, 4] rfl⟩
theorem hd_X2_cellsBelow : yX2_cellsBelow.cls = RX2 ∧ yX2_cellsBelow.cls ≠ "java/lang/invoke/MethodHandle" ∧ yX2_cellsBelow.cls ≠ "java/lang/invoke/VarHandle" ∧ (parseMethodDescriptor yX2_cellsBelow.desc).map (fun d => d.parameters.length) = some 1 := by decide +kernel
set_option maxHeartbeats 4000000 in
set_option maxRecDepth 100000 in
/-- cellsBelow, row 22 -/
theorem c_X2_cellsBelow_22 (l : Launch) (dd : va_G) (cy : Nat → ClassId) (ad : Nat → Nat) (X : va_W) (tt : Nat × Nat) (u : CS) (hrg : rgM (nw u)) (htt : nR (gNow (nw u)) 9 = 511) (hsl : slv (nw u) u) : Met l yX2_cellsBelow wsX2_cellsBelow ({ frames := 0, cells := 0, slots := 0, locals := 0 }) (va_Pc [.ref (ad 0), .ref (ad 22)] (rdC dd cy tt (wC cy ad u ++ X))) (vp_Si (fun r => r = bwF ((cn (nw u)).2.2.1 9) (fun k9 => nw u (54 + k9)) (cn (nw u)).2.2.2.2.2.1 9)) 0 0 (fun _ => False) := by
  refine Met.ofW (cc := cX2_cellsBelow) (maxL := 4) (ret := (some .int)) (by decide) rfl ?_
  intro p e s m args below meth c s₁ B hml hv
  obtain ⟨rfl, hP, hK, hSt⟩ := hv
  have hx := B.exec
  have hb := B.bytes
  have hr := B.returns
  have hts := atoms_spec (ws := wsX2_cellsBelow) B.pre
  have hown : s.vm.findClass RX2 = some m.cls := findClass_of_methodNamed B.named
  have hlocks := B.notSynchronized
  have hS : va_S (fun _ => False) s.heap s.heap [] := va_S.rf
  have hl := lv_entry ([.ref (ad 0), .ref (ad 22)]) (n := 4) (Nat.le_of_ble_eq_true rfl)
  rw [lg_entry_eq]
  generalize (lg_sl ([.ref (ad 0), .ref (ad 22)]) ++ List.replicate (4 - (lg_sl ([.ref (ad 0), .ref (ad 22)])).length) Slot.unset).toArray = ls at hl ⊢
  have hl : lv_has ls 4 [(0, .ref (ad 0)), (1, .ref (ad 22))] := hl
  refine lv_iconst (v := nI 0) hx hb dX2_cellsBelow_0 (by decide) ?_
  refine lv_istore_n (lv' := [(2, .int (nI 0)), (0, .ref (ad 0)), (1, .ref (ad 22))]) hx hb dX2_cellsBelow_1 rfl hl (by decide) rfl (fun ls hl => ?_)
  refine lv_iconst (v := nI 0) hx hb dX2_cellsBelow_2 (by decide) ?_
  refine lv_istore_n (lv' := [(3, .int (nI 0)), (2, .int (nI 0)), (0, .ref (ad 0)), (1, .ref (ad 22))]) hx hb dX2_cellsBelow_3 rfl hl (by decide) rfl (fun ls hl => ?_)
  refine wLoopR (σ := Nat × Int32) (fun k x ls => k = 9 - x.1 ∧ (x.1 ≤ 9) ∧ (x.2 = bwF ((cn (nw u)).2.2.1 9) (fun k9 => nw u (54 + k9)) (cn (nw u)).2.2.2.2.2.1 x.1) ∧ lv_has ls 4 [(3, .int (nI x.1)), (2, .int x.2), (1, .ref (ad 22)), (0, .ref (ad 0))]) ?_ _ (0, nI 0) _ ⟨rfl, (Nat.zero_le _), rfl, lv_sub hl [0, 1, 3, 2] rfl⟩
  intro ka x ls hI iha
  obtain ⟨j0, z⟩ := x
  obtain ⟨hka, hj0, hz, hl⟩ := hI
  have hka : ka = 9 - j0 := hka
  have hj0 : j0 ≤ 9 := hj0
  have hz : z = bwF ((cn (nw u)).2.2.1 9) (fun k9 => nw u (54 + k9)) (cn (nw u)).2.2.2.2.2.1 j0 := hz
  have hl : lv_has ls 4 [(3, .int (nI j0)), (2, .int z), (1, .ref (ad 22)), (0, .ref (ad 0))] := hl
  refine lv_iload_n hx hb dX2_cellsBelow_4 rfl (lv_at hl 0 rfl) ?_
  refine lv_bipush (v := nI 9) hx hb dX2_cellsBelow_5 (by decide) ?_
  refine wn_icmp_ge (tgt := 47) hx hb dX2_cellsBelow_7 (by decide) (by omega) (by omega) (fun c1 => ?_) (fun c1 => ?_)
  · refine lv_iload_n hx hb dX2_cellsBelow_47 rfl (lv_at hl 1 rfl) ?_
    exact W.iret (v := z) hx hb hr (fun t ht hW => ⟨z, rfl, (by rw [hz, show j0 = 9 by omega]), ht⟩) (fun q hq => absurd hq List.not_mem_nil) dX2_cellsBelow_48
  · refine lv_aload_n hx hb dX2_cellsBelow_10 rfl (lv_at hl 3 rfl) ?_
    refine va_get (D := dd) (ci := 4) (v := .ref (ad 2)) (C := RX2) (T := TX2) (N := 7) hx hb hts (fun _ h9 => List.mem_cons_of_mem _ (List.mem_append_left _ (List.mem_append_left _ (List.mem_append_right _ h9)))) hown hK hP (0) (wC_0 cy ad u X) rfl 3 (by decide) (hts (Cond.fieldLink RX2 27 "HeadGrid" "solution" "LHeadGrid$Solution;") (List.mem_of_getElem? (i := 1) rfl)) (fun _ h9 => h9) rfl dX2_cellsBelow_11 ?_
    refine va_get (D := dd) (ci := 2) (v := .ref (ad 5)) (C := RX0) (T := TX0) (N := 4) hx hb hts (fun _ h9 => List.mem_cons_of_mem _ (List.mem_append_left _ (List.mem_append_right _ h9))) hown hK hP (2) (wC_2 cy ad u X) rfl 2 (by decide) (hts (Cond.fieldLink RX2 92 "HeadGrid$Solution" "scaledHeads" "[J") (List.mem_of_getElem? (i := 2) rfl)) (fun _ h9 => h9) rfl dX2_cellsBelow_14 ?_
    refine lv_iload_n hx hb dX2_cellsBelow_17 rfl (lv_at hl 0 rfl) ?_
    refine wa_lald hx hb hK hP (wC_5 cy ad u X) (t0 := 1) rfl (i := j0) (by omega) (by decide) dX2_cellsBelow_18 ?_
    refine lv_aload_n hx hb dX2_cellsBelow_19 rfl (lv_at hl 3 rfl) ?_
    refine va_get (D := dd) (ci := 4) (v := .ref (ad 2)) (C := RX2) (T := TX2) (N := 7) hx hb hts (fun _ h9 => List.mem_cons_of_mem _ (List.mem_append_left _ (List.mem_append_left _ (List.mem_append_right _ h9)))) hown hK hP (0) (wC_0 cy ad u X) rfl 3 (by decide) (hts (Cond.fieldLink RX2 27 "HeadGrid" "solution" "LHeadGrid$Solution;") (List.mem_of_getElem? (i := 1) rfl)) (fun _ h9 => h9) rfl dX2_cellsBelow_20 ?_
    refine va_get (D := dd) (ci := 2) (v := .long u.2.2.2.2.2.1) (C := RX0) (T := TX0) (N := 4) hx hb hts (fun _ h9 => List.mem_cons_of_mem _ (List.mem_append_left _ (List.mem_append_right _ h9))) hown hK hP (2) (wC_2 cy ad u X) rfl 3 (by decide) (hts (Cond.fieldLink RX2 212 "HeadGrid$Solution" "denominator" "J") (List.mem_of_getElem? (i := 3) rfl)) (fun _ h9 => h9) rfl dX2_cellsBelow_23 ?_
    refine lv_aload_n hx hb dX2_cellsBelow_26 rfl (lv_at hl 2 rfl) ?_
    refine lv_iload_n hx hb dX2_cellsBelow_27 rfl (lv_at hl 0 rfl) ?_
    refine wa_iald hx hb hK hP (wC_n4 cy ad u X) (t0 := 0) rfl (i := j0) (by omega) (by decide) dX2_cellsBelow_28 ?_
    refine lv_i2l hx hb dX2_cellsBelow_29 rfl ?_
    refine lv_lmul hx hb dX2_cellsBelow_30 ?_
    refine wl_ge (tgt := 41) hx hb dX2_cellsBelow_31 dX2_cellsBelow_32 (by decide) (fun cD => ?_) (fun cD => ?_)
    · refine lv_iinc (v := (nI (j0 + 1))) (lv' := [(3, .int (nI (j0 + 1))), (2, .int z), (1, .ref (ad 22)), (0, .ref (ad 0))]) hx hb dX2_cellsBelow_41 hl (k := 0) rfl (nI_1 _) (by decide) rfl (fun ls hl => ?_)
      refine lv_goto (tgt := 4) hx hb dX2_cellsBelow_44 (by decide) ?_
      exact iha (9 - (j0 + 1)) (j0 + 1, z) ls (by omega) ⟨rfl, (by show j0 + 1 ≤ 9; omega), (by show z = _; rw [bwF, ← hz, if_neg (by rw [Int64.not_lt, ← (hsl.2 htt).2 j0 (by omega), Int64.mul_comm, nw_4 u (by omega), show (cn (nw u)).2.2.2.2.2.1 = u.2.2.2.2.2.1 from hsl.1.symm]; exact cD), i32_or0]), lv_sub hl [0, 1, 2, 3] rfl⟩
    · refine lv_iload_n hx hb dX2_cellsBelow_35 rfl (lv_at hl 1 rfl) ?_
      refine lv_iconst (v := nI 1) hx hb dX2_cellsBelow_36 (by decide) ?_
      refine lv_iload_n hx hb dX2_cellsBelow_37 rfl (lv_at hl 0 rfl) ?_
      refine lv_ishl hx hb dX2_cellsBelow_38 ?_
      refine lv_ior hx hb dX2_cellsBelow_39 ?_
      refine lv_topi (fun x2 ex2 => ?_)
      refine lv_istore_n (lv' := [(2, .int x2), (3, .int (nI j0)), (1, .ref (ad 22)), (0, .ref (ad 0))]) hx hb dX2_cellsBelow_40 rfl hl (by decide) rfl (fun ls hl => ?_)
      refine lv_iinc (v := (nI (j0 + 1))) (lv' := [(3, .int (nI (j0 + 1))), (2, .int x2), (1, .ref (ad 22)), (0, .ref (ad 0))]) hx hb dX2_cellsBelow_41 hl (k := 1) rfl (nI_1 _) (by decide) rfl (fun ls hl => ?_)
      refine lv_goto (tgt := 4) hx hb dX2_cellsBelow_44 (by decide) ?_
      exact iha (9 - (j0 + 1)) (j0 + 1, x2) ls (by omega) ⟨rfl, (by show j0 + 1 ≤ 9; omega), (by show x2 = _; rw [ex2, bwF, ← hz, if_pos (by rw [← Int64.not_le, ← (hsl.2 htt).2 j0 (by omega), Int64.mul_comm, nw_4 u (by omega), show (cn (nw u)).2.2.2.2.2.1 = u.2.2.2.2.2.1 from hsl.1.symm]; exact cD)]), lv_sub hl [0, 1, 2, 3] rfl⟩
set_option maxHeartbeats 4000000 in
set_option maxRecDepth 100000 in
/-- cellsBelow, row 23 -/
theorem c_X2_cellsBelow_23 (l : Launch) (dd : va_G) (cy : Nat → ClassId) (ad : Nat → Nat) (X : va_W) (tt : Nat × Nat) (u : CS) (hrg : rgM (nw u)) (htt : nR (gNow (nw u)) 9 = 511) (hsl : slv (nw u) u) : Met l yX2_cellsBelow wsX2_cellsBelow ({ frames := 0, cells := 0, slots := 0, locals := 0 }) (va_Pc [.ref (ad 0), .ref (ad 23)] (rdC dd cy tt (wC cy ad u ++ X))) (vp_Si (fun r => r = bwF ((cn (nw u)).2.2.1 9) (fun k9 => nw u (63 + k9)) (cn (nw u)).2.2.2.2.2.1 9)) 0 0 (fun _ => False) := by
  refine Met.ofW (cc := cX2_cellsBelow) (maxL := 4) (ret := (some .int)) (by decide) rfl ?_
  intro p e s m args below meth c s₁ B hml hv
  obtain ⟨rfl, hP, hK, hSt⟩ := hv
  have hx := B.exec
  have hb := B.bytes
  have hr := B.returns
  have hts := atoms_spec (ws := wsX2_cellsBelow) B.pre
  have hown : s.vm.findClass RX2 = some m.cls := findClass_of_methodNamed B.named
  have hlocks := B.notSynchronized
  have hS : va_S (fun _ => False) s.heap s.heap [] := va_S.rf
  have hl := lv_entry ([.ref (ad 0), .ref (ad 23)]) (n := 4) (Nat.le_of_ble_eq_true rfl)
  rw [lg_entry_eq]
  generalize (lg_sl ([.ref (ad 0), .ref (ad 23)]) ++ List.replicate (4 - (lg_sl ([.ref (ad 0), .ref (ad 23)])).length) Slot.unset).toArray = ls at hl ⊢
  have hl : lv_has ls 4 [(0, .ref (ad 0)), (1, .ref (ad 23))] := hl
  refine lv_iconst (v := nI 0) hx hb dX2_cellsBelow_0 (by decide) ?_
  refine lv_istore_n (lv' := [(2, .int (nI 0)), (0, .ref (ad 0)), (1, .ref (ad 23))]) hx hb dX2_cellsBelow_1 rfl hl (by decide) rfl (fun ls hl => ?_)
  refine lv_iconst (v := nI 0) hx hb dX2_cellsBelow_2 (by decide) ?_
  refine lv_istore_n (lv' := [(3, .int (nI 0)), (2, .int (nI 0)), (0, .ref (ad 0)), (1, .ref (ad 23))]) hx hb dX2_cellsBelow_3 rfl hl (by decide) rfl (fun ls hl => ?_)
  refine wLoopR (σ := Nat × Int32) (fun k x ls => k = 9 - x.1 ∧ (x.1 ≤ 9) ∧ (x.2 = bwF ((cn (nw u)).2.2.1 9) (fun k9 => nw u (63 + k9)) (cn (nw u)).2.2.2.2.2.1 x.1) ∧ lv_has ls 4 [(3, .int (nI x.1)), (2, .int x.2), (1, .ref (ad 23)), (0, .ref (ad 0))]) ?_ _ (0, nI 0) _ ⟨rfl, (Nat.zero_le _), rfl, lv_sub hl [0, 1, 3, 2] rfl⟩
  intro ka x ls hI iha
  obtain ⟨j0, z⟩ := x
  obtain ⟨hka, hj0, hz, hl⟩ := hI
  have hka : ka = 9 - j0 := hka
  have hj0 : j0 ≤ 9 := hj0
  have hz : z = bwF ((cn (nw u)).2.2.1 9) (fun k9 => nw u (63 + k9)) (cn (nw u)).2.2.2.2.2.1 j0 := hz
  have hl : lv_has ls 4 [(3, .int (nI j0)), (2, .int z), (1, .ref (ad 23)), (0, .ref (ad 0))] := hl
  refine lv_iload_n hx hb dX2_cellsBelow_4 rfl (lv_at hl 0 rfl) ?_
  refine lv_bipush (v := nI 9) hx hb dX2_cellsBelow_5 (by decide) ?_
  refine wn_icmp_ge (tgt := 47) hx hb dX2_cellsBelow_7 (by decide) (by omega) (by omega) (fun c1 => ?_) (fun c1 => ?_)
  · refine lv_iload_n hx hb dX2_cellsBelow_47 rfl (lv_at hl 1 rfl) ?_
    exact W.iret (v := z) hx hb hr (fun t ht hW => ⟨z, rfl, (by rw [hz, show j0 = 9 by omega]), ht⟩) (fun q hq => absurd hq List.not_mem_nil) dX2_cellsBelow_48
  · refine lv_aload_n hx hb dX2_cellsBelow_10 rfl (lv_at hl 3 rfl) ?_
    refine va_get (D := dd) (ci := 4) (v := .ref (ad 2)) (C := RX2) (T := TX2) (N := 7) hx hb hts (fun _ h9 => List.mem_cons_of_mem _ (List.mem_append_left _ (List.mem_append_left _ (List.mem_append_right _ h9)))) hown hK hP (0) (wC_0 cy ad u X) rfl 3 (by decide) (hts (Cond.fieldLink RX2 27 "HeadGrid" "solution" "LHeadGrid$Solution;") (List.mem_of_getElem? (i := 1) rfl)) (fun _ h9 => h9) rfl dX2_cellsBelow_11 ?_
    refine va_get (D := dd) (ci := 2) (v := .ref (ad 5)) (C := RX0) (T := TX0) (N := 4) hx hb hts (fun _ h9 => List.mem_cons_of_mem _ (List.mem_append_left _ (List.mem_append_right _ h9))) hown hK hP (2) (wC_2 cy ad u X) rfl 2 (by decide) (hts (Cond.fieldLink RX2 92 "HeadGrid$Solution" "scaledHeads" "[J") (List.mem_of_getElem? (i := 2) rfl)) (fun _ h9 => h9) rfl dX2_cellsBelow_14 ?_
    refine lv_iload_n hx hb dX2_cellsBelow_17 rfl (lv_at hl 0 rfl) ?_
    refine wa_lald hx hb hK hP (wC_5 cy ad u X) (t0 := 1) rfl (i := j0) (by omega) (by decide) dX2_cellsBelow_18 ?_
    refine lv_aload_n hx hb dX2_cellsBelow_19 rfl (lv_at hl 3 rfl) ?_
    refine va_get (D := dd) (ci := 4) (v := .ref (ad 2)) (C := RX2) (T := TX2) (N := 7) hx hb hts (fun _ h9 => List.mem_cons_of_mem _ (List.mem_append_left _ (List.mem_append_left _ (List.mem_append_right _ h9)))) hown hK hP (0) (wC_0 cy ad u X) rfl 3 (by decide) (hts (Cond.fieldLink RX2 27 "HeadGrid" "solution" "LHeadGrid$Solution;") (List.mem_of_getElem? (i := 1) rfl)) (fun _ h9 => h9) rfl dX2_cellsBelow_20 ?_
    refine va_get (D := dd) (ci := 2) (v := .long u.2.2.2.2.2.1) (C := RX0) (T := TX0) (N := 4) hx hb hts (fun _ h9 => List.mem_cons_of_mem _ (List.mem_append_left _ (List.mem_append_right _ h9))) hown hK hP (2) (wC_2 cy ad u X) rfl 3 (by decide) (hts (Cond.fieldLink RX2 212 "HeadGrid$Solution" "denominator" "J") (List.mem_of_getElem? (i := 3) rfl)) (fun _ h9 => h9) rfl dX2_cellsBelow_23 ?_
    refine lv_aload_n hx hb dX2_cellsBelow_26 rfl (lv_at hl 2 rfl) ?_
    refine lv_iload_n hx hb dX2_cellsBelow_27 rfl (lv_at hl 0 rfl) ?_
    refine wa_iald hx hb hK hP (wC_n5 cy ad u X) (t0 := 0) rfl (i := j0) (by omega) (by decide) dX2_cellsBelow_28 ?_
    refine lv_i2l hx hb dX2_cellsBelow_29 rfl ?_
    refine lv_lmul hx hb dX2_cellsBelow_30 ?_
    refine wl_ge (tgt := 41) hx hb dX2_cellsBelow_31 dX2_cellsBelow_32 (by decide) (fun cD => ?_) (fun cD => ?_)
    · refine lv_iinc (v := (nI (j0 + 1))) (lv' := [(3, .int (nI (j0 + 1))), (2, .int z), (1, .ref (ad 23)), (0, .ref (ad 0))]) hx hb dX2_cellsBelow_41 hl (k := 0) rfl (nI_1 _) (by decide) rfl (fun ls hl => ?_)
      refine lv_goto (tgt := 4) hx hb dX2_cellsBelow_44 (by decide) ?_
      exact iha (9 - (j0 + 1)) (j0 + 1, z) ls (by omega) ⟨rfl, (by show j0 + 1 ≤ 9; omega), (by show z = _; rw [bwF, ← hz, if_neg (by rw [Int64.not_lt, ← (hsl.2 htt).2 j0 (by omega), Int64.mul_comm, nw_5 u (by omega), show (cn (nw u)).2.2.2.2.2.1 = u.2.2.2.2.2.1 from hsl.1.symm]; exact cD), i32_or0]), lv_sub hl [0, 1, 2, 3] rfl⟩
    · refine lv_iload_n hx hb dX2_cellsBelow_35 rfl (lv_at hl 1 rfl) ?_
      refine lv_iconst (v := nI 1) hx hb dX2_cellsBelow_36 (by decide) ?_
      refine lv_iload_n hx hb dX2_cellsBelow_37 rfl (lv_at hl 0 rfl) ?_
      refine lv_ishl hx hb dX2_cellsBelow_38 ?_
      refine lv_ior hx hb dX2_cellsBelow_39 ?_
      refine lv_topi (fun x2 ex2 => ?_)
      refine lv_istore_n (lv' := [(2, .int x2), (3, .int (nI j0)), (1, .ref (ad 23)), (0, .ref (ad 0))]) hx hb dX2_cellsBelow_40 rfl hl (by decide) rfl (fun ls hl => ?_)
      refine lv_iinc (v := (nI (j0 + 1))) (lv' := [(3, .int (nI (j0 + 1))), (2, .int x2), (1, .ref (ad 23)), (0, .ref (ad 0))]) hx hb dX2_cellsBelow_41 hl (k := 1) rfl (nI_1 _) (by decide) rfl (fun ls hl => ?_)
      refine lv_goto (tgt := 4) hx hb dX2_cellsBelow_44 (by decide) ?_
      exact iha (9 - (j0 + 1)) (j0 + 1, x2) ls (by omega) ⟨rfl, (by show j0 + 1 ≤ 9; omega), (by show x2 = _; rw [ex2, bwF, ← hz, if_pos (by rw [← Int64.not_le, ← (hsl.2 htt).2 j0 (by omega), Int64.mul_comm, nw_5 u (by omega), show (cn (nw u)).2.2.2.2.2.1 = u.2.2.2.2.2.1 from hsl.1.symm]; exact cD)]), lv_sub hl [0, 1, 2, 3] rfl⟩
theorem hd_X2_partOf : yX2_partOf.cls = RX2 ∧ yX2_partOf.cls ≠ "java/lang/invoke/MethodHandle" ∧ yX2_partOf.cls ≠ "java/lang/invoke/VarHandle" ∧ (parseMethodDescriptor yX2_partOf.desc).map (fun d => d.parameters.length) = some 2 := by decide +kernel
set_option maxHeartbeats 4000000 in
set_option maxRecDepth 100000 in
/-- partOf(scaled, part) -/
theorem c_X2_partOf (l : Launch) (dd : va_G) (cy : Nat → ClassId) (ad : Nat → Nat) (X : va_W) (tt : Nat × Nat) (u : CS) (v : Int64) (pt : Nat) (hpt : pt < 2) (hv : v.toInt ≠ -2 ^ 63) (h_denominator : lN (det 9 (AM (nw u))).toNat = u.2.2.2.2.2.1) (hn0 : 0 < (det 9 (AM (nw u))).toNat) (hn28 : (det 9 (AM (nw u))).toNat < 2 ^ 28) : Met l yX2_partOf wsX2_partOf ({ frames := 2, cells := 0, slots := 0, locals := 61 }) (va_Pc [.ref (ad 0), .long v, .int (nI pt)] (rdC dd cy tt (wC cy ad u ++ X))) (vp_Sl (fun r => r = ptF (nw u) v (nI pt))) 0 0 (fun _ => False) := by
  refine Met.ofW (cc := cX2_partOf) (maxL := 6) (ret := (some .long)) (by decide) rfl ?_
  intro p e s m args below meth c s₁ B hml hv
  obtain ⟨rfl, hP, hK, hSt⟩ := hv
  have hx := B.exec
  have hb := B.bytes
  have hr := B.returns
  have hts := atoms_spec (ws := wsX2_partOf) B.pre
  have hown : s.vm.findClass RX2 = some m.cls := findClass_of_methodNamed B.named
  have hlocks := B.notSynchronized
  have hS : va_S (fun _ => False) s.heap s.heap [] := va_S.rf
  have hl := lv_entry ([.ref (ad 0), .long v, .int (nI pt)]) (n := 6) (Nat.le_of_ble_eq_true rfl)
  rw [lg_entry_eq]
  generalize (lg_sl ([.ref (ad 0), .long v, .int (nI pt)]) ++ List.replicate (6 - (lg_sl ([.ref (ad 0), .long v, .int (nI pt)])).length) Slot.unset).toArray = ls at hl ⊢
  have hl : lv_has ls 6 [(0, .ref (ad 0)), (1, .long v), (3, .int (nI pt))] := hl
  refine lv_lload_n hx hb dX2_partOf_0 rfl (lv_at hl 1 rfl) ?_
  refine lv_aload_n hx hb dX2_partOf_1 rfl (lv_at hl 0 rfl) ?_
  refine va_get (D := dd) (ci := 4) (v := .ref (ad 2)) (C := RX2) (T := TX2) (N := 7) hx hb hts (fun _ h9 => List.mem_cons_of_mem _ (List.mem_append_left _ (List.mem_append_left _ (List.mem_append_right _ h9)))) hown hK hP (0) (wC_0 cy ad u X) rfl 3 (by decide) (hts (Cond.fieldLink RX2 27 "HeadGrid" "solution" "LHeadGrid$Solution;") (List.mem_of_getElem? (i := 1) rfl)) (fun _ h9 => h9) rfl dX2_partOf_2 ?_
  refine va_get (D := dd) (ci := 2) (v := .long (lN (det 9 (AM (nw u))).toNat)) (C := RX0) (T := TX0) (N := 4) hx hb hts (fun _ h9 => List.mem_cons_of_mem _ (List.mem_append_left _ (List.mem_append_right _ h9))) hown hK hP (2) (wC_2 cy ad u X) rfl 3 (by decide) (hts (Cond.fieldLink RX2 212 "HeadGrid$Solution" "denominator" "J") (List.mem_of_getElem? (i := 2) rfl)) (fun _ h9 => h9) (by rw [h_denominator]; rfl) dX2_partOf_5 ?_
  refine vp_callSl (va_runS (As := [.long v, .long (lN (det 9 (AM (nw u))).toNat)]) (rest := []) ⟨hx, hb, hml, hown, hts⟩ (c_X2_commonDivisor l v (det 9 (AM (nw u))).toNat hv hn0 hn28) (va_cwS 2 hts gX2_partOf_X2_commonDivisor rfl rfl rfl hd_X2_commonDivisor ⟨Nat.le_of_ble_eq_true rfl, Nat.le_of_ble_eq_true rfl⟩) ⟨fun a U g mk q => q, fun U hU hW => ⟨rfl, trivial⟩⟩ rfl rfl hl.1 rfl (lv_room (Nat.le_of_ble_eq_true rfl)) dX2_partOf_8 ⟨Nat.le_of_ble_eq_true rfl, Nat.le_of_ble_eq_true rfl⟩).run (fun r1 hr1 => ?_)
  have hr1 : r1 = lN (Nat.gcd v.toInt.natAbs (det 9 (AM (nw u))).toNat) := hr1
  subst hr1
  refine lv_lstore (lv' := [(4, .long (lN (Nat.gcd v.toInt.natAbs (det 9 (AM (nw u))).toNat))), (0, .ref (ad 0)), (1, .long v), (3, .int (nI pt))]) hx hb dX2_partOf_11 hl (by decide) rfl (fun ls hl => ?_)
  refine lv_iload_n hx hb dX2_partOf_13 rfl (lv_at hl 3 rfl) ?_
  refine wn_if_ne (tgt := 21) hx hb dX2_partOf_14 (by decide) (by omega) (fun cP => ?_) (fun cP => ?_)
  · refine lv_aload_n hx hb dX2_partOf_21 rfl (lv_at hl 1 rfl) ?_
    refine va_get (D := dd) (ci := 4) (v := .ref (ad 2)) (C := RX2) (T := TX2) (N := 7) hx hb hts (fun _ h9 => List.mem_cons_of_mem _ (List.mem_append_left _ (List.mem_append_left _ (List.mem_append_right _ h9)))) hown hK hP (0) (wC_0 cy ad u X) rfl 3 (by decide) (hts (Cond.fieldLink RX2 27 "HeadGrid" "solution" "LHeadGrid$Solution;") (List.mem_of_getElem? (i := 1) rfl)) (fun _ h9 => h9) rfl dX2_partOf_22 ?_
    refine va_get (D := dd) (ci := 2) (v := .long (lN (det 9 (AM (nw u))).toNat)) (C := RX0) (T := TX0) (N := 4) hx hb hts (fun _ h9 => List.mem_cons_of_mem _ (List.mem_append_left _ (List.mem_append_right _ h9))) hown hK hP (2) (wC_2 cy ad u X) rfl 3 (by decide) (hts (Cond.fieldLink RX2 212 "HeadGrid$Solution" "denominator" "J") (List.mem_of_getElem? (i := 2) rfl)) (fun _ h9 => h9) (by rw [h_denominator]; rfl) dX2_partOf_25 ?_
    refine lv_lload hx hb dX2_partOf_28 (lv_at hl 0 rfl) ?_
    refine lv_ldiv hx hb dX2_partOf_30 (fun h9 => absurd (lN_0 (Nat.lt_of_le_of_lt (Nat.gcd_le_right _ hn0) (by omega)) h9) (Nat.ne_of_gt (Nat.gcd_pos_of_pos_right _ hn0))) ?_
    exact W.lret (v := (lN (det 9 (AM (nw u))).toNat / lN (Nat.gcd v.toInt.natAbs (det 9 (AM (nw u))).toNat))) hx hb hr (fun t ht hW => ⟨(lN (det 9 (AM (nw u))).toNat / lN (Nat.gcd v.toInt.natAbs (det 9 (AM (nw u))).toNat)), rfl, (by unfold ptF; rw [pt_if (by omega), if_neg cP]), ht⟩) (fun q hq => absurd hq List.not_mem_nil) dX2_partOf_31
  · refine lv_lload_n hx hb dX2_partOf_17 rfl (lv_at hl 2 rfl) ?_
    refine lv_goto (tgt := 28) hx hb dX2_partOf_18 (by decide) ?_
    refine lv_lload hx hb dX2_partOf_28 (lv_at hl 0 rfl) ?_
    refine lv_ldiv hx hb dX2_partOf_30 (fun h9 => absurd (lN_0 (Nat.lt_of_le_of_lt (Nat.gcd_le_right _ hn0) (by omega)) h9) (Nat.ne_of_gt (Nat.gcd_pos_of_pos_right _ hn0))) ?_
    exact W.lret (v := (v / lN (Nat.gcd v.toInt.natAbs (det 9 (AM (nw u))).toNat))) hx hb hr (fun t ht hW => ⟨(v / lN (Nat.gcd v.toInt.natAbs (det 9 (AM (nw u))).toNat)), rfl, (by unfold ptF; rw [pt_if (by omega), if_pos cP]), ht⟩) (fun q hq => absurd hq List.not_mem_nil) dX2_partOf_31
theorem hd_X2_exactHeadAsDouble : yX2_exactHeadAsDouble.cls = RX2 ∧ yX2_exactHeadAsDouble.cls ≠ "java/lang/invoke/MethodHandle" ∧ yX2_exactHeadAsDouble.cls ≠ "java/lang/invoke/VarHandle" ∧ (parseMethodDescriptor yX2_exactHeadAsDouble.desc).map (fun d => d.parameters.length) = some 1 := by decide +kernel
set_option maxHeartbeats 4000000 in
set_option maxRecDepth 100000 in
/-- exactHeadAsDouble(cell) -/
theorem c_X2_exactHeadAsDouble (l : Launch) (dd : va_G) (cy : Nat → ClassId) (ad : Nat → Nat) (X : va_W) (tt : Nat × Nat) (u : CS) (c0 : Nat) (hc0 : c0 < 9) (hrg : rgM (nw u)) (htt : nR (gNow (nw u)) 9 = 511) (hsl : slv (nw u) u) (hg : GM (nw u)) : Met l yX2_exactHeadAsDouble wsX2_exactHeadAsDouble ({ frames := 3, cells := 0, slots := 0, locals := 86 }) (va_Pc [.ref (ad 0), .int (nI c0)] (rdC dd cy tt (wC cy ad u ++ X))) (vp_Sd (fun r => r = exD (nw u) c0)) 0 0 (fun _ => False) := by
  refine Met.ofW (cc := cX2_exactHeadAsDouble) (maxL := 4) (ret := (some .double)) (by decide) rfl ?_
  intro p e s m args below meth c s₁ B hml hv
  obtain ⟨rfl, hP, hK, hSt⟩ := hv
  have hx := B.exec
  have hb := B.bytes
  have hr := B.returns
  have hts := atoms_spec (ws := wsX2_exactHeadAsDouble) B.pre
  have hown : s.vm.findClass RX2 = some m.cls := findClass_of_methodNamed B.named
  have hlocks := B.notSynchronized
  have hS : va_S (fun _ => False) s.heap s.heap [] := va_S.rf
  have hl := lv_entry ([.ref (ad 0), .int (nI c0)]) (n := 4) (Nat.le_of_ble_eq_true rfl)
  rw [lg_entry_eq]
  generalize (lg_sl ([.ref (ad 0), .int (nI c0)]) ++ List.replicate (4 - (lg_sl ([.ref (ad 0), .int (nI c0)])).length) Slot.unset).toArray = ls at hl ⊢
  have hl : lv_has ls 4 [(0, .ref (ad 0)), (1, .int (nI c0))] := hl
  refine lv_aload_n hx hb dX2_exactHeadAsDouble_0 rfl (lv_at hl 0 rfl) ?_
  refine va_get (D := dd) (ci := 4) (v := .ref (ad 2)) (C := RX2) (T := TX2) (N := 7) hx hb hts (fun _ h9 => List.mem_cons_of_mem _ (List.mem_append_left _ (List.mem_append_left _ (List.mem_append_left _ (List.mem_append_right _ h9))))) hown hK hP (0) (wC_0 cy ad u X) rfl 3 (by decide) (hts (Cond.fieldLink RX2 27 "HeadGrid" "solution" "LHeadGrid$Solution;") (List.mem_of_getElem? (i := 1) rfl)) (fun _ h9 => h9) rfl dX2_exactHeadAsDouble_1 ?_
  refine va_get (D := dd) (ci := 2) (v := .ref (ad 5)) (C := RX0) (T := TX0) (N := 4) hx hb hts (fun _ h9 => List.mem_cons_of_mem _ (List.mem_append_left _ (List.mem_append_left _ (List.mem_append_right _ h9)))) hown hK hP (2) (wC_2 cy ad u X) rfl 2 (by decide) (hts (Cond.fieldLink RX2 92 "HeadGrid$Solution" "scaledHeads" "[J") (List.mem_of_getElem? (i := 2) rfl)) (fun _ h9 => h9) rfl dX2_exactHeadAsDouble_4 ?_
  refine lv_iload_n hx hb dX2_exactHeadAsDouble_7 rfl (lv_at hl 1 rfl) ?_
  refine wa_lald hx hb hK hP (wC_5 cy ad u X) (t0 := 1) rfl (i := c0) (by omega) (by decide) dX2_exactHeadAsDouble_8 ?_
  refine lv_topl (fun x1 ex1 => ?_)
  refine lv_lstore_n (lv' := [(2, .long x1), (0, .ref (ad 0)), (1, .int (nI c0))]) hx hb dX2_exactHeadAsDouble_9 rfl hl (by decide) rfl (fun ls hl => ?_)
  have hx9 : x1 = (cn (nw u)).2.2.1 9 c0 := by rw [ex1]; exact (hsl.2 htt).2 c0 (by omega)
  have hG := hg htt
  refine lv_aload_n hx hb dX2_exactHeadAsDouble_10 rfl (lv_at hl 1 rfl) ?_
  refine lv_lload_n hx hb dX2_exactHeadAsDouble_11 rfl (lv_at hl 0 rfl) ?_
  refine lv_iconst (v := nI 0) hx hb dX2_exactHeadAsDouble_12 (by decide) ?_
  refine vp_callSl (va_runV (As := [.long x1, .int (nI 0)]) (rest := []) ⟨hx, hb, hml, hown, hts⟩ (c_X2_partOf l dd cy ad X tt u x1 0 (by omega) (by rw [hx9]; exact hG.2.2.1 c0 (by omega)) (den_l hrg htt hsl).1 (den_l hrg htt hsl).2.1 (den_l hrg htt hsl).2.2) (cwV 2 hts gX2_exactHeadAsDouble_X2_partOf rfl rfl rfl hd_X2_partOf ⟨Nat.le_of_ble_eq_true rfl, Nat.le_of_ble_eq_true rfl⟩) (rdC_V hP hK hSt hS (wC_0 cy ad u X) rfl) rfl rfl hl.1 rfl (lv_room (Nat.le_of_ble_eq_true rfl)) dX2_exactHeadAsDouble_13 ⟨Nat.le_of_ble_eq_true rfl, Nat.le_of_ble_eq_true rfl⟩).run (fun r2 hr2 => ?_)
  have hr2 : ptF (nw u) x1 (nI 0) = r2 := hr2.symm
  subst hr2
  refine lv_l2d hx hb dX2_exactHeadAsDouble_16 ?_
  refine lv_aload_n hx hb dX2_exactHeadAsDouble_17 rfl (lv_at hl 1 rfl) ?_
  refine lv_lload_n hx hb dX2_exactHeadAsDouble_18 rfl (lv_at hl 0 rfl) ?_
  refine lv_iconst (v := nI 1) hx hb dX2_exactHeadAsDouble_19 (by decide) ?_
  refine vp_callSl (va_runV (As := [.long x1, .int (nI 1)]) (rest := [.double (FP.l2d (ptF (nw u) x1 (nI 0)))]) ⟨hx, hb, hml, hown, hts⟩ (c_X2_partOf l dd cy ad X tt u x1 1 (by omega) (by rw [hx9]; exact hG.2.2.1 c0 (by omega)) (den_l hrg htt hsl).1 (den_l hrg htt hsl).2.1 (den_l hrg htt hsl).2.2) (cwV 2 hts gX2_exactHeadAsDouble_X2_partOf rfl rfl rfl hd_X2_partOf ⟨Nat.le_of_ble_eq_true rfl, Nat.le_of_ble_eq_true rfl⟩) (rdC_V hP hK hSt hS (wC_0 cy ad u X) rfl) rfl rfl hl.1 rfl (lv_room (Nat.le_of_ble_eq_true rfl)) dX2_exactHeadAsDouble_20 ⟨Nat.le_of_ble_eq_true rfl, Nat.le_of_ble_eq_true rfl⟩).run (fun r3 hr3 => ?_)
  have hr3 : ptF (nw u) x1 (nI 1) = r3 := hr3.symm
  subst hr3
  refine lv_l2d hx hb dX2_exactHeadAsDouble_23 ?_
  refine lv_ddiv hx hb dX2_exactHeadAsDouble_24 (n64_fin (by rw [hx9]; exact fin_bits_of (ex_bits hG.2.1 c0))) ?_
  exact W.dret (v := (FP.ddiv (FP.l2d (ptF (nw u) x1 (nI 0))) (FP.l2d (ptF (nw u) x1 (nI 1))))) hx hb hr (fun t ht hW => ⟨(FP.ddiv (FP.l2d (ptF (nw u) x1 (nI 0))) (FP.l2d (ptF (nw u) x1 (nI 1)))), rfl, (by rw [hx9]; rfl), ht⟩) (fun q hq => absurd hq List.not_mem_nil) dX2_exactHeadAsDouble_25
theorem hd_X2_mixHeads : yX2_mixHeads.cls = RX2 ∧ yX2_mixHeads.cls ≠ "java/lang/invoke/MethodHandle" ∧ yX2_mixHeads.cls ≠ "java/lang/invoke/VarHandle" ∧ (parseMethodDescriptor yX2_mixHeads.desc).map (fun d => d.parameters.length) = some 1 := by decide +kernel
set_option maxHeartbeats 4000000 in
set_option maxRecDepth 100000 in
/-- mixHeads(hash) -/
theorem c_X2_mixHeads (l : Launch) (dd : va_G) (cy : Nat → ClassId) (ad : Nat → Nat) (X : va_W) (tt : Nat × Nat) (u : CS) (h0 : Int64) (hrg : rgM (nw u)) (htt : nR (gNow (nw u)) 9 = 511) (hsl : slv (nw u) u) (hg : GM (nw u)) : Met l yX2_mixHeads wsX2_mixHeads ({ frames := 3, cells := 0, slots := 0, locals := 86 }) (va_Pc [.ref (ad 0), .long h0] (rdC dd cy tt (wC cy ad u ++ X))) (vp_Sl (fun r => r = hmH (nw u) 9 h0)) 0 0 (fun _ => False) := by
  refine Met.ofW (cc := cX2_mixHeads) (maxL := 8) (ret := (some .long)) (by decide) rfl ?_
  intro p e s m args below meth c s₁ B hml hv
  obtain ⟨rfl, hP, hK, hSt⟩ := hv
  have hx := B.exec
  have hb := B.bytes
  have hr := B.returns
  have hts := atoms_spec (ws := wsX2_mixHeads) B.pre
  have hown : s.vm.findClass RX2 = some m.cls := findClass_of_methodNamed B.named
  have hlocks := B.notSynchronized
  have hS : va_S (fun _ => False) s.heap s.heap [] := va_S.rf
  have hG := hg htt
  have hl := lv_entry ([.ref (ad 0), .long h0]) (n := 8) (Nat.le_of_ble_eq_true rfl)
  rw [lg_entry_eq]
  generalize (lg_sl ([.ref (ad 0), .long h0]) ++ List.replicate (8 - (lg_sl ([.ref (ad 0), .long h0])).length) Slot.unset).toArray = ls at hl ⊢
  have hl : lv_has ls 8 [(0, .ref (ad 0)), (1, .long h0)] := hl
  refine lv_lload_n hx hb dX2_mixHeads_0 rfl (lv_at hl 1 rfl) ?_
  refine lv_lstore_n (lv' := [(3, .long h0), (0, .ref (ad 0)), (1, .long h0)]) hx hb dX2_mixHeads_1 rfl hl (by decide) rfl (fun ls hl => ?_)
  refine lv_iconst (v := nI 0) hx hb dX2_mixHeads_2 (by decide) ?_
  refine lv_istore (lv' := [(5, .int (nI 0)), (3, .long h0), (0, .ref (ad 0)), (1, .long h0)]) hx hb dX2_mixHeads_3 hl (by decide) rfl (fun ls hl => ?_)
  refine wLoopR (σ := Nat × Int64) (fun k x ls => k = 9 - x.1 ∧ (x.1 ≤ 9) ∧ (x.2 = hmH (nw u) x.1 h0) ∧ lv_has ls 8 [(5, .int (nI x.1)), (3, .long x.2), (0, .ref (ad 0))]) ?_ _ (0, h0) _ ⟨rfl, (Nat.zero_le _), rfl, lv_sub hl [0, 1, 2] rfl⟩
  intro ka x ls hI iha
  obtain ⟨j0, z⟩ := x
  obtain ⟨hka, hj0, hz, hl⟩ := hI
  have hka : ka = 9 - j0 := hka
  have hj0 : j0 ≤ 9 := hj0
  have hz : z = hmH (nw u) j0 h0 := hz
  have hl : lv_has ls 8 [(5, .int (nI j0)), (3, .long z), (0, .ref (ad 0))] := hl
  refine lv_iload hx hb dX2_mixHeads_5 (lv_at hl 0 rfl) ?_
  refine lv_bipush (v := nI 9) hx hb dX2_mixHeads_7 (by decide) ?_
  refine wn_icmp_ge (tgt := 54) hx hb dX2_mixHeads_9 (by decide) (by omega) (by omega) (fun c1 => ?_) (fun c1 => ?_)
  · refine lv_lload_n hx hb dX2_mixHeads_54 rfl (lv_at hl 1 rfl) ?_
    exact W.lret (v := z) hx hb hr (fun t ht hW => ⟨z, rfl, (by rw [hz, show j0 = 9 by omega]), ht⟩) (fun q hq => absurd hq List.not_mem_nil) dX2_mixHeads_55
  · refine lv_aload_n hx hb dX2_mixHeads_12 rfl (lv_at hl 2 rfl) ?_
    refine va_get (D := dd) (ci := 4) (v := .ref (ad 2)) (C := RX2) (T := TX2) (N := 7) hx hb hts (fun _ h9 => List.mem_cons_of_mem _ (List.mem_append_left _ (List.mem_append_left _ (List.mem_append_left _ (List.mem_append_right _ h9))))) hown hK hP (0) (wC_0 cy ad u X) rfl 3 (by decide) (hts (Cond.fieldLink RX2 27 "HeadGrid" "solution" "LHeadGrid$Solution;") (List.mem_of_getElem? (i := 1) rfl)) (fun _ h9 => h9) rfl dX2_mixHeads_13 ?_
    refine va_get (D := dd) (ci := 2) (v := .ref (ad 5)) (C := RX0) (T := TX0) (N := 4) hx hb hts (fun _ h9 => List.mem_cons_of_mem _ (List.mem_append_left _ (List.mem_append_left _ (List.mem_append_right _ h9)))) hown hK hP (2) (wC_2 cy ad u X) rfl 2 (by decide) (hts (Cond.fieldLink RX2 92 "HeadGrid$Solution" "scaledHeads" "[J") (List.mem_of_getElem? (i := 2) rfl)) (fun _ h9 => h9) rfl dX2_mixHeads_16 ?_
    refine lv_iload hx hb dX2_mixHeads_19 (lv_at hl 0 rfl) ?_
    refine wa_lald hx hb hK hP (wC_5 cy ad u X) (t0 := 1) rfl (i := j0) (by omega) (by decide) dX2_mixHeads_21 ?_
    refine lv_topl (fun x2 ex2 => ?_)
    refine lv_lstore (lv' := [(6, .long x2), (5, .int (nI j0)), (3, .long z), (0, .ref (ad 0))]) hx hb dX2_mixHeads_22 hl (by decide) rfl (fun ls hl => ?_)
    have hx9 : x2 = (cn (nw u)).2.2.1 9 j0 := by rw [ex2]; exact (hsl.2 htt).2 j0 (by omega)
    refine lv_lload_n hx hb dX2_mixHeads_24 rfl (lv_at hl 2 rfl) ?_
    refine lv_aload_n hx hb dX2_mixHeads_25 rfl (lv_at hl 3 rfl) ?_
    refine lv_lload hx hb dX2_mixHeads_26 (lv_at hl 0 rfl) ?_
    refine lv_iconst (v := nI 0) hx hb dX2_mixHeads_28 (by decide) ?_
    refine vp_callSl (va_runV (As := [.long x2, .int (nI 0)]) (rest := [.long z]) ⟨hx, hb, hml, hown, hts⟩ (c_X2_partOf l dd cy ad X tt u x2 0 (by omega) (by rw [hx9]; exact hG.2.2.1 j0 (by omega)) (den_l hrg htt hsl).1 (den_l hrg htt hsl).2.1 (den_l hrg htt hsl).2.2) (cwV 2 hts gX2_mixHeads_X2_partOf rfl rfl rfl hd_X2_partOf ⟨Nat.le_of_ble_eq_true rfl, Nat.le_of_ble_eq_true rfl⟩) (rdC_V hP hK hSt hS (wC_0 cy ad u X) rfl) rfl rfl hl.1 rfl (lv_room (Nat.le_of_ble_eq_true rfl)) dX2_mixHeads_29 ⟨Nat.le_of_ble_eq_true rfl, Nat.le_of_ble_eq_true rfl⟩).run (fun r3 hr3 => ?_)
    have hr3 : ptF (nw u) x2 (nI 0) = r3 := hr3.symm
    subst hr3
    refine vp_callSl (va_runS (As := [.long z, .long (ptF (nw u) x2 (nI 0))]) (rest := []) ⟨hx, hb, hml, hown, hts⟩ (c_X2_mix l z (ptF (nw u) x2 (nI 0))) (va_cwS 2 hts gX2_mixHeads_X2_mix rfl rfl rfl hd_X2_mix ⟨Nat.le_of_ble_eq_true rfl, Nat.le_of_ble_eq_true rfl⟩) ⟨fun a U g mk q => q, fun U hU hW => ⟨rfl, trivial⟩⟩ rfl rfl hl.1 rfl (lv_room (Nat.le_of_ble_eq_true rfl)) dX2_mixHeads_32 ⟨Nat.le_of_ble_eq_true rfl, Nat.le_of_ble_eq_true rfl⟩).run (fun r4 hr4 => ?_)
    have hr4 : r4 = (31 * z + (ptF (nw u) x2 (nI 0))) := hr4
    subst hr4
    refine lv_topl (fun x5 ex5 => ?_)
    refine lv_lstore_n (lv' := [(3, .long x5), (6, .long x2), (5, .int (nI j0)), (0, .ref (ad 0))]) hx hb dX2_mixHeads_35 rfl hl (by decide) rfl (fun ls hl => ?_)
    refine lv_lload_n hx hb dX2_mixHeads_36 rfl (lv_at hl 0 rfl) ?_
    refine lv_aload_n hx hb dX2_mixHeads_37 rfl (lv_at hl 3 rfl) ?_
    refine lv_lload hx hb dX2_mixHeads_38 (lv_at hl 1 rfl) ?_
    refine lv_iconst (v := nI 1) hx hb dX2_mixHeads_40 (by decide) ?_
    refine vp_callSl (va_runV (As := [.long x2, .int (nI 1)]) (rest := [.long x5]) ⟨hx, hb, hml, hown, hts⟩ (c_X2_partOf l dd cy ad X tt u x2 1 (by omega) (by rw [hx9]; exact hG.2.2.1 j0 (by omega)) (den_l hrg htt hsl).1 (den_l hrg htt hsl).2.1 (den_l hrg htt hsl).2.2) (cwV 2 hts gX2_mixHeads_X2_partOf rfl rfl rfl hd_X2_partOf ⟨Nat.le_of_ble_eq_true rfl, Nat.le_of_ble_eq_true rfl⟩) (rdC_V hP hK hSt hS (wC_0 cy ad u X) rfl) rfl rfl hl.1 rfl (lv_room (Nat.le_of_ble_eq_true rfl)) dX2_mixHeads_41 ⟨Nat.le_of_ble_eq_true rfl, Nat.le_of_ble_eq_true rfl⟩).run (fun r6 hr6 => ?_)
    have hr6 : ptF (nw u) x2 (nI 1) = r6 := hr6.symm
    subst hr6
    refine vp_callSl (va_runS (As := [.long x5, .long (ptF (nw u) x2 (nI 1))]) (rest := []) ⟨hx, hb, hml, hown, hts⟩ (c_X2_mix l x5 (ptF (nw u) x2 (nI 1))) (va_cwS 2 hts gX2_mixHeads_X2_mix rfl rfl rfl hd_X2_mix ⟨Nat.le_of_ble_eq_true rfl, Nat.le_of_ble_eq_true rfl⟩) ⟨fun a U g mk q => q, fun U hU hW => ⟨rfl, trivial⟩⟩ rfl rfl hl.1 rfl (lv_room (Nat.le_of_ble_eq_true rfl)) dX2_mixHeads_44 ⟨Nat.le_of_ble_eq_true rfl, Nat.le_of_ble_eq_true rfl⟩).run (fun r7 hr7 => ?_)
    have hr7 : r7 = (31 * x5 + (ptF (nw u) x2 (nI 1))) := hr7
    subst hr7
    refine lv_topl (fun x8 ex8 => ?_)
    refine lv_lstore_n (lv' := [(3, .long x8), (6, .long x2), (5, .int (nI j0)), (0, .ref (ad 0))]) hx hb dX2_mixHeads_47 rfl hl (by decide) rfl (fun ls hl => ?_)
    refine lv_iinc (v := (nI (j0 + 1))) (lv' := [(5, .int (nI (j0 + 1))), (3, .long x8), (6, .long x2), (0, .ref (ad 0))]) hx hb dX2_mixHeads_48 hl (k := 2) rfl (nI_1 _) (by decide) rfl (fun ls hl => ?_)
    refine lv_goto (tgt := 5) hx hb dX2_mixHeads_51 (by decide) ?_
    exact iha (9 - (j0 + 1)) (j0 + 1, x8) ls (by omega) ⟨rfl, (by show j0 + 1 ≤ 9; omega), (by rw [ex8, ex5, hz, hx9]; rfl), lv_sub hl [0, 1, 3] rfl⟩
theorem hd_X2_relaxedHeadOfEnd : yX2_relaxedHeadOfEnd.cls = RX2 ∧ yX2_relaxedHeadOfEnd.cls ≠ "java/lang/invoke/MethodHandle" ∧ yX2_relaxedHeadOfEnd.cls ≠ "java/lang/invoke/VarHandle" ∧ (parseMethodDescriptor yX2_relaxedHeadOfEnd.desc).map (fun d => d.parameters.length) = some 1 := by decide +kernel
set_option maxHeartbeats 4000000 in
set_option maxRecDepth 100000 in
/-- relaxedHeadOfEnd(end) -/
theorem c_X2_relaxedHeadOfEnd (l : Launch) (dd : va_G) (cy : Nat → ClassId) (ad : Nat → Nat) (X : va_W) (tt : Nat × Nat) (u : CS) (q0 : Nat) (hq0 : q0 < 21) : Met l yX2_relaxedHeadOfEnd wsX2_relaxedHeadOfEnd ({ frames := 0, cells := 0, slots := 0, locals := 0 }) (va_Pc [.ref (ad 0), .int (nI q0)] (rdC dd cy tt (wC cy ad u ++ X))) (vp_Sd (fun r => r = reD (nw u) (u.2.1 24) q0)) 0 0 (fun _ => False) := by
  refine Met.ofW (cc := cX2_relaxedHeadOfEnd) (maxL := 2) (ret := (some .double)) (by decide) rfl ?_
  intro p e s m args below meth c s₁ B hml hv
  obtain ⟨rfl, hP, hK, hSt⟩ := hv
  have hx := B.exec
  have hb := B.bytes
  have hr := B.returns
  have hts := atoms_spec (ws := wsX2_relaxedHeadOfEnd) B.pre
  have hown : s.vm.findClass RX2 = some m.cls := findClass_of_methodNamed B.named
  have hlocks := B.notSynchronized
  have hS : va_S (fun _ => False) s.heap s.heap [] := va_S.rf
  have hl := lv_entry ([.ref (ad 0), .int (nI q0)]) (n := 2) (Nat.le_of_ble_eq_true rfl)
  rw [lg_entry_eq]
  generalize (lg_sl ([.ref (ad 0), .int (nI q0)]) ++ List.replicate (2 - (lg_sl ([.ref (ad 0), .int (nI q0)])).length) Slot.unset).toArray = ls at hl ⊢
  have hl : lv_has ls 2 [(0, .ref (ad 0)), (1, .int (nI q0))] := hl
  refine lv_iload_n hx hb dX2_relaxedHeadOfEnd_0 rfl (lv_at hl 1 rfl) ?_
  refine lv_bipush (v := nI 9) hx hb dX2_relaxedHeadOfEnd_1 (by decide) ?_
  refine wn_icmp_ge (tgt := 18) hx hb dX2_relaxedHeadOfEnd_3 (by decide) (by omega) (by omega) (fun cQ => ?_) (fun cQ => ?_)
  · refine lv_aload_n hx hb dX2_relaxedHeadOfEnd_18 rfl (lv_at hl 0 rfl) ?_
    refine va_get (D := dd) (ci := 4) (v := .ref (ad 17)) (C := RX2) (T := TX2) (N := 7) hx hb hts (fun _ h9 => List.mem_cons_of_mem _ (List.mem_append_left _ (List.mem_append_left _ (List.mem_append_right _ h9)))) hown hK hP (0) (wC_0 cy ad u X) rfl 0 (by decide) (hts (Cond.fieldLink RX2 10 "HeadGrid" "now" "LHeadGrid$State;") (List.mem_of_getElem? (i := 1) rfl)) (fun _ h9 => h9) rfl dX2_relaxedHeadOfEnd_19 ?_
    refine va_get (D := dd) (ci := 3) (v := .ref (ad 19)) (C := RX1) (T := TX1) (N := 7) hx hb hts (fun _ h9 => List.mem_cons_of_mem _ (List.mem_append_left _ (List.mem_append_right _ h9))) hown hK hP (17) (wC_now cy ad u X) rfl 1 (by decide) (hts (Cond.fieldLink RX2 64 "HeadGrid$State" "edgeHeads" "[I") (List.mem_of_getElem? (i := 3) rfl)) (fun _ h9 => h9) rfl dX2_relaxedHeadOfEnd_22 ?_
    refine lv_iload_n hx hb dX2_relaxedHeadOfEnd_25 rfl (lv_at hl 1 rfl) ?_
    refine lv_bipush (v := nI 9) hx hb dX2_relaxedHeadOfEnd_26 (by decide) ?_
    refine wn_isub hx hb dX2_relaxedHeadOfEnd_28 (by omega) ?_
    refine wa_iald hx hb hK hP (wC_n1 cy ad u X) (t0 := 0) rfl (i := q0 - 9) (by omega) (by decide) dX2_relaxedHeadOfEnd_29 ?_
    refine lv_i2d hx hb dX2_relaxedHeadOfEnd_30 ?_
    exact W.dret (v := (FP.i2d (u.1 19 (q0 - 9)))) hx hb hr (fun t ht hW => ⟨(FP.i2d (u.1 19 (q0 - 9))), rfl, (by unfold reD; rw [if_neg (by omega), show 24 + q0 - 9 = 24 + (q0 - 9) by omega, nw_1 u (by omega)]), ht⟩) (fun q hq => absurd hq List.not_mem_nil) dX2_relaxedHeadOfEnd_31
  · refine lv_aload_n hx hb dX2_relaxedHeadOfEnd_6 rfl (lv_at hl 0 rfl) ?_
    refine va_get (D := dd) (ci := 4) (v := .ref (ad 17)) (C := RX2) (T := TX2) (N := 7) hx hb hts (fun _ h9 => List.mem_cons_of_mem _ (List.mem_append_left _ (List.mem_append_left _ (List.mem_append_right _ h9)))) hown hK hP (0) (wC_0 cy ad u X) rfl 0 (by decide) (hts (Cond.fieldLink RX2 10 "HeadGrid" "now" "LHeadGrid$State;") (List.mem_of_getElem? (i := 1) rfl)) (fun _ h9 => h9) rfl dX2_relaxedHeadOfEnd_7 ?_
    refine va_get (D := dd) (ci := 3) (v := .ref (ad 24)) (C := RX1) (T := TX1) (N := 7) hx hb hts (fun _ h9 => List.mem_cons_of_mem _ (List.mem_append_left _ (List.mem_append_right _ h9))) hown hK hP (17) (wC_now cy ad u X) rfl 6 (by decide) (hts (Cond.fieldLink RX2 135 "HeadGrid$State" "relaxedHeads" "[D") (List.mem_of_getElem? (i := 2) rfl)) (fun _ h9 => h9) rfl dX2_relaxedHeadOfEnd_10 ?_
    refine lv_iload_n hx hb dX2_relaxedHeadOfEnd_13 rfl (lv_at hl 1 rfl) ?_
    refine wa_dald hx hb hK hP (wC_n6 cy ad u X) (t0 := 2) rfl (i := q0) (by omega) (by decide) dX2_relaxedHeadOfEnd_14 ?_
    refine lv_goto (tgt := 31) hx hb dX2_relaxedHeadOfEnd_15 (by decide) ?_
    exact W.dret (v := u.2.1 24 q0) hx hb hr (fun t ht hW => ⟨u.2.1 24 q0, rfl, (by unfold reD; rw [if_pos (by omega)]), ht⟩) (fun q hq => absurd hq List.not_mem_nil) dX2_relaxedHeadOfEnd_31
theorem hd_X2_sweptHead : yX2_sweptHead.cls = RX2 ∧ yX2_sweptHead.cls ≠ "java/lang/invoke/MethodHandle" ∧ yX2_sweptHead.cls ≠ "java/lang/invoke/VarHandle" ∧ (parseMethodDescriptor yX2_sweptHead.desc).map (fun d => d.parameters.length) = some 1 := by decide +kernel
set_option maxHeartbeats 4000000 in
set_option maxRecDepth 100000 in
/-- sweptHead(cell) -/
theorem c_X2_sweptHead (l : Launch) (dd : va_G) (cy : Nat → ClassId) (ad : Nat → Nat) (X : va_W) (tt : Nat × Nat) (u : CS) (c0 : Nat) (hc0 : c0 < 9) (hrg : rgM (nw u)) (bb : Nat) (hB : ∀ j, j < 9 → dB bb (u.2.1 24 j)) (hB0 : 1000 ≤ bb) (hB1 : bb ≤ 2 ^ 40) : Met l yX2_sweptHead wsX2_sweptHead ({ frames := 1, cells := 0, slots := 0, locals := 23 }) (va_Pc [.ref (ad 0), .int (nI c0)] (rdC dd cy tt (wC cy ad u ++ X))) (vp_Sd (fun r => r = rvD (nw u) (u.2.1 24) c0)) 0 0 (fun _ => False) := by
  refine Met.ofW (cc := cX2_sweptHead) (maxL := 8) (ret := (some .double)) (by decide) rfl ?_
  intro p e s m args below meth c s₁ B hml hv
  obtain ⟨rfl, hP, hK, hSt⟩ := hv
  have hx := B.exec
  have hb := B.bytes
  have hr := B.returns
  have hts := atoms_spec (ws := wsX2_sweptHead) B.pre
  have hown : s.vm.findClass RX2 = some m.cls := findClass_of_methodNamed B.named
  have hlocks := B.notSynchronized
  have hS : va_S (fun _ => False) s.heap s.heap [] := va_S.rf
  have hl := lv_entry ([.ref (ad 0), .int (nI c0)]) (n := 8) (Nat.le_of_ble_eq_true rfl)
  rw [lg_entry_eq]
  generalize (lg_sl ([.ref (ad 0), .int (nI c0)]) ++ List.replicate (8 - (lg_sl ([.ref (ad 0), .int (nI c0)])).length) Slot.unset).toArray = ls at hl ⊢
  have hl : lv_has ls 8 [(0, .ref (ad 0)), (1, .int (nI c0))] := hl
  refine lv_dconst0 hx hb dX2_sweptHead_0 ?_
  refine lv_dstore_n (lv' := [(2, .double FP.dconst0), (0, .ref (ad 0)), (1, .int (nI c0))]) hx hb dX2_sweptHead_1 rfl hl (by decide) rfl (fun ls hl => ?_)
  refine lv_iconst (v := nI 0) hx hb dX2_sweptHead_2 (by decide) ?_
  refine lv_istore (lv' := [(4, .int (nI 0)), (2, .double FP.dconst0), (0, .ref (ad 0)), (1, .int (nI c0))]) hx hb dX2_sweptHead_3 hl (by decide) rfl (fun ls hl => ?_)
  refine lv_iconst (v := nI 0) hx hb dX2_sweptHead_5 (by decide) ?_
  refine lv_istore (lv' := [(5, .int (nI 0)), (4, .int (nI 0)), (2, .double FP.dconst0), (0, .ref (ad 0)), (1, .int (nI c0))]) hx hb dX2_sweptHead_6 hl (by decide) rfl (fun ls hl => ?_)
  refine wLoopR (σ := Nat × UInt64 × Int32) (fun k x ls => k = 4 - x.1 ∧ (x.1 ≤ 4) ∧ (x.2.1 = rsD (nw u) (u.2.1 24) c0 x.1) ∧ (x.2.2 = rcI (nw u) c0 x.1) ∧ lv_has ls 8 [(5, .int (nI x.1)), (4, .int x.2.2), (2, .double x.2.1), (1, .int (nI c0)), (0, .ref (ad 0))]) ?_ _ (0, FP.dconst0, nI 0) _ ⟨rfl, (Nat.zero_le _), rfl, rfl, lv_sub hl [0, 1, 2, 4, 3] rfl⟩
  intro ka x ls hI iha
  obtain ⟨s0, z, t0⟩ := x
  obtain ⟨hka, hs0, hz, ht0, hl⟩ := hI
  have hka : ka = 4 - s0 := hka
  have hs0 : s0 ≤ 4 := hs0
  have hz : z = rsD (nw u) (u.2.1 24) c0 s0 := hz
  have ht0 : t0 = rcI (nw u) c0 s0 := ht0
  have hl : lv_has ls 8 [(5, .int (nI s0)), (4, .int t0), (2, .double z), (1, .int (nI c0)), (0, .ref (ad 0))] := hl
  refine lv_iload hx hb dX2_sweptHead_8 (lv_at hl 0 rfl) ?_
  refine lv_iconst (v := nI 4) hx hb dX2_sweptHead_10 (by decide) ?_
  refine wn_icmp_ge (tgt := 64) hx hb dX2_sweptHead_11 (by decide) (by omega) (by omega) (fun c1 => ?_) (fun c1 => ?_)
  · refine lv_iload hx hb dX2_sweptHead_64 (lv_at hl 1 rfl) ?_
    refine lv_if_ne (tgt := 79) hx hb dX2_sweptHead_66 (by decide) (fun cA => ?_) (fun cA => ?_)
    · refine lv_dload_n hx hb dX2_sweptHead_79 rfl (lv_at hl 2 rfl) ?_
      refine lv_aload_n hx hb dX2_sweptHead_80 rfl (lv_at hl 4 rfl) ?_
      refine va_get (D := dd) (ci := 4) (v := .ref (ad 17)) (C := RX2) (T := TX2) (N := 7) hx hb hts (fun _ h9 => List.mem_cons_of_mem _ (List.mem_append_left _ (List.mem_append_left _ (List.mem_append_right _ h9)))) hown hK hP (0) (wC_0 cy ad u X) rfl 0 (by decide) (hts (Cond.fieldLink RX2 10 "HeadGrid" "now" "LHeadGrid$State;") (List.mem_of_getElem? (i := 1) rfl)) (fun _ h9 => h9) rfl dX2_sweptHead_81 ?_
      refine va_get (D := dd) (ci := 3) (v := .ref (ad 20)) (C := RX1) (T := TX1) (N := 7) hx hb hts (fun _ h9 => List.mem_cons_of_mem _ (List.mem_append_left _ (List.mem_append_right _ h9))) hown hK hP (17) (wC_now cy ad u X) rfl 2 (by decide) (hts (Cond.fieldLink RX2 70 "HeadGrid$State" "recharges" "[I") (List.mem_of_getElem? (i := 4) rfl)) (fun _ h9 => h9) rfl dX2_sweptHead_84 ?_
      refine lv_iload_n hx hb dX2_sweptHead_87 rfl (lv_at hl 3 rfl) ?_
      refine wa_iald hx hb hK hP (wC_n2 cy ad u X) (t0 := 0) rfl (i := c0) (by omega) (by decide) dX2_sweptHead_88 ?_
      refine lv_aload_n hx hb dX2_sweptHead_89 rfl (lv_at hl 4 rfl) ?_
      refine va_get (D := dd) (ci := 4) (v := .ref (ad 17)) (C := RX2) (T := TX2) (N := 7) hx hb hts (fun _ h9 => List.mem_cons_of_mem _ (List.mem_append_left _ (List.mem_append_left _ (List.mem_append_right _ h9)))) hown hK hP (0) (wC_0 cy ad u X) rfl 0 (by decide) (hts (Cond.fieldLink RX2 10 "HeadGrid" "now" "LHeadGrid$State;") (List.mem_of_getElem? (i := 1) rfl)) (fun _ h9 => h9) rfl dX2_sweptHead_90 ?_
      refine va_get (D := dd) (ci := 3) (v := .ref (ad 21)) (C := RX1) (T := TX1) (N := 7) hx hb hts (fun _ h9 => List.mem_cons_of_mem _ (List.mem_append_left _ (List.mem_append_right _ h9))) hown hK hP (17) (wC_now cy ad u X) rfl 3 (by decide) (hts (Cond.fieldLink RX2 73 "HeadGrid$State" "rates" "[I") (List.mem_of_getElem? (i := 5) rfl)) (fun _ h9 => h9) rfl dX2_sweptHead_93 ?_
      refine lv_iload_n hx hb dX2_sweptHead_96 rfl (lv_at hl 3 rfl) ?_
      refine wa_iald hx hb hK hP (wC_n3 cy ad u X) (t0 := 0) rfl (i := c0) (by omega) (by decide) dX2_sweptHead_97 ?_
      refine lv_isub hx hb dX2_sweptHead_98 ?_
      refine lv_i2d hx hb dX2_sweptHead_99 ?_
      refine lv_dadd hx hb dX2_sweptHead_100 (n64_fin (by rw [hz, show s0 = 4 by omega, ← nw_2 u hc0, ← nw_3 u hc0]; exact (ds_B hrg hB hB0 hB1 hc0).1)) ?_
      refine lv_iload hx hb dX2_sweptHead_101 (lv_at hl 1 rfl) ?_
      refine lv_i2d hx hb dX2_sweptHead_103 ?_
      refine lv_ddiv hx hb dX2_sweptHead_104 (n64_fin (by rw [hz, ht0, show s0 = 4 by omega, ← nw_2 u hc0, ← nw_3 u hc0]; exact (dv_B hrg hB hB0 hB1 hc0 (by rw [← show s0 = 4 by omega, ← ht0]; exact cA)).1)) ?_
      exact W.dret (v := (FP.ddiv (FP.dadd z (FP.i2d (u.1 20 c0 - u.1 21 c0))) (FP.i2d t0))) hx hb hr (fun t ht hW => ⟨(FP.ddiv (FP.dadd z (FP.i2d (u.1 20 c0 - u.1 21 c0))) (FP.i2d t0)), rfl, (by unfold rvD; rw [if_neg (by rw [← show s0 = 4 by omega, ← ht0]; exact cA), hz, ht0, show s0 = 4 by omega, nw_2 u (by omega), nw_3 u (by omega)]), ht⟩) (fun q hq => absurd hq List.not_mem_nil) dX2_sweptHead_105
    · refine lv_aload_n hx hb dX2_sweptHead_69 rfl (lv_at hl 4 rfl) ?_
      refine va_get (D := dd) (ci := 4) (v := .ref (ad 17)) (C := RX2) (T := TX2) (N := 7) hx hb hts (fun _ h9 => List.mem_cons_of_mem _ (List.mem_append_left _ (List.mem_append_left _ (List.mem_append_right _ h9)))) hown hK hP (0) (wC_0 cy ad u X) rfl 0 (by decide) (hts (Cond.fieldLink RX2 10 "HeadGrid" "now" "LHeadGrid$State;") (List.mem_of_getElem? (i := 1) rfl)) (fun _ h9 => h9) rfl dX2_sweptHead_70 ?_
      refine va_get (D := dd) (ci := 3) (v := .ref (ad 24)) (C := RX1) (T := TX1) (N := 7) hx hb hts (fun _ h9 => List.mem_cons_of_mem _ (List.mem_append_left _ (List.mem_append_right _ h9))) hown hK hP (17) (wC_now cy ad u X) rfl 6 (by decide) (hts (Cond.fieldLink RX2 135 "HeadGrid$State" "relaxedHeads" "[D") (List.mem_of_getElem? (i := 3) rfl)) (fun _ h9 => h9) rfl dX2_sweptHead_73 ?_
      refine lv_iload_n hx hb dX2_sweptHead_76 rfl (lv_at hl 3 rfl) ?_
      refine wa_dald hx hb hK hP (wC_n6 cy ad u X) (t0 := 2) rfl (i := c0) (by omega) (by decide) dX2_sweptHead_77 ?_
      exact W.dret (v := u.2.1 24 c0) hx hb hr (fun t ht hW => ⟨u.2.1 24 c0, rfl, (by unfold rvD; rw [if_pos (by rw [← show s0 = 4 by omega, ← ht0]; exact cA)]), ht⟩) (fun q hq => absurd hq List.not_mem_nil) dX2_sweptHead_78
  · refine lv_iload_n hx hb dX2_sweptHead_14 rfl (lv_at hl 3 rfl) ?_
    refine lv_iload hx hb dX2_sweptHead_15 (lv_at hl 0 rfl) ?_
    refine vp_callSi (va_runS (As := [.int (nI c0), .int (nI s0)]) (rest := []) ⟨hx, hb, hml, hown, hts⟩ (c_X2_linkOf l c0 s0 (by omega) (by omega)) (va_cwS 2 hts gX2_sweptHead_X2_linkOf rfl rfl rfl hd_X2_linkOf ⟨Nat.le_of_ble_eq_true rfl, Nat.le_of_ble_eq_true rfl⟩) ⟨fun a U g mk q => q, fun U hU hW => ⟨rfl, trivial⟩⟩ rfl rfl hl.1 rfl (lv_room (Nat.le_of_ble_eq_true rfl)) dX2_sweptHead_17 ⟨Nat.le_of_ble_eq_true rfl, Nat.le_of_ble_eq_true rfl⟩).run (fun r2 hr2 => ?_)
    have hr2 : r2 = (nI (lk c0 s0)) := hr2
    subst hr2
    refine lv_istore (lv' := [(6, .int (nI (lk c0 s0))), (5, .int (nI s0)), (4, .int t0), (2, .double z), (1, .int (nI c0)), (0, .ref (ad 0))]) hx hb dX2_sweptHead_20 hl (by decide) rfl (fun ls hl => ?_)
    refine lv_aload_n hx hb dX2_sweptHead_22 rfl (lv_at hl 5 rfl) ?_
    refine va_get (D := dd) (ci := 4) (v := .ref (ad 17)) (C := RX2) (T := TX2) (N := 7) hx hb hts (fun _ h9 => List.mem_cons_of_mem _ (List.mem_append_left _ (List.mem_append_left _ (List.mem_append_right _ h9)))) hown hK hP (0) (wC_0 cy ad u X) rfl 0 (by decide) (hts (Cond.fieldLink RX2 10 "HeadGrid" "now" "LHeadGrid$State;") (List.mem_of_getElem? (i := 1) rfl)) (fun _ h9 => h9) rfl dX2_sweptHead_23 ?_
    refine va_get (D := dd) (ci := 3) (v := .ref (ad 18)) (C := RX1) (T := TX1) (N := 7) hx hb hts (fun _ h9 => List.mem_cons_of_mem _ (List.mem_append_left _ (List.mem_append_right _ h9))) hown hK hP (17) (wC_now cy ad u X) rfl 0 (by decide) (hts (Cond.fieldLink RX2 53 "HeadGrid$State" "conductances" "[I") (List.mem_of_getElem? (i := 2) rfl)) (fun _ h9 => h9) rfl dX2_sweptHead_26 ?_
    refine lv_iload hx hb dX2_sweptHead_29 (lv_at hl 0 rfl) ?_
    refine wa_iald hx hb hK hP (wC_n0 cy ad u X) (t0 := 0) rfl (i := lk c0 s0) (lk_lt hc0 (by omega)) (by decide) dX2_sweptHead_31 ?_
    refine lv_topi (fun x3 ex3 => ?_)
    refine lv_istore (lv' := [(7, .int x3), (6, .int (nI (lk c0 s0))), (5, .int (nI s0)), (4, .int t0), (2, .double z), (1, .int (nI c0)), (0, .ref (ad 0))]) hx hb dX2_sweptHead_32 hl (by decide) rfl (fun ls hl => ?_)
    have hlk := lk_lt hc0 (show s0 < 4 by omega)
    have hc9 : x3 = nw u (lk c0 s0) := by rw [ex3, nw_0 u hlk]
    refine lv_dload_n hx hb dX2_sweptHead_34 rfl (lv_at hl 4 rfl) ?_
    refine lv_iload hx hb dX2_sweptHead_35 (lv_at hl 0 rfl) ?_
    refine lv_i2d hx hb dX2_sweptHead_37 ?_
    refine lv_aload_n hx hb dX2_sweptHead_38 rfl (lv_at hl 6 rfl) ?_
    refine lv_iload hx hb dX2_sweptHead_39 (lv_at hl 1 rfl) ?_
    refine lv_iload_n hx hb dX2_sweptHead_41 rfl (lv_at hl 5 rfl) ?_
    refine vp_callSi (va_runS (As := [.int (nI (lk c0 s0)), .int (nI c0)]) (rest := [.ref (ad 0), .double (FP.i2d x3), .double z]) ⟨hx, hb, hml, hown, hts⟩ (c_X2_otherEnd l tt (lk c0 s0) c0 (lk_lt (by omega) (by omega)) (by omega)) (va_cwS 2 hts gX2_sweptHead_X2_otherEnd rfl rfl rfl hd_X2_otherEnd ⟨Nat.le_of_ble_eq_true rfl, Nat.le_of_ble_eq_true rfl⟩) (rdS_S hSt hS) rfl rfl hl.1 rfl (lv_room (Nat.le_of_ble_eq_true rfl)) dX2_sweptHead_42 ⟨Nat.le_of_ble_eq_true rfl, Nat.le_of_ble_eq_true rfl⟩).run (fun r4 hr4 => ?_)
    have hr4 : nI (ot c0 s0) = r4 := by rw [hr4, oe_ot _ (by omega) _ (by omega)]
    subst hr4
    refine vp_callSd (va_runV (As := [.int (nI (ot c0 s0))]) (rest := [.double (FP.i2d x3), .double z]) ⟨hx, hb, hml, hown, hts⟩ (c_X2_relaxedHeadOfEnd l dd cy ad X tt u (ot c0 s0) (ot_lt (by omega) (by omega))) (cwV 1 hts gX2_sweptHead_X2_relaxedHeadOfEnd rfl rfl rfl hd_X2_relaxedHeadOfEnd ⟨Nat.le_of_ble_eq_true rfl, Nat.le_of_ble_eq_true rfl⟩) (rdC_V hP hK hSt hS (wC_0 cy ad u X) rfl) rfl rfl hl.1 rfl (lv_room (Nat.le_of_ble_eq_true rfl)) dX2_sweptHead_45 ⟨Nat.le_of_ble_eq_true rfl, Nat.le_of_ble_eq_true rfl⟩).run (fun r5 hr5 => ?_)
    have hr5 : (reD (nw u) (u.2.1 24) (ot c0 s0)) = r5 := hr5.symm
    subst hr5
    refine lv_dmul hx hb dX2_sweptHead_48 (n64_fin (by rw [hc9]; exact (mu_B hrg hB hB0 hB1 hc0 (by omega)).1)) ?_
    refine lv_dadd hx hb dX2_sweptHead_49 (n64_fin (by rw [hc9, hz]; exact (rsD_B hrg hB hB0 hB1 hc0 (s0 + 1) (by omega)).1)) ?_
    refine lv_topd (fun x6 ex6 => ?_)
    refine lv_dstore_n (lv' := [(2, .double x6), (7, .int x3), (6, .int (nI (lk c0 s0))), (5, .int (nI s0)), (4, .int t0), (1, .int (nI c0)), (0, .ref (ad 0))]) hx hb dX2_sweptHead_50 rfl hl (by decide) rfl (fun ls hl => ?_)
    refine lv_iload hx hb dX2_sweptHead_51 (lv_at hl 4 rfl) ?_
    refine lv_iload hx hb dX2_sweptHead_53 (lv_at hl 1 rfl) ?_
    refine lv_iadd hx hb dX2_sweptHead_55 ?_
    refine lv_topi (fun x7 ex7 => ?_)
    refine lv_istore (lv' := [(4, .int x7), (2, .double x6), (7, .int x3), (6, .int (nI (lk c0 s0))), (5, .int (nI s0)), (1, .int (nI c0)), (0, .ref (ad 0))]) hx hb dX2_sweptHead_56 hl (by decide) rfl (fun ls hl => ?_)
    refine lv_iinc (v := (nI (s0 + 1))) (lv' := [(5, .int (nI (s0 + 1))), (4, .int x7), (2, .double x6), (7, .int x3), (6, .int (nI (lk c0 s0))), (1, .int (nI c0)), (0, .ref (ad 0))]) hx hb dX2_sweptHead_58 hl (k := 4) rfl (nI_1 _) (by decide) rfl (fun ls hl => ?_)
    refine lv_goto (tgt := 8) hx hb dX2_sweptHead_61 (by decide) ?_
    exact iha (4 - (s0 + 1)) (s0 + 1, x6, x7) ls (by omega) ⟨rfl, (by show s0 + 1 ≤ 4; omega), (by rw [ex6, hc9, hz]; rfl), (by rw [ex7, hc9, ht0]; rfl), lv_sub hl [0, 1, 2, 5, 6] rfl⟩
theorem hd_X2_sweepOnce : yX2_sweepOnce.cls = RX2 ∧ yX2_sweepOnce.cls ≠ "java/lang/invoke/MethodHandle" ∧ yX2_sweepOnce.cls ≠ "java/lang/invoke/VarHandle" ∧ (parseMethodDescriptor yX2_sweepOnce.desc).map (fun d => d.parameters.length) = some 0 := by decide +kernel
set_option maxHeartbeats 4000000 in
set_option maxRecDepth 100000 in
/-- sweepOnce() -/
theorem c_X2_sweepOnce (l : Launch) (dd : va_G) (cy : Nat → ClassId) (ad : Nat → Nat) (X : va_W) (tt : Nat × Nat) (u : CS) (sz : Nat) (hrg : rgM (nw u)) (bb : Nat) (hB : ∀ j, j < 9 → dB bb (u.2.1 24 j)) (hB0 : 1000 ≤ bb) (hB1 : bb + 9000 ≤ 2 ^ 40) : Met l yX2_sweepOnce wsX2_sweepOnce ({ frames := 2, cells := 0, slots := 0, locals := 50 }) (va_Pc [.ref (ad 0)] (wrC dd cy tt (wC cy ad u ++ X) sz)) (va_Qd (fun r u9 => r = (rxS (nw u) (u.2.1 24) 9).2 ∧ u9.2.1 24 = (rxS (nw u) (u.2.1 24) 9).1 ∧ (∀ k, k ≠ 24 → u9.2.1 k = u.2.1 k) ∧ u9.1 = u.1 ∧ u9.2.2 = u.2.2) (wB dd cy (fun u9 : CS => wC cy ad u9 ++ X) (va_A (wC cy ad u ++ X) sz)) (va_A (wC cy ad u ++ X) sz)) 0 0 (va_A (wC cy ad u ++ X) sz) := by
  refine Met.ofW (cc := cX2_sweepOnce) (maxL := 10) (ret := (some .double)) (by decide) rfl ?_
  intro p e s m args below meth c s₁ B hml hv
  obtain ⟨rfl, hsz, hP, hK, hD0, hSt⟩ := hv
  have hx := B.exec
  have hb := B.bytes
  have hr := B.returns
  have hts := atoms_spec (ws := wsX2_sweepOnce) B.pre
  have hown : s.vm.findClass RX2 = some m.cls := findClass_of_methodNamed B.named
  have hlocks := B.notSynchronized
  subst hsz
  have hD := hD0.self (sz := s.heap.size)
  generalize hAe : va_A (wC cy ad u ++ X) s.heap.size = A at hD hSt ⊢
  have hA : ∀ q : Nat, s.heap.size ≤ q → A q := fun q h => by rw [← hAe]; exact Or.inr h
  have hS : va_S A s.heap s.heap [] := va_S.rf
  have hl := lv_entry ([.ref (ad 0)]) (n := 10) (Nat.le_of_ble_eq_true rfl)
  rw [lg_entry_eq]
  generalize (lg_sl ([.ref (ad 0)]) ++ List.replicate (10 - (lg_sl ([.ref (ad 0)])).length) Slot.unset).toArray = ls at hl ⊢
  have hl : lv_has ls 10 [(0, .ref (ad 0))] := hl
  refine lv_dconst0 hx hb dX2_sweepOnce_0 ?_
  refine lv_dstore_n (lv' := [(1, .double FP.dconst0), (0, .ref (ad 0))]) hx hb dX2_sweepOnce_1 rfl hl (by decide) rfl (fun ls hl => ?_)
  refine lv_iconst (v := nI 0) hx hb dX2_sweepOnce_2 (by decide) ?_
  refine lv_istore_n (lv' := [(3, .int (nI 0)), (1, .double FP.dconst0), (0, .ref (ad 0))]) hx hb dX2_sweepOnce_3 rfl hl (by decide) rfl (fun ls hl => ?_)
  refine wLoop (σ := Nat × UInt64 × CS) (fun k x H locs ls => k = 9 - x.1 ∧ (x.1 ≤ 9) ∧ (x.2.2.1 = u.1) ∧ (x.2.2.2.2 = u.2.2) ∧ (∀ k9, k9 ≠ 24 → x.2.2.2.1 k9 = u.2.1 k9) ∧ (x.2.2.2.1 24 = (rxS (nw u) (u.2.1 24) x.1).1) ∧ (x.2.1 = (rxS (nw u) (u.2.1 24) x.1).2) ∧ va_P dd vwCl (wC cy ad x.2.2 ++ X) H ∧ va_D A (wC cy ad x.2.2 ++ X) ∧ va_S A s.heap H locs ∧ lv_has ls 10 [(3, .int (nI x.1)), (1, .double x.2.1), (0, .ref (ad 0))]) ?_ _ (0, FP.dconst0, u) _ _ _ ⟨rfl, (Nat.zero_le _), rfl, rfl, (fun _ _ => rfl), rfl, rfl, hP, hD, hS, lv_sub hl [0, 1, 2] rfl⟩
  intro ka x H locs ls hI iha
  obtain ⟨c0, z, u1⟩ := x
  obtain ⟨hka, hc0, hF1, hF2, hFo, hR, hz, hP, hD, hS, hl⟩ := hI
  have hka : ka = 9 - c0 := hka
  have hc0 : c0 ≤ 9 := hc0
  have hF1 : u1.1 = u.1 := hF1
  have hF2 : u1.2.2 = u.2.2 := hF2
  have hFo : ∀ k9, k9 ≠ 24 → u1.2.1 k9 = u.2.1 k9 := hFo
  have hR : u1.2.1 24 = (rxS (nw u) (u.2.1 24) c0).1 := hR
  have hz : z = (rxS (nw u) (u.2.1 24) c0).2 := hz
  have hP : va_P dd vwCl (wC cy ad u1 ++ X) H := hP
  have hD : va_D A (wC cy ad u1 ++ X) := hD
  have hl : lv_has ls 10 [(3, .int (nI c0)), (1, .double z), (0, .ref (ad 0))] := hl
  refine lv_iload_n hx hb dX2_sweepOnce_4 rfl (lv_at hl 0 rfl) ?_
  refine lv_bipush (v := nI 9) hx hb dX2_sweepOnce_5 (by decide) ?_
  refine wn_icmp_ge (tgt := 68) hx hb dX2_sweepOnce_7 (by decide) (by omega) (by omega) (fun c1 => ?_) (fun c1 => ?_)
  · refine lv_dload_n hx hb dX2_sweepOnce_68 rfl (lv_at hl 1 rfl) ?_
    exact W.dret (v := z) hx hb hr (fun t ht hW => ⟨⟨z, u1, rfl, (by rw [← show c0 = 9 by omega]; exact ⟨hz, hR, hFo, hF1, hF2⟩), by rw [ht]; exact hP, va_K.moved hW.alike hK, hD⟩, hS.F ht⟩) hS.2.2 dX2_sweepOnce_69
  · refine lv_aload_n hx hb dX2_sweepOnce_10 rfl (lv_at hl 2 rfl) ?_
    refine va_get (D := dd) (ci := 4) (v := .ref (ad 17)) (C := RX2) (T := TX2) (N := 7) hx hb hts (fun _ h9 => List.mem_cons_of_mem _ (List.mem_append_left _ (List.mem_append_left _ (List.mem_append_right _ h9)))) hown hK hP (0) (wC_0 cy ad u1 X) rfl 0 (by decide) (hts (Cond.fieldLink RX2 10 "HeadGrid" "now" "LHeadGrid$State;") (List.mem_of_getElem? (i := 1) rfl)) (fun _ h9 => h9) rfl dX2_sweepOnce_11 ?_
    refine va_get (D := dd) (ci := 3) (v := .ref (ad 24)) (C := RX1) (T := TX1) (N := 7) hx hb hts (fun _ h9 => List.mem_cons_of_mem _ (List.mem_append_left _ (List.mem_append_right _ h9))) hown hK hP (17) (wC_now cy ad u1 X) rfl 6 (by decide) (hts (Cond.fieldLink RX2 135 "HeadGrid$State" "relaxedHeads" "[D") (List.mem_of_getElem? (i := 2) rfl)) (fun _ h9 => h9) rfl dX2_sweepOnce_14 ?_
    refine lv_iload_n hx hb dX2_sweepOnce_17 rfl (lv_at hl 0 rfl) ?_
    refine wa_dald hx hb hK hP (wC_n6 cy ad u1 X) (t0 := 2) rfl (i := c0) (by omega) (by decide) dX2_sweepOnce_18 ?_
    refine lv_topd (fun x2 ex2 => ?_)
    refine lv_dstore (lv' := [(4, .double x2), (3, .int (nI c0)), (1, .double z), (0, .ref (ad 0))]) hx hb dX2_sweepOnce_19 hl (by decide) rfl (fun ls hl => ?_)
    refine lv_aload_n hx hb dX2_sweepOnce_21 rfl (lv_at hl 3 rfl) ?_
    refine lv_iload_n hx hb dX2_sweepOnce_22 rfl (lv_at hl 1 rfl) ?_
    refine vp_callSd (va_runV (As := [.int (nI c0)]) (rest := []) ⟨hx, hb, hml, hown, hts⟩ (c_X2_sweptHead l dd cy ad X tt u1 c0 (by omega) (by rw [nw_congr hF1]; exact hrg) _ (fun j9 hj9 => by rw [hR]; exact (rxS_B hrg hB hB0 hB1 c0 (by omega)).1 j9 hj9) (by omega) (by omega)) (cwV 1 hts gX2_sweepOnce_X2_sweptHead rfl rfl rfl hd_X2_sweptHead ⟨Nat.le_of_ble_eq_true rfl, Nat.le_of_ble_eq_true rfl⟩) (rdC_V hP hK hSt hS (wC_0 cy ad u1 X) rfl) rfl rfl hl.1 rfl (lv_room (Nat.le_of_ble_eq_true rfl)) dX2_sweepOnce_23 ⟨Nat.le_of_ble_eq_true rfl, Nat.le_of_ble_eq_true rfl⟩).run (fun r3 hr3 => ?_)
    have hr3 : (rvD (nw u1) (u1.2.1 24) c0) = r3 := hr3.symm
    subst hr3
    refine lv_topd (fun x4 ex4 => ?_)
    refine lv_dstore (lv' := [(6, .double x4), (4, .double x2), (3, .int (nI c0)), (1, .double z), (0, .ref (ad 0))]) hx hb dX2_sweepOnce_26 hl (by decide) rfl (fun ls hl => ?_)
    have ha9 : x4 = rvD (nw u) (rxS (nw u) (u.2.1 24) c0).1 c0 := by rw [ex4, nw_congr hF1, hR]
    have hb9 : x2 = (rxS (nw u) (u.2.1 24) c0).1 c0 := by rw [ex2, hR]
    have hSB := rxS_B hrg hB hB0 hB1 c0 (by omega)
    have hv9 := rv_B hrg hSB.1 (by omega) (by omega) (show c0 < 9 by omega)
    refine lv_aload_n hx hb dX2_sweepOnce_28 rfl (lv_at hl 4 rfl) ?_
    refine va_get (D := dd) (ci := 4) (v := .ref (ad 17)) (C := RX2) (T := TX2) (N := 7) hx hb hts (fun _ h9 => List.mem_cons_of_mem _ (List.mem_append_left _ (List.mem_append_left _ (List.mem_append_right _ h9)))) hown hK hP (0) (wC_0 cy ad u1 X) rfl 0 (by decide) (hts (Cond.fieldLink RX2 10 "HeadGrid" "now" "LHeadGrid$State;") (List.mem_of_getElem? (i := 1) rfl)) (fun _ h9 => h9) rfl dX2_sweepOnce_29 ?_
    refine va_get (D := dd) (ci := 3) (v := .ref (ad 24)) (C := RX1) (T := TX1) (N := 7) hx hb hts (fun _ h9 => List.mem_cons_of_mem _ (List.mem_append_left _ (List.mem_append_right _ h9))) hown hK hP (17) (wC_now cy ad u1 X) rfl 6 (by decide) (hts (Cond.fieldLink RX2 135 "HeadGrid$State" "relaxedHeads" "[D") (List.mem_of_getElem? (i := 2) rfl)) (fun _ h9 => h9) rfl dX2_sweepOnce_32 ?_
    refine lv_iload_n hx hb dX2_sweepOnce_35 rfl (lv_at hl 2 rfl) ?_
    refine lv_dload hx hb dX2_sweepOnce_36 (lv_at hl 0 rfl) ?_
    refine wa_dast hx hb hK hP hD hS (wC_n6 cy ad u1 X) (t0 := 2) rfl (i := c0) (by omega) (by decide) dX2_sweepOnce_38 (wC_sn6 cy ad u1 X _) (fun H locs hP hD hS => ?_)
    obtain ⟨us5, hus5⟩ : ∃ z9z : CS, z9z = (u1.1, va_up u1.2.1 24 (vf_upd (u1.2.1 24) c0 x4), u1.2.2) := ⟨_, rfl⟩
    rw [← hus5] at hP hD
    have pus5_s : us5.2.1 (24) = (vf_upd (u1.2.1 24) c0 x4) := by rw [hus5]; first | exact va_up_s _ _ _ | rfl
    have pus5_o : ∀ j9, j9 ≠ 24 → us5.2.1 j9 = u1.2.1 j9 := fun j9 h9 => by rw [hus5]; exact va_up_n h9
    have pus5_1 : us5.1 = u1.1 := by rw [hus5]
    have pus5_221 : us5.2.2.1 = u1.2.2.1 := by rw [hus5]
    have pus5_222 : us5.2.2.2 = u1.2.2.2 := by rw [hus5]
    refine lv_dload hx hb dX2_sweepOnce_39 (lv_at hl 0 rfl) ?_
    refine lv_dload hx hb dX2_sweepOnce_41 (lv_at hl 1 rfl) ?_
    refine vp_callSd (va_runS (As := [.double x4, .double x2]) (rest := []) ⟨hx, hb, hml, hown, hts⟩ (c_X2_distance l x4 x2 (by rw [ha9]; exact hv9.1) (by rw [hb9]; exact (hSB.1 c0 (by omega)).1) (by rw [ha9, hb9]; exact (dB_sub hv9 (hSB.1 c0 (by omega)) (by omega)).1)) (va_cwS 2 hts gX2_sweepOnce_X2_distance rfl rfl rfl hd_X2_distance ⟨Nat.le_of_ble_eq_true rfl, Nat.le_of_ble_eq_true rfl⟩) ⟨fun a U g mk q => q, fun U hU hW => ⟨rfl, trivial⟩⟩ rfl rfl hl.1 rfl (lv_room (Nat.le_of_ble_eq_true rfl)) dX2_sweepOnce_43 ⟨Nat.le_of_ble_eq_true rfl, Nat.le_of_ble_eq_true rfl⟩).run (fun r6 hr6 => ?_)
    have hr6 : r6 = dfD x4 x2 := hr6
    subst hr6
    refine lv_dstore (lv' := [(8, .double (dfD x4 x2)), (6, .double x4), (4, .double x2), (3, .int (nI c0)), (1, .double z), (0, .ref (ad 0))]) hx hb dX2_sweepOnce_46 hl (by decide) rfl (fun ls hl => ?_)
    obtain ⟨df0, hdf⟩ : ∃ z9z, z9z = dfD x4 x2 := ⟨_, rfl⟩
    have hl : lv_has ls 10 [(8, .double df0), (6, .double x4), (4, .double x2), (3, .int (nI c0)), (1, .double z), (0, .ref (ad 0))] := by rw [hdf]; exact hl
    rw [ha9, hb9] at hdf
    refine lv_dload hx hb dX2_sweepOnce_48 (lv_at hl 0 rfl) ?_
    refine lv_dload_n hx hb dX2_sweepOnce_50 rfl (lv_at hl 4 rfl) ?_
    refine wd_lle (tgt := 60) hx hb dX2_sweepOnce_51 dX2_sweepOnce_52 (by decide) (fun cM => ?_) (fun cM => ?_)
    · refine lv_dload_n hx hb dX2_sweepOnce_60 rfl (lv_at hl 4 rfl) ?_
      refine lv_dstore_n (lv' := [(1, .double z), (8, .double df0), (6, .double x4), (4, .double x2), (3, .int (nI c0)), (0, .ref (ad 0))]) hx hb dX2_sweepOnce_61 rfl hl (by decide) rfl (fun ls hl => ?_)
      refine lv_iinc (v := (nI (c0 + 1))) (lv' := [(3, .int (nI (c0 + 1))), (1, .double z), (8, .double df0), (6, .double x4), (4, .double x2), (0, .ref (ad 0))]) hx hb dX2_sweepOnce_62 hl (k := 4) rfl (nI_1 _) (by decide) rfl (fun ls hl => ?_)
      refine lv_goto (tgt := 4) hx hb dX2_sweepOnce_65 (by decide) ?_
      exact iha (9 - (c0 + 1)) (c0 + 1, z, us5) _ _ ls (by omega) ⟨rfl, (by show c0 + 1 ≤ 9; omega), (pus5_1.trans hF1), (by show us5.2.2 = u.2.2; rw [hus5]; exact hF2), (fun k9 h9 => (pus5_o k9 h9).trans (hFo k9 h9)), (by show us5.2.1 24 = _; rw [pus5_s, hR, ha9]; rfl), (by show z = mxD _ _; unfold mxD; rw [if_neg (by rw [← hdf, ← hz]; exact cM)]; exact hz), hP, hD, hS, lv_sub hl [0, 1, 5] rfl⟩
    · refine lv_dload hx hb dX2_sweepOnce_55 (lv_at hl 0 rfl) ?_
      refine lv_goto (tgt := 61) hx hb dX2_sweepOnce_57 (by decide) ?_
      refine lv_dstore_n (lv' := [(1, .double df0), (8, .double df0), (6, .double x4), (4, .double x2), (3, .int (nI c0)), (0, .ref (ad 0))]) hx hb dX2_sweepOnce_61 rfl hl (by decide) rfl (fun ls hl => ?_)
      refine lv_iinc (v := (nI (c0 + 1))) (lv' := [(3, .int (nI (c0 + 1))), (1, .double df0), (8, .double df0), (6, .double x4), (4, .double x2), (0, .ref (ad 0))]) hx hb dX2_sweepOnce_62 hl (k := 4) rfl (nI_1 _) (by decide) rfl (fun ls hl => ?_)
      refine lv_goto (tgt := 4) hx hb dX2_sweepOnce_65 (by decide) ?_
      exact iha (9 - (c0 + 1)) (c0 + 1, df0, us5) _ _ ls (by omega) ⟨rfl, (by show c0 + 1 ≤ 9; omega), (pus5_1.trans hF1), (by show us5.2.2 = u.2.2; rw [hus5]; exact hF2), (fun k9 h9 => (pus5_o k9 h9).trans (hFo k9 h9)), (by show us5.2.1 24 = _; rw [pus5_s, hR, ha9]; rfl), (by show df0 = mxD _ _; unfold mxD; rw [if_pos (by rw [← hdf, ← hz]; exact cM)]; exact hdf), hP, hD, hS, lv_sub hl [0, 1, 5] rfl⟩
